/-! ===== the small machine's step, all of it ===== -/
theorem mx_mc_lt : ∀ k, k < 215 → mx_mc k < 13 := by decide +kernel
theorem mx_cal_ne {a pc : Nat} {vs r : List Value} {s' : mx_S} (h : mx_cal a vs pc r = some (.inl s')) : False := by
  unfold mx_cal at h
  split at h <;> cases h
/-- nothing is taken away -/
def mx_le (h h' : mx_H) : Prop := h.1 ≤ h'.1 ∧ h.2.1 ≤ h'.2.1
theorem mx_le_rf (h : mx_H) : mx_le h h := ⟨Nat.le_refl _, Nat.le_refl _⟩
theorem mx_le_new (h : mx_H) (k : Nat) (e : mx_E) : mx_le h (mx_new h k e) := ⟨Nat.le_succ _, Nat.le_add_right _ _⟩
theorem mx_le_set (h : mx_H) (k : Nat) (e : mx_E) : mx_le h (mx_set h k e) := ⟨Nat.le_refl _, Nat.le_refl _⟩
theorem mx_le_tr {a b c : mx_H} (h1 : mx_le a b) (h2 : mx_le b c) : mx_le a c := ⟨Nat.le_trans h1.1 h2.1, Nat.le_trans h1.2 h2.2⟩
theorem mx_psh_le {v : Option Value} {pc : Nat} {L : mx_L} {st : List Value} {h : mx_H} {s' : mx_S} (hs : mx_psh v pc L st h = some (.inl s')) : mx_le h s'.2.2.2 := by
  unfold mx_psh at hs
  split at hs <;> cases hs
  exact mx_le_rf _
theorem mx_sto_le {t i pc : Nat} {L : mx_L} {st : List Value} {h : mx_H} {s' : mx_S} (hs : mx_sto t i pc L st h = some (.inl s')) : mx_le h s'.2.2.2 := by
  unfold mx_sto at hs
  split at hs
  · next v r =>
    by_cases hc : mx_tag v = t ∧ i + (if t = 1 then 1 else 0) < L.length
    · rw [if_pos hc] at hs; cases hs; exact mx_le_rf _
    · rw [if_neg hc] at hs; cases hs
  · cases hs
theorem mx_nat_le {j pc : Nat} {L : mx_L} {st : List Value} {h : mx_H} {s' : mx_S} (hs : mx_nat j pc L st h = some (.inl s')) : mx_le h s'.2.2.2 := by
  unfold mx_nat at hs
  repeat' split at hs
  all_goals first | cases hs | skip
  all_goals first | exact mx_le_rf _ | exact mx_le_set _ _ _ | exact mx_le_new _ _ _
theorem mx_inv_le {a pc : Nat} {v : Int} {L : mx_L} {st : List Value} {h : mx_H} {s' : mx_S} (hs : mx_inv a v pc L st h = some (.inl s')) : mx_le h s'.2.2.2 := by
  unfold mx_inv at hs
  repeat' split at hs
  all_goals first | exact (mx_cal_ne hs).elim | exact mx_nat_le hs | cases hs
theorem mx_do_le {k a pc : Nat} {ins : Jvm.ClassFile.Instr} {v : Int} {L : mx_L} {st : List Value} {h : mx_H} {s' : mx_S} (hs : mx_do k ins a v pc L st h = some (.inl s')) : mx_le h s'.2.2.2 := by
  unfold mx_do at hs
  split at hs
  all_goals first | exact mx_psh_le hs | exact mx_sto_le hs | exact mx_inv_le hs | skip
  all_goals try simp only [mx_go, mx_if, mx_jmp, mx_ald, mx_ast, mx_nwa, mx_rv] at hs
  all_goals repeat' split at hs
  all_goals first | exact mx_psh_le hs | (cases hs <;> first | exact mx_le_rf _ | exact mx_le_set _ _ _ | exact mx_le_new _ _ _)
theorem mx_run_le : ∀ (n d k : Nat) (s : mx_S) (r : Option Value) (h' : mx_H), mx_run n d k s = some (r, h') → mx_le s.2.2.2 h' := by
  intro n
  induction n with
  | zero => intro d k s r h' h; simp [mx_run] at h
  | succ n ih =>
    intro d k s r h' h
    rw [mx_run] at h
    cases hs : mx_stp k s with
    | none => rw [hs] at h; simp at h
    | some z =>
      rw [hs] at h
      obtain s' | ⟨a, vs, pc, w⟩ | v := z
      · have h1 : mx_le s.2.2.2 s'.2.2.2 := by
          unfold mx_stp at hs
          split at hs
          · cases hs
          · exact mx_do_le hs
        exact mx_le_tr h1 (ih _ _ _ _ _ h)
      · cases d with
        | zero => simp at h
        | succ d =>
          dsimp only at h
          cases h1 : mx_run n d a (0, mx_ent (mx_ml a) vs, [], s.2.2.2) with
          | none => rw [h1] at h; simp at h
          | some y =>
            rw [h1] at h
            obtain ⟨v1, g1⟩ := y
            have z1 := ih _ _ _ _ _ h1
            have z2 := ih _ _ _ _ _ h
            exact mx_le_tr z1 z2
      · simp only [Option.some.injEq, Prod.mk.injEq] at h
        rw [← h.2]
        exact mx_le_rf _
section MXT
variable {p : Program} {l : Launch} {e : Env} {R : Room} {s : State} {m : MethodId} {args : Array Value} {below : List Frame} {meth : Method} {c : Code} {H : Heap} {locs : List Loc} {cells slots : Nat} {Q : State → Prop}
variable {dC : Nat → ClassId} {dI : Nat → Nat → Nat} {tc : Nat → ClassId} {sa : Nat → Nat} {base Ls : Nat} {xs : Nat → Int32} {av : Nat → Nat} {k pc c0 s0 a : Nat} {ls : Array Slot} {L : mx_L} {h : mx_H} {st r : List Value} {s' : mx_S}
theorem mx_s_nat (C : mx_Cx dC dI tc sa base Ls xs av k p R s m args meth c c0) (hk : mx_mc k < 13) {i j : Nat} {ins : Jvm.ClassFile.Instr} (hcase : (ins = .invokevirtual i ∧ (j = 24 ∨ j = 25 ∨ j = 26)) ∨ (ins = .invokestatic i ∧ (j = 20 ∨ j = 21 ∨ j = 22 ∨ j = 23)) ∨ (ins = .invokespecial i ∧ j = 27)) (hd : decode (mx_mb k) pc = .ok (ins, 3)) (hl : mx_has k (i, j, a, 0) = true) (X : mx_At dC dI tc sa base Ls xs k s c0 s0 L h H locs ls cells slots) (hs : mx_nat j pc L st h = some (.inl s')) (hrc : s'.2.2.2.1 ≤ c0 + R.cells) (hrs : s'.2.2.2.2.1 ≤ s0 + R.slots)
    (kk : mx_K p l e R s m args below meth c Q dC dI tc sa base Ls xs k c0 s0 s') : W p l e R s m args below meth c H locs cells slots Q (F0 m pc ls (st.map (mx_cv (mx_ad sa base)))) := by
  rcases hcase with ⟨rfl, rfl | rfl | rfl⟩ | ⟨rfl, rfl | rfl | rfl | rfl⟩ | ⟨rfl, rfl⟩
  · simp only [mx_nat] at hs
    split at hs
    · split at hs
      · next n f hh =>
        split at hs
        · next hc =>
          cases hs
          exact mx_s_clone C hk hd hl X hh hc.1 hc.2.1 hc.2.2 hrc hrs kk
        · cases hs
      · cases hs
    · cases hs
  · simp only [mx_nat] at hs
    split at hs
    · split at hs
      · next n hn =>
        split at hs
        · next hc =>
          cases hs
          exact mx_s_slen C hk hd hl X hn hc hrc hrs kk
        · cases hs
      · cases hs
    · cases hs
  · simp only [mx_nat] at hs
    split at hs
    · split at hs
      · next n hn =>
        split at hs
        · next hc =>
          cases hs
          exact mx_s_schr C hk hd hl X hn hc.1 hc.2 hrc hrs kk
        · cases hs
      · cases hs
    · cases hs
  · simp only [mx_nat] at hs
    split at hs
    · split at hs
      · next hc =>
        cases hs
        exact mx_s_max C hk hd hl X hc hrc hrs kk
      · cases hs
    · cases hs
  · simp only [mx_nat] at hs
    split at hs
    · split at hs
      · next hc =>
        cases hs
        exact mx_s_min C hk hd hl X hc hrc hrs kk
      · cases hs
    · cases hs
  · simp only [mx_nat] at hs
    split at hs
    · split at hs
      · next hc =>
        cases hs
        exact mx_s_abs C hk hd hl X hc hrc hrs kk
      · cases hs
    · cases hs
  · simp only [mx_nat] at hs
    split at hs
    · split at hs
      · next h0 h1 =>
        split at hs
        · next hc =>
          cases hs
          exact mx_s_copy C hk hd hl X h0 h1 hc kk
        · cases hs
      · cases hs
    · cases hs
  · simp only [mx_nat] at hs
    split at hs
    · split at hs
      · next hc =>
        cases hs
        exact mx_s_obj C hk hd hl X hc kk
      · cases hs
    · cases hs
theorem mx_s_all (C : mx_Cx dC dI tc sa base Ls xs av k p R s m args meth c c0) (hk : k < 215) (X : mx_At dC dI tc sa base Ls xs k s c0 s0 L h H locs ls cells slots) (hs : mx_stp k (pc, L, st, h) = some (.inl s')) (hrc : s'.2.2.2.1 ≤ c0 + R.cells) (hrs : s'.2.2.2.2.1 ≤ s0 + R.slots)
    (kk : mx_K p l e R s m args below meth c Q dC dI tc sa base Ls xs k c0 s0 s') : W p l e R s m args below meth c H locs cells slots Q (F0 m pc ls (st.map (mx_cv (mx_ad sa base)))) := by
  have hmc := mx_mc_lt k hk
  unfold mx_stp at hs
  split at hs
  · cases hs
  · next e0 he0 =>
    have hc := mx_tb_chk (mx_chk_lt k hk) he0
    obtain ⟨ins, a, v⟩ := e0
    simp only [mx_chk, Bool.and_eq_true, decide_eq_true_eq] at hc
    obtain ⟨hd, hl⟩ := hc
    dsimp only at hs hd hl
    have hx := C.1
    have hb := C.2.1
    unfold mx_do at hs
    split at hs
    · exact mx_s_load hx hb _ (Or.inl ⟨rfl, Or.inl ⟨rfl, rfl⟩⟩) hd X hs kk
    · exact mx_s_load hx hb _ (Or.inl ⟨rfl, Or.inr ⟨rfl, _, rfl, rfl⟩⟩) hd X hs kk
    · exact mx_s_load hx hb _ (Or.inr (Or.inl ⟨rfl, Or.inl ⟨rfl, rfl⟩⟩)) hd X hs kk
    · exact mx_s_load hx hb _ (Or.inr (Or.inl ⟨rfl, Or.inr ⟨rfl, _, rfl, rfl⟩⟩)) hd X hs kk
    · exact mx_s_load hx hb _ (Or.inr (Or.inr ⟨rfl, Or.inl ⟨rfl, rfl⟩⟩)) hd X hs kk
    · exact mx_s_load hx hb _ (Or.inr (Or.inr ⟨rfl, Or.inr ⟨rfl, _, rfl, rfl⟩⟩)) hd X hs kk
    · exact mx_s_store hx hb _ (Or.inl ⟨rfl, Or.inl ⟨rfl, rfl⟩⟩) hd X hs kk
    · exact mx_s_store hx hb _ (Or.inl ⟨rfl, Or.inr ⟨rfl, _, rfl, rfl⟩⟩) hd X hs kk
    · exact mx_s_store hx hb _ (Or.inr (Or.inl ⟨rfl, Or.inl ⟨rfl, rfl⟩⟩)) hd X hs kk
    · exact mx_s_store hx hb _ (Or.inr (Or.inl ⟨rfl, Or.inr ⟨rfl, _, rfl, rfl⟩⟩)) hd X hs kk
    · exact mx_s_store hx hb _ (Or.inr (Or.inr ⟨rfl, Or.inl ⟨rfl, rfl⟩⟩)) hd X hs kk
    · exact mx_s_store hx hb _ (Or.inr (Or.inr ⟨rfl, Or.inr ⟨rfl, _, rfl, rfl⟩⟩)) hd X hs kk
    · split at hs
      · next x hx0 =>
        cases hs
        exact mx_s_iinc hx hb hd X hx0 kk
      · cases hs
    · cases hs
      have hl2 : (pc : Int) + _ = (a : Int) := of_decide_eq_true hl
      exact lv_goto hx hb hd hl2 (kk H locs ls cells slots X)
    · split at hs
      · have hl2 : (pc : Int) + _ = (a : Int) := of_decide_eq_true hl
        exact mx_s_if hx hb hd hl2 X hs kk
      · cases hs
    · split at hs
      · have hl2 : (pc : Int) + _ = (a : Int) := of_decide_eq_true hl
        exact mx_s_icmp hx hb hd hl2 X hs kk
      · cases hs
    · have hl2 : (pc : Int) + _ = (a : Int) := of_decide_eq_true hl
      split at hs
      · cases hs
        exact lv_ifnullN hx hb hd hl2 (kk H locs ls cells slots X)
      · cases hs
        exact lv_ifnull hx hb hd (kk H locs ls cells slots X)
      · cases hs
    · have hl2 : (pc : Int) + _ = (a : Int) := of_decide_eq_true hl
      split at hs
      · cases hs
        exact lv_ifnonnullN hx hb hd (kk H locs ls cells slots X)
      · cases hs
        exact lv_ifnonnull hx hb hd hl2 (kk H locs ls cells slots X)
      · cases hs
    · split at hs
      · exact mx_s_tsw hx hb hd X hs kk
      · cases hs
    · split at hs
      · exact mx_s_lsw hx hb hd hl X hs kk
      · cases hs
    · split at hs
      · split at hs
        · next hh =>
          split at hs
          · next hci => exact mx_s_getf C hmc hd hl X hh hci hs kk
          · cases hs
        · cases hs
      · cases hs
    · have hl2 := Bool.and_eq_true_iff.mp hl
      split at hs
      · split at hs
        · next hh =>
          split at hs
          · next hci =>
            cases hs
            exact mx_s_putf C hmc hd hl2.1 hl2.2 X hh hci.1 hci.2.1 hci.2.2 kk
          · cases hs
        · cases hs
      · cases hs
    · exact mx_s_ald C (Or.inl ⟨rfl, rfl⟩) hd X hs kk
    · exact mx_s_ald C (Or.inr (Or.inl ⟨rfl, rfl⟩)) hd X hs kk
    · exact mx_s_ald C (Or.inr (Or.inr ⟨rfl, rfl⟩)) hd X hs kk
    · exact mx_s_ast C (Or.inl ⟨rfl, rfl, rfl⟩) hd X hs kk
    · exact mx_s_ast C (Or.inr (Or.inl ⟨rfl, rfl, rfl⟩)) hd X hs kk
    · exact mx_s_ast C (Or.inr (Or.inr ⟨rfl, rfl, rfl⟩)) hd X hs kk
    · split at hs
      · split at hs
        · next hh =>
          split at hs
          · next hc =>
            cases hs
            exact mx_s_aald C hd X hh hc.1 hc.2.1 hc.2.2.1 hc.2.2.2 kk
          · cases hs
        · cases hs
      · cases hs
    · split at hs
      · split at hs
        · next hh hw =>
          split at hs
          · next hc =>
            cases hs
            exact mx_s_aast C hd X hh hw hc.1 hc.2.1 hc.2.2.1 hc.2.2.2.1 hc.2.2.2.2 kk
          · cases hs
        · cases hs
      · cases hs
    · split at hs
      · split at hs
        · next hh =>
          split at hs
          · next hc =>
            cases hs
            exact mx_s_alen C hd X hh hc kk
          · cases hs
        · cases hs
      · cases hs
    · split at hs
      · exact mx_s_nwa C (Or.inl ⟨rfl, rfl, rfl⟩) hd X hs hrc hrs kk
      · exact mx_s_nwa C (Or.inr (Or.inl ⟨rfl, rfl, rfl⟩)) hd X hs hrc hrs kk
      · exact mx_s_nwa C (Or.inr (Or.inr ⟨rfl, rfl, rfl⟩)) hd X hs hrc hrs kk
      · cases hs
    · split at hs
      · next hc => exact mx_s_nwq C hmc hd hl hc.1 hc.2 X hs hrc hrs kk
      · cases hs
    · split at hs
      · next hc =>
        cases hs
        exact mx_s_new C hmc hd hl hc X hrc hrs kk
      · cases hs
    · split at hs
      · split at hs
        · next hh =>
          split at hs
          · next hc =>
            cases hs
            obtain ⟨rfl, hc2⟩ := hc
            exact mx_s_castI C hmc hd hl X hh hc2 kk
          · cases hs
        · cases hs
      · cases hs
    · split at hs
      · next ha =>
        cases hs
        have hl2 : (if a = 0 then mx_has k (_, 9, 0, v) else mx_has k (_, 11, a, 0)) = true := hl
        rw [if_pos ha] at hl2
        exact mx_s_ldcI C hmc hd hl2 X kk
      · next ha =>
        cases hs
        have hl2 : (if a = 0 then mx_has k (_, 9, 0, v) else mx_has k (_, 11, a, 0)) = true := hl
        rw [if_neg ha] at hl2
        exact mx_s_ldcS C hmc ha hd hl2 X kk
    · cases hs
      exact mx_s_ldcW C hmc hd (Bool.and_eq_true_iff.mp hl).2 X kk
    · cases hs
      exact mx_s_ldc2 C hmc hd hl X kk
    · obtain ⟨hl1, hl2⟩ := Bool.and_eq_true_iff.mp hl
      have hj : ∀ j : Nat, ([1, 24, 25, 26] : List Nat).contains j = true → j = 1 ∨ j = 24 ∨ j = 25 ∨ j = 26 := by
        intro j hj
        simpa using hj
      unfold mx_inv at hs
      rcases hj _ hl2 with hj | hj | hj | hj
      · rw [hj] at hs
        exfalso
        repeat' split at hs
        all_goals first | exact mx_cal_ne hs | cases hs
      · rw [hj] at hs hl1
        exact mx_s_nat C hmc (Or.inl ⟨rfl, Or.inl rfl⟩) hd hl1 X hs hrc hrs kk
      · rw [hj] at hs hl1
        exact mx_s_nat C hmc (Or.inl ⟨rfl, Or.inr (Or.inl rfl)⟩) hd hl1 X hs hrc hrs kk
      · rw [hj] at hs hl1
        exact mx_s_nat C hmc (Or.inl ⟨rfl, Or.inr (Or.inr rfl)⟩) hd hl1 X hs hrc hrs kk
    · obtain ⟨hl1, hl2⟩ := Bool.and_eq_true_iff.mp hl
      have hj : ∀ j : Nat, ([3, 4, 20, 21, 22, 23] : List Nat).contains j = true → j = 3 ∨ j = 4 ∨ j = 20 ∨ j = 21 ∨ j = 22 ∨ j = 23 := by
        intro j hj
        simpa using hj
      unfold mx_inv at hs
      rcases hj _ hl2 with hj | hj | hj | hj | hj | hj
      · rw [hj] at hs
        exfalso
        repeat' split at hs
        all_goals first | exact mx_cal_ne hs | cases hs
      · rw [hj] at hs
        exfalso
        repeat' split at hs
        all_goals first | exact mx_cal_ne hs | cases hs
      · rw [hj] at hs hl1
        exact mx_s_nat C hmc (Or.inr (Or.inl ⟨rfl, Or.inl rfl⟩)) hd hl1 X hs hrc hrs kk
      · rw [hj] at hs hl1
        exact mx_s_nat C hmc (Or.inr (Or.inl ⟨rfl, Or.inr (Or.inl rfl)⟩)) hd hl1 X hs hrc hrs kk
      · rw [hj] at hs hl1
        exact mx_s_nat C hmc (Or.inr (Or.inl ⟨rfl, Or.inr (Or.inr (Or.inl rfl))⟩)) hd hl1 X hs hrc hrs kk
      · rw [hj] at hs hl1
        exact mx_s_nat C hmc (Or.inr (Or.inl ⟨rfl, Or.inr (Or.inr (Or.inr rfl))⟩)) hd hl1 X hs hrc hrs kk
    · obtain ⟨hl1, hl2⟩ := Bool.and_eq_true_iff.mp hl
      have hj : ∀ j : Nat, ([5, 6, 27] : List Nat).contains j = true → j = 5 ∨ j = 6 ∨ j = 27 := by
        intro j hj
        simpa using hj
      unfold mx_inv at hs
      rcases hj _ hl2 with hj | hj | hj
      · rw [hj] at hs
        exfalso
        repeat' split at hs
        all_goals first | exact mx_cal_ne hs | cases hs
      · rw [hj] at hs
        exfalso
        repeat' split at hs
        all_goals first | exact mx_cal_ne hs | cases hs
      · rw [hj] at hs hl1
        exact mx_s_nat C hmc (Or.inr (Or.inr ⟨rfl, rfl⟩)) hd hl1 X hs hrc hrs kk
    · simp only [mx_rv] at hs
      repeat' split at hs
      all_goals cases hs
    · simp only [mx_rv] at hs
      repeat' split at hs
      all_goals cases hs
    · simp only [mx_rv] at hs
      repeat' split at hs
      all_goals cases hs
    · simp only [mx_rv] at hs
      repeat' split at hs
      all_goals cases hs
    · split at hs
      · next st' hst =>
        cases hs
        refine mx_s_sk hx hb ?_ hst (kk H locs ls cells slots X)
        unfold mx_dl at hd
        split at hd
        · simp [mx_sk] at hst
        · simp [mx_sk] at hst
        · exact hd
      · cases hs
end MXT
