/-! ===== a run of the small machine is a run of the machine ===== -/
/-- how a method ends -/
def mx_rk (k pc : Nat) (st : List Value) (v : Option Value) : Prop :=
  (decode (mx_mb k) pc = .ok (.ireturn, 1) ∧ ∃ x, v = some (.int x) ∧ st = [.int x] ∧ mx_ri (mx_mr k) x = true) ∨
  (decode (mx_mb k) pc = .ok (.lreturn, 1) ∧ ∃ x, v = some (.long x) ∧ st = [.long x] ∧ mx_mr k = some .long) ∨
  (decode (mx_mb k) pc = .ok (.areturn, 1) ∧ ∃ w, v = some w ∧ st = [w] ∧ mx_ro (mx_mr k) = true ∧ (w = .null ∨ ∃ b, w = .ref b)) ∨
  (decode (mx_mb k) pc = .ok (.return_, 1) ∧ v = none ∧ st = [] ∧ mx_mr k = none)
theorem mx_psh_nr {v : Option Value} {pc : Nat} {L : mx_L} {st : List Value} {h : mx_H} {z : (Nat × List Value × Nat × List Value) ⊕ Option Value} (hs : mx_psh v pc L st h = some (.inr z)) : False := by
  unfold mx_psh at hs
  split at hs <;> cases hs
theorem mx_sto_nr {t i pc : Nat} {L : mx_L} {st : List Value} {h : mx_H} {z : (Nat × List Value × Nat × List Value) ⊕ Option Value} (hs : mx_sto t i pc L st h = some (.inr z)) : False := by
  unfold mx_sto at hs
  split at hs
  · next v r =>
    by_cases hc : mx_tag v = t ∧ i + (if t = 1 then 1 else 0) < L.length
    · rw [if_pos hc] at hs; cases hs
    · rw [if_neg hc] at hs; cases hs
  · cases hs
theorem mx_nat_nr {j pc : Nat} {L : mx_L} {st : List Value} {h : mx_H} {z : (Nat × List Value × Nat × List Value) ⊕ Option Value} (hs : mx_nat j pc L st h = some (.inr z)) : False := by
  unfold mx_nat at hs
  repeat' split at hs
  all_goals cases hs
theorem mx_cal_of {a pc : Nat} {vs r : List Value} {z : (Nat × List Value × Nat × List Value) ⊕ Option Value} (hs : mx_cal a vs pc r = some (.inr z)) : z = .inl (a, vs, pc, r) ∧ mx_ok8 r = true ∧ (mx_pl vs).length ≤ mx_ml a := by
  unfold mx_cal at hs
  split at hs
  · next hc => cases hs; exact ⟨rfl, hc⟩
  · cases hs
theorem mx_inv_nv {a pc : Nat} {v : Int} {L : mx_L} {st : List Value} {h : mx_H} {w : Option Value} (hs : mx_inv a v pc L st h = some (.inr (.inr w))) : False := by
  unfold mx_inv at hs
  repeat' split at hs
  all_goals first | exact mx_nat_nr hs | (cases hs; done) | (have z := (mx_cal_of hs).1; cases z)
theorem mx_rk_of {k pc : Nat} {L : mx_L} {st : List Value} {h : mx_H} {v : Option Value} (hk : k < 215) (hs : mx_stp k (pc, L, st, h) = some (.inr (.inr v))) : mx_rk k pc st v := by
  unfold mx_stp at hs
  split at hs
  · cases hs
  · next e0 he0 =>
    have hc := mx_tb_chk (mx_chk_lt k hk) he0
    obtain ⟨ins, a, w⟩ := e0
    simp only [mx_chk, Bool.and_eq_true, decide_eq_true_eq] at hc
    obtain ⟨hd, hl⟩ := hc
    dsimp only at hs hd hl
    unfold mx_do at hs
    split at hs
    all_goals first | exact (mx_psh_nr hs).elim | exact (mx_sto_nr hs).elim | exact (mx_inv_nv hs).elim | skip
    all_goals try simp only [mx_go, mx_if, mx_jmp, mx_ald, mx_ast, mx_nwa, mx_rv] at hs
    all_goals repeat' split at hs
    all_goals first | exact (mx_psh_nr hs).elim | (cases hs; done) | skip
    · next hri => cases hs; exact Or.inl ⟨hd, _, rfl, rfl, hri⟩
    · next hri => cases hs; exact Or.inr (Or.inl ⟨hd, _, rfl, rfl, hri⟩)
    · next hri => cases hs; exact Or.inr (Or.inr (Or.inl ⟨hd, _, rfl, rfl, hri, Or.inr ⟨_, rfl⟩⟩))
    · next hri => cases hs; exact Or.inr (Or.inr (Or.inl ⟨hd, _, rfl, rfl, hri, Or.inl rfl⟩))
    · next hri => cases hs; exact Or.inr (Or.inr (Or.inr ⟨hd, rfl, rfl, hri⟩))
/-- how a method is called -/
def mx_ck (k pc a : Nat) (h : mx_H) (st vs r : List Value) : Prop := mx_ok8 r = true ∧ (mx_pl vs).length ≤ mx_ml a ∧
  ((∃ (i b : Nat) (As fs : List Value), decode (mx_mb k) pc = .ok (.invokevirtual i, 3) ∧ mx_has k (i, 1, a, 0) = true ∧ vs = .ref b :: As ∧ st = As.reverse ++ .ref b :: r ∧ As.length = mx_np a ∧ h.2.2 b = .inr (mx_mc a, fs)) ∨
   (∃ (i j : Nat), (j = 3 ∨ j = 4) ∧ decode (mx_mb k) pc = .ok (.invokestatic i, 3) ∧ mx_has k (i, j, a, 0) = true ∧ st = vs.reverse ++ r ∧ vs.length = mx_np a) ∨
   (∃ (i j b : Nat) (As : List Value), (j = 5 ∨ j = 6) ∧ decode (mx_mb k) pc = .ok (.invokespecial i, 3) ∧ mx_has k (i, j, a, 0) = true ∧ vs = .ref b :: As ∧ st = As.reverse ++ .ref b :: r ∧ As.length = mx_np a))
theorem mx_inv_1 {a pc : Nat} {v : Int} {L : mx_L} {st : List Value} {h : mx_H} {x : Option mx_R} (hv : v.toNat = 1) (hs : mx_inv a v pc L st h = x) : (if (st.take (mx_np a)).length = mx_np a then match st.drop (mx_np a) with
      | .ref b :: r => match h.2.2 b with
        | .inr (ci, _) => if ci = mx_mc a then mx_cal a (.ref b :: (st.take (mx_np a)).reverse) (pc + 3) r else none
        | _ => none
      | _ => none
    else none) = x := by
  unfold mx_inv at hs
  rw [hv] at hs
  exact hs
theorem mx_inv_3 {a pc : Nat} {v : Int} {L : mx_L} {st : List Value} {h : mx_H} {x : Option mx_R} (hv : v.toNat = 3 ∨ v.toNat = 4) (hs : mx_inv a v pc L st h = x) : (if (st.take (mx_np a)).length = mx_np a then mx_cal a (st.take (mx_np a)).reverse (pc + 3) (st.drop (mx_np a)) else none) = x := by
  unfold mx_inv at hs
  rcases hv with hv | hv <;> rw [hv] at hs <;> exact hs
theorem mx_inv_5 {a pc : Nat} {v : Int} {L : mx_L} {st : List Value} {h : mx_H} {x : Option mx_R} (hv : v.toNat = 5 ∨ v.toNat = 6) (hs : mx_inv a v pc L st h = x) : (if (st.take (mx_np a)).length = mx_np a then match st.drop (mx_np a) with
      | .ref b :: r => mx_cal a (.ref b :: (st.take (mx_np a)).reverse) (pc + 3) r
      | _ => none
    else none) = x := by
  unfold mx_inv at hs
  rcases hv with hv | hv <;> rw [hv] at hs <;> exact hs
theorem mx_inv_n {a pc j : Nat} {v : Int} {L : mx_L} {st : List Value} {h : mx_H} {x : Option mx_R} (hv : v.toNat = j) (hj : 20 ≤ j) (hs : mx_inv a v pc L st h = x) : mx_nat j pc L st h = x := by
  unfold mx_inv at hs
  rw [hv] at hs
  split at hs
  · omega
  · omega
  · omega
  · omega
  · omega
  · exact hs
theorem mx_ck_of {k pc a pc' : Nat} {L : mx_L} {st vs r : List Value} {h : mx_H} (hk : k < 215) (hs : mx_stp k (pc, L, st, h) = some (.inr (.inl (a, vs, pc', r)))) : pc' = pc + 3 ∧ mx_ck k pc a h st vs r := by
  have htd : ∀ n : Nat, st.take n ++ st.drop n = st := fun n => List.take_append_drop n st
  unfold mx_stp at hs
  split at hs
  · cases hs
  · next e0 he0 =>
    have hc := mx_tb_chk (mx_chk_lt k hk) he0
    obtain ⟨ins, a0, w⟩ := e0
    simp only [mx_chk, Bool.and_eq_true, decide_eq_true_eq] at hc
    obtain ⟨hd, hl⟩ := hc
    dsimp only at hs hd hl
    unfold mx_do at hs
    split at hs
    all_goals first | exact (mx_psh_nr hs).elim | exact (mx_sto_nr hs).elim | skip
    case h_39 =>
      obtain ⟨hl1, hl2⟩ := Bool.and_eq_true_iff.mp hl
      have hj : ∀ j : Nat, ([1, 24, 25, 26] : List Nat).contains j = true → j = 1 ∨ j = 24 ∨ j = 25 ∨ j = 26 := by
        intro j hj
        simpa using hj
      rcases hj _ hl2 with hj | hj | hj | hj
      · have hs := mx_inv_1 hj hs
        rw [hj] at hl1
        split at hs
        · next hn =>
          split at hs
          · next b r' hdr =>
            split at hs
            · next ci fs hh =>
              split at hs
              · next hci =>
                obtain ⟨z, z1, z2⟩ := mx_cal_of hs
                cases z
                subst hci
                exact ⟨rfl, z1, z2, Or.inl ⟨_, b, _, fs, hd, hl1, rfl, by rw [List.reverse_reverse, ← hdr]; exact (htd _).symm, by rw [List.length_reverse]; exact hn, hh⟩⟩
              · cases hs
            · cases hs
          · cases hs
        · cases hs
      · exact (mx_nat_nr (mx_inv_n hj (by omega) hs)).elim
      · exact (mx_nat_nr (mx_inv_n hj (by omega) hs)).elim
      · exact (mx_nat_nr (mx_inv_n hj (by omega) hs)).elim
    case h_40 =>
      obtain ⟨hl1, hl2⟩ := Bool.and_eq_true_iff.mp hl
      have hj : ∀ j : Nat, ([3, 4, 20, 21, 22, 23] : List Nat).contains j = true → j = 3 ∨ j = 4 ∨ j = 20 ∨ j = 21 ∨ j = 22 ∨ j = 23 := by
        intro j hj
        simpa using hj
      rcases hj _ hl2 with hj | hj | hj | hj | hj | hj
      · have hs := mx_inv_3 (Or.inl hj) hs
        rw [hj] at hl1
        split at hs
        · next hn =>
          obtain ⟨z, z1, z2⟩ := mx_cal_of hs
          cases z
          exact ⟨rfl, z1, z2, Or.inr (Or.inl ⟨_, 3, Or.inl rfl, hd, hl1, by rw [List.reverse_reverse]; exact (htd _).symm, by rw [List.length_reverse]; exact hn⟩)⟩
        · cases hs
      · have hs := mx_inv_3 (Or.inr hj) hs
        rw [hj] at hl1
        split at hs
        · next hn =>
          obtain ⟨z, z1, z2⟩ := mx_cal_of hs
          cases z
          exact ⟨rfl, z1, z2, Or.inr (Or.inl ⟨_, 4, Or.inr rfl, hd, hl1, by rw [List.reverse_reverse]; exact (htd _).symm, by rw [List.length_reverse]; exact hn⟩)⟩
        · cases hs
      · exact (mx_nat_nr (mx_inv_n hj (by omega) hs)).elim
      · exact (mx_nat_nr (mx_inv_n hj (by omega) hs)).elim
      · exact (mx_nat_nr (mx_inv_n hj (by omega) hs)).elim
      · exact (mx_nat_nr (mx_inv_n hj (by omega) hs)).elim
    case h_41 =>
      obtain ⟨hl1, hl2⟩ := Bool.and_eq_true_iff.mp hl
      have hj : ∀ j : Nat, ([5, 6, 27] : List Nat).contains j = true → j = 5 ∨ j = 6 ∨ j = 27 := by
        intro j hj
        simpa using hj
      rcases hj _ hl2 with hj | hj | hj
      · have hs := mx_inv_5 (Or.inl hj) hs
        rw [hj] at hl1
        split at hs
        · next hn =>
          split at hs
          · next b r' hdr =>
            obtain ⟨z, z1, z2⟩ := mx_cal_of hs
            cases z
            exact ⟨rfl, z1, z2, Or.inr (Or.inr ⟨_, 5, b, _, Or.inl rfl, hd, hl1, rfl, by rw [List.reverse_reverse, ← hdr]; exact (htd _).symm, by rw [List.length_reverse]; exact hn⟩)⟩
          · cases hs
        · cases hs
      · have hs := mx_inv_5 (Or.inr hj) hs
        rw [hj] at hl1
        split at hs
        · next hn =>
          split at hs
          · next b r' hdr =>
            obtain ⟨z, z1, z2⟩ := mx_cal_of hs
            cases z
            exact ⟨rfl, z1, z2, Or.inr (Or.inr ⟨_, 6, b, _, Or.inr rfl, hd, hl1, rfl, by rw [List.reverse_reverse, ← hdr]; exact (htd _).symm, by rw [List.length_reverse]; exact hn⟩)⟩
          · cases hs
        · cases hs
      · exact (mx_nat_nr (mx_inv_n hj (by omega) hs)).elim
    all_goals try simp only [mx_go, mx_if, mx_jmp, mx_ald, mx_ast, mx_nwa, mx_rv] at hs
    all_goals repeat' split at hs
    all_goals first | exact (mx_psh_nr hs).elim | (cases hs; done)
/-- what the words of a method need: its code, the tables' good words -/
def mx_ws (k : Nat) : List Cond := Cond.code (mx_my k) (mx_mb k) (mx_ml k) (mx_mr k) :: mx_ts
theorem mx_ws_good {k : Nat} (hk : k < 214) : GoodIn mx_ts (mx_ws k) := by
  intro w hw
  rcases List.mem_cons.mp hw with rfl | hw
  · have h := (mx_okm k hk).2.2.2.2.1
    exact ⟨h, good_of_word (List.mem_filter.mp h).2⟩
  · exact ⟨hw, good_of_word (List.mem_filter.mp hw).2⟩
set_option maxRecDepth 10000 in
theorem mx_room {z d x : Nat} (h : z ≤ 20) (hlo : 40 * (d + 1) + 400 ≤ x) : 8 + (z + 11) + (40 * d + 400) ≤ x := by omega
theorem mx_cn_cl : ∀ (c : Nat) (q : vw_C), mx_cl[c]? = some q → q.1 = mx_cn c := by
  intro c q hq
  have hlt : c < 10 := (List.getElem?_eq_some_iff.mp hq).1
  match c, hlt, hq with
  | 0, _, hq => cases hq; rfl
  | 1, _, hq => cases hq; rfl
  | 2, _, hq => cases hq; rfl
  | 3, _, hq => cases hq; rfl
  | 4, _, hq => cases hq; rfl
  | 5, _, hq => cases hq; rfl
  | 6, _, hq => cases hq; rfl
  | 7, _, hq => cases hq; rfl
  | 8, _, hq => cases hq; rfl
  | 9, _, hq => cases hq; rfl
theorem mx_ini_ret : ∀ k, k < 214 → (mx_my k).name = "<init>" → mx_mr k = none := by decide +kernel
theorem mx_EX_warm {sa : Nat → Nat} {base Ls : Nat} {xs : Nat → Int32} {av : Nat → Nat} {s U : State} {H : Heap} (hW : s.WarmedH U.vm) (h : mx_EX sa base Ls xs av s H) : mx_EX sa base Ls xs av U H := by
  obtain ⟨h1, h2, h3, h4, h5⟩ := h
  exact ⟨h1, h2.moved hW.alike, h3.moved hW.alike, va_Z.moved hW.alike h4, va_Zq.moved hW.alike h5⟩
section MXM
variable {p : Program} {l : Launch} {e : Env} {R : Room} {s : State} {m : MethodId} {args : Array Value} {below : List Frame} {meth : Method} {c : Code} {H : Heap} {locs : List Loc} {cells slots : Nat} {Q : State → Prop}
variable {dC : Nat → ClassId} {dI : Nat → Nat → Nat} {tc : Nat → ClassId} {sa : Nat → Nat} {base Ls : Nat} {xs : Nat → Int32} {av : Nat → Nat} {k pc c0 s0 a : Nat} {ls : Array Slot} {L : mx_L} {h : mx_H} {st r : List Value} {s' : mx_S}
/-- a call, whatever it answers -/
theorem mx_callx {rest st0 : List Value} {mc ms : Nat} {free : Addr → Prop} {A0 : Nat → Prop} {H0 : Heap} {Qa : State → Outcome → State → Prop} (hr : va_Run p l e R s m args below meth c H locs cells slots mc ms (F0 m pc ls st0) rest Qa free) (hS : va_S A0 H0 H locs) (hf : ∀ q, free q → A0 q) (hQ : ∀ (x t : State) (v : Option Value), Qa x (.returned v) t → va_F A0 x t)
    (kk : ∀ (v : Option Value) (x t : State) (H1 : Heap) (locs1 : List Loc), x.heap = H → t.heap = H1 → Qa x (.returned v) t → va_S A0 H0 H1 locs1 → W p l e R s m args below meth c H1 locs1 (cells + mc) (slots + ms) Q (F0 m (pc + 3) ls (v.toList ++ rest))) : W p l e R s m args below meth c H locs cells slots Q (F0 m pc ls st0) := by
  intro T hT X
  obtain ⟨v, x, t, T', L, h0, X', hL, e1, e2, hq, st⟩ := hr T hT X
  obtain ⟨hz, hk⟩ := hQ _ _ _ hq
  rw [h0] at hz hk
  obtain ⟨t2, a1, b1⟩ := kk v x t T'.heap (locs ++ L) h0 e1.symm hq
    ⟨Nat.le_trans hS.1 (by rw [e1]; exact hz), fun q h1 h2 => by rw [e1, hk q (Nat.lt_of_lt_of_le h1 hS.1) h2]; exact hS.2.1 q h1 h2, fun q hq => by
      rcases List.mem_append.mp hq with h | h
      · exact hS.2.2 q h
      · exact hf _ (hL q h)⟩ T' rfl X'
  exact ⟨t2, st t2 a1, b1⟩
/-- a method's start and end, by the small machine's heaps -/
def mx_Pc (dC : Nat → ClassId) (dI : Nat → Nat → Nat) (tc : Nat → ClassId) (sa : Nat → Nat) (base Ls : Nat) (xs : Nat → Int32) (av : Nat → Nat) (vs : List Value) (h : mx_H) : Array Value → State → Prop := fun v U => v = (vs.map (mx_cv (mx_ad sa base))).toArray ∧ mx_KK dC dI tc sa U ∧ mx_EX sa base Ls xs av U U.heap ∧ U.heap.size = base + h.1 ∧ mx_Rp dC dI tc sa base Ls xs h U.heap
def mx_Qc (dC : Nat → ClassId) (dI : Nat → Nat → Nat) (tc : Nat → ClassId) (sa : Nat → Nat) (base Ls : Nat) (xs : Nat → Int32) (r : Option Value) (h' : mx_H) : Array Value → State → Outcome → State → Prop := fun _ x o t => o = .returned (r.map (mx_cv (mx_ad sa base))) ∧ mx_Rp dC dI tc sa base Ls xs h' t.heap ∧ va_F (mx_A base) x t
def mx_rm (d mc ms : Nat) : Room := { frames := d + 10, cells := mc, slots := ms, locals := 40 * d + 400 }
/-- a run of n steps at most, anywhere in the machine -/
def mx_Snd (l : Launch) (dC : Nat → ClassId) (dI : Nat → Nat → Nat) (tc : Nat → ClassId) (sa : Nat → Nat) (base Ls : Nat) (xs : Nat → Int32) (av : Nat → Nat) (n : Nat) : Prop :=
  ∀ (d k pc : Nat) (L : mx_L) (st : List Value) (h h' : mx_H) (r : Option Value), k < 215 → mx_run n d k (pc, L, st, h) = some (r, h') →
  ∀ {p : Program} {e : Env} {R : Room} {s : State} {m : MethodId} {args : Array Value} {below : List Frame} {meth : Method} {c : Code} (H : Heap) (locs : List Loc) (cells slots : Nat) (Q : State → Prop) (ls : Array Slot) (c0 s0 : Nat),
  mx_Cx dC dI tc sa base Ls xs av k p R s m args meth c c0 → mx_At dC dI tc sa base Ls xs k s c0 s0 L h H locs ls cells slots → h'.1 ≤ c0 + R.cells → h'.2.1 ≤ s0 + R.slots → d + 10 ≤ R.frames → 40 * d + 400 ≤ R.locals →
  (∀ (pc1 : Nat) (st1 : List Value) (ls1 : Array Slot) (H1 : Heap) (locs1 : List Loc) (cells1 slots1 : Nat), mx_rk k pc1 st1 r → mx_Rp dC dI tc sa base Ls xs h' H1 → va_S (mx_A base) s.heap H1 locs1 → cells1 + c0 = h'.1 → slots1 + s0 = h'.2.1 → W p l e R s m args below meth c H1 locs1 cells1 slots1 Q (F0 m pc1 ls1 (st1.map (mx_cv (mx_ad sa base))))) →
  W p l e R s m args below meth c H locs cells slots Q (F0 m pc ls (st.map (mx_cv (mx_ad sa base))))
/-- so a method meets its contract -/
theorem mx_met {n d : Nat} {vs : List Value} {h' : mx_H} {r0 : Option Value} (S : mx_Snd l dC dI tc sa base Ls xs av n) (ha : a < 214) (hr : mx_run n d a (0, mx_ent (mx_ml a) vs, [], h) = some (r0, h')) (hvs : (mx_pl vs).length ≤ mx_ml a) :
    Met l (mx_my a) (mx_ws a) (mx_rm d (h'.1 - h.1) (h'.2.1 - h.2.1)) (mx_Pc dC dI tc sa base Ls xs av vs h) (mx_Qc dC dI tc sa base Ls xs r0 h') (h'.1 - h.1) (h'.2.1 - h.2.1) (mx_A base) := by
  obtain ⟨o1, o2, o3, o4, o5, o6, o7⟩ := mx_okm a ha
  have hle := mx_run_le _ _ _ _ _ _ hr
  have hle1 : h.1 ≤ h'.1 := hle.1
  have hle2 : h.2.1 ≤ h'.2.1 := hle.2
  refine Met.ofW (cc := mx_mb a) (maxL := mx_ml a) (ret := mx_mr a) o2 rfl ?_
  intro p e s m args below meth c s₁ B hml hv
  obtain ⟨rfl, hKK, hEX, hsz, hRp⟩ := hv
  have hx := B.exec
  have hb := B.bytes
  have hret := B.returns
  have hts := atoms_spec (ws := mx_ws a) B.pre
  have hown : s.vm.findClass (mx_cn (mx_mc a)) = some m.cls := by rw [← o1]; exact findClass_of_methodNamed B.named
  have hlocks := B.notSynchronized
  have hin : (mx_my a).name = "<init>" → meth.name = "<init>" := fun z => (name_of_methodNamed B.named B.method).1.trans z
  have hl := mx_LR.entry (ad := mx_ad sa base) hvs
  rw [lg_entry_eq]
  generalize (lg_sl (vs.map (mx_cv (mx_ad sa base))) ++ List.replicate (mx_ml a - (lg_sl (vs.map (mx_cv (mx_ad sa base)))).length) Slot.unset).toArray = ls at hl ⊢
  have hcx : mx_Cx dC dI tc sa base Ls xs av a p (headSpec (mx_ws a) (mx_rm d (h'.1 - h.1) (h'.2.1 - h.2.1))).room s m ((vs.map (mx_cv (mx_ad sa base))).toArray) meth c h.1 := by
    refine ⟨hx, hb, hml, hown, fun w hw => hts w (List.mem_cons_of_mem _ hw), hin, hKK, hEX, hsz, ?_, ?_⟩
    · show 10 ≤ d + 10; omega
    · show 400 ≤ 40 * d + 400; omega
  refine S d a 0 (mx_ent (mx_ml a) vs) [] h h' r0 (by omega) hr s.heap [] 0 0 _ ls h.1 h.2.1 hcx ⟨hRp, va_S.rf, hl, by omega, by omega⟩ ?_ ?_ ?_ ?_ ?_
  · show h'.1 ≤ h.1 + (h'.1 - h.1); omega
  · show h'.2.1 ≤ h.2.1 + (h'.2.1 - h.2.1); omega
  · show d + 10 ≤ d + 10; omega
  · show 40 * d + 400 ≤ 40 * d + 400; omega
  · intro pc1 st1 ls1 H1 locs1 cells1 slots1 hrk hRp1 hS1 hc1 hs1
    have e1 : cells1 = h'.1 - h.1 := by omega
    have e2 : slots1 = h'.2.1 - h.2.1 := by omega
    subst e1; subst e2
    rcases hrk with ⟨hd, x, rfl, rfl, hri⟩ | ⟨hd, x, rfl, rfl, hri⟩ | ⟨hd, w, rfl, rfl, hri, hw⟩ | ⟨hd, rfl, rfl, hri⟩
    · have hty : ∃ ty, mx_mr a = some ty ∧ narrow ty (.int x) = .int x := by
        unfold mx_ri at hri
        split at hri
        · next q => exact ⟨_, q, rfl⟩
        · next q =>
          refine ⟨_, q, ?_⟩
          rcases of_decide_eq_true hri with rfl | rfl <;> rfl
        · cases hri
      obtain ⟨ty, q1, q2⟩ := hty
      exact W.zret hx hb (hret.trans q1) q2 (fun t ht hW => ⟨rfl, by rw [ht]; exact hRp1, hS1.F ht⟩) hS1.2.2 hd
    · exact W.lret hx hb (hret.trans hri) (fun t ht hW => ⟨rfl, by rw [ht]; exact hRp1, hS1.F ht⟩) hS1.2.2 hd
    · have hty : ∃ nm, mx_mr a = some (.object nm) := by
        unfold mx_ro at hri
        split at hri
        · next nm q => exact ⟨nm, q⟩
        · cases hri
      obtain ⟨nm, q1⟩ := hty
      refine W.aret hx hb (hret.trans q1) (Or.inl ⟨nm, rfl⟩) (v := mx_cv (mx_ad sa base) w) ?_ (fun t ht hW => ⟨rfl, by rw [ht]; exact hRp1, hS1.F ht⟩) hS1.2.2 hd
      rcases hw with rfl | ⟨b, rfl⟩
      · exact Or.inl rfl
      · exact Or.inr ⟨_, rfl⟩
    · exact W.vret hx hb (hret.trans hri) (fun t ht hW => ⟨rfl, by rw [ht]; exact hRp1, hS1.F ht⟩) hS1.2.2 hd
/-- the call itself -/
theorem mx_s_call {n d pc1 : Nat} {vs : List Value} {h1 : mx_H} {r0 : Option Value} (S : mx_Snd l dC dI tc sa base Ls xs av n) (C : mx_Cx dC dI tc sa base Ls xs av k p R s m args meth c c0) (hk : k < 215) (X : mx_At dC dI tc sa base Ls xs k s c0 s0 L h H locs ls cells slots) (hs : mx_stp k (pc, L, st, h) = some (.inr (.inl (a, vs, pc1, r)))) (hr : mx_run n d a (0, mx_ent (mx_ml a) vs, [], h) = some (r0, h1)) (hrc : h1.1 ≤ c0 + R.cells) (hrs : h1.2.1 ≤ s0 + R.slots) (hfr : d + 1 + 10 ≤ R.frames) (hlo : 40 * (d + 1) + 400 ≤ R.locals)
    (kk : mx_K p l e R s m args below meth c Q dC dI tc sa base Ls xs k c0 s0 (pc1, L, r0.toList ++ r, h1)) : W p l e R s m args below meth c H locs cells slots Q (F0 m pc ls (st.map (mx_cv (mx_ad sa base)))) := by
  obtain ⟨rfl, h8, hvs, hcase⟩ := mx_ck_of hk hs
  have hmc := mx_mc_lt k hk
  have ha : a < 214 := by
    rcases hcase with ⟨i, b, As, fs, -, g, -⟩ | ⟨i, j, rfl | rfl, -, g, -⟩ | ⟨i, j, b, As, rfl | rfl, -, g, -⟩
    · exact (mx_link hmc g).1
    · exact (mx_link hmc g).1
    · exact (mx_link hmc g).1
    · exact (mx_link hmc g).1
    · exact (mx_link hmc g).1
  obtain ⟨o1, o2, o3, o4, o5, o6, o7⟩ := mx_okm a ha
  have hM := mx_met S ha hr hvs
  obtain ⟨hx, hb, hml, hown, hts, hin, hK, hE, hsz, -, -⟩ := C
  have hle := mx_run_le _ _ _ _ _ _ hr
  have hle1 : h.1 ≤ h1.1 := hle.1
  have hle2 : h.2.1 ≤ h1.2.1 := hle.2
  have e1 := X.2.2.2.1
  have e2 := X.2.2.2.2
  have hroom : (mx_rm d (h1.1 - h.1) (h1.2.1 - h.2.1)).frames + 1 ≤ R.frames ∧ 8 + (mx_ml a + 11) + (mx_rm d (h1.1 - h.1) (h1.2.1 - h.2.1)).locals ≤ R.locals := by
    constructor
    · show d + 10 + 1 ≤ R.frames; omega
    · exact mx_room o7 hlo
  have hini : (Cond.initialized (mx_my a).cls).before args s = true := hts _ o6
  have hdd : (mx_my a).cls ≠ "java/lang/invoke/MethodHandle" ∧ (mx_my a).cls ≠ "java/lang/invoke/VarHandle" ∧ (parseMethodDescriptor (mx_my a).desc).map (fun d => d.parameters.length) = some (mx_np a) := ⟨o3.1, o3.2, o4⟩
  have hblind : FrameBlind (mx_Pc dC dI tc sa base Ls xs av vs h) := by
    intro v U g mk q
    obtain ⟨q1, q2, q3, q4, q5⟩ := q
    refine ⟨q1, mx_KK.same rfl q2, ?_, q4, q5⟩
    obtain ⟨z1, z2, z3, z4, z5⟩ := q3
    exact ⟨z1, va_X.moved (u := U) (U := U.calling g mk v) (Vm.Alike.refl U.vm) z2, vk_S.moved (u := U) (U := U.calling g mk v) (Vm.Alike.refl U.vm) z3, va_Z.moved (u := U) (U := U.calling g mk v) (Vm.Alike.refl U.vm) z4, va_Zq.moved (u := U) (U := U.calling g mk v) (Vm.Alike.refl U.vm) z5⟩
  have hpre : ∀ U : State, U.heap = H → s.WarmedH U.vm → H.size = base + h.1 → mx_Pc dC dI tc sa base Ls xs av vs h (vs.map (mx_cv (mx_ad sa base))).toArray U := by
    intro U hU hW hHs
    have hE2 := hE.kept (H1 := H) (fun q z1 z2 => X.2.1.2.1 q z1 z2)
    refine ⟨rfl, hK.warm hW, ?_, by rw [hU]; exact hHs, by rw [hU]; exact X.1⟩
    rw [hU]
    exact mx_EX_warm hW hE2
  have hgo : ∀ st0 : List Value, H.size = base + h.1 → va_Run p l e R s m args below meth c H locs cells slots (h1.1 - h.1) (h1.2.1 - h.2.1) (F0 m pc ls st0) (r.map (mx_cv (mx_ad sa base))) (mx_Qc dC dI tc sa base Ls xs r0 h1 (vs.map (mx_cv (mx_ad sa base))).toArray) (mx_A base) → W p l e R s m args below meth c H locs cells slots Q (F0 m pc ls st0) := by
    intro st0 hHs hrun
    refine mx_callx hrun X.2.1 (fun _ z => z) (fun x t v z => z.2.2) ?_
    intro v x t H1 locs1 z1 z2 z3 z4
    obtain ⟨g1, g2, g3⟩ := z3
    cases g1
    rw [z2] at g2
    have k1 := kk H1 locs1 ls (cells + (h1.1 - h.1)) (slots + (h1.2.1 - h.2.1)) ⟨g2, z4, X.2.2.1, (by show cells + (h1.1 - h.1) + c0 = h1.1; omega), (by show slots + (h1.2.1 - h.2.1) + s0 = h1.2.1; omega)⟩
    cases r0 with
    | none => exact k1
    | some w => exact k1
  have hHs : H.size ≤ s.heap.size + cells → H.size = base + h.1 := by
    intro hbd
    have hup : H.size ≤ base + h.1 := by omega
    by_cases h0 : h.1 = 0
    · have := X.2.1.1
      omega
    · have hg := mx_wl_get (tc := tc) (sa := sa) (base := base) (h := h) (i := h.1 - 1) (by omega)
      have hlt : base + (h.1 - 1) < H.size := (X.1.1 _ _ hg).lt
      omega
  refine mx_bound fun hbd => ?_
  have hHs := hHs hbd
  have hcf : cells + (h1.1 - h.1) ≤ R.cells ∧ slots + (h1.2.1 - h.2.1) ≤ R.slots := by constructor <;> omega
  rcases hcase with ⟨i, b, As, fs, hd, hl, rfl, rfl, hn, hh⟩ | ⟨i, j, hj, hd, hl, rfl, hn⟩ | ⟨i, j, b, As, hj, hd, hl, rfl, rfl, hn⟩
  · obtain ⟨-, g1, g2, g3⟩ := mx_link hmc hl
    have hc99 : mx_mc a ≠ 99 := by have := mx_mc_lt a (by omega); omega
    obtain ⟨hb1, hb2⟩ := mx_here X.1 hh hc99
    have hg := mx_wl_get (tc := tc) (sa := sa) (base := base) hb1
    rw [hh] at hg
    obtain ⟨r1, q1, -⟩ := X.1.1 b _ hg
    have hrn : r1.1 = (mx_my a).cls := by
      rw [o1]
      have h10 : mx_mc a < 10 := (List.getElem?_eq_some_iff.mp q1).1
      exact mx_cn_cl _ _ q1
    have hrecv := va_recv hK.1 X.1.1 q1 hg
    rw [hrn] at hrecv
    have hcb := callB_of (rm := mx_rm d (h1.1 - h.1) (h1.2.1 - h.2.1)) (ret := mx_mr a) (mx_np a) hts (mx_ws_good ha) rfl rfl rfl hini (hts _ g1) hdd hroom
    have hrun := va_runV (e := e) (below := below) (meth := meth) (locs := locs) (g := F0 m pc ls ((As.reverse ++ Value.ref b :: r).map (mx_cv (mx_ad sa base)))) (As := As.map (mx_cv (mx_ad sa base))) (b := base + b) (rest := r.map (mx_cv (mx_ad sa base))) ⟨hx, hb, hml, hown, hts⟩ hM ⟨hcb, hts _ g2, hts _ g3⟩ ⟨hblind, hrecv, fun U hU hW => by have z := hpre U hU hW hHs; rw [List.map_cons] at z; rw [← mx_ad_lt (sa := sa) (base := base) hb2]; exact z⟩ rfl (by rw [List.length_map]; exact hn) X.2.2.1.1 (by rw [List.map_append, List.map_reverse, List.map_cons]; show _ ++ Value.ref (mx_ad sa base b) :: _ = _; rw [mx_ad_lt hb2]) (by show 2 * 0 + _ ≤ 8; rw [Nat.mul_zero, Nat.zero_add]; exact mx_ok8_le _ h8) hd hcf
    refine hgo _ hHs ?_
    rw [List.map_cons]
    show va_Run _ _ _ _ _ _ _ _ _ _ _ _ _ _ _ _ _ _ (mx_Qc dC dI tc sa base Ls xs r0 h1 (Value.ref (mx_ad sa base b) :: As.map (mx_cv (mx_ad sa base))).toArray) _
    rw [mx_ad_lt hb2]
    exact hrun
  · have hstack : (F0 m pc ls ((vs.reverse ++ r).map (mx_cv (mx_ad sa base)))).stack = (vs.map (mx_cv (mx_ad sa base))).reverse ++ r.map (mx_cv (mx_ad sa base)) := by
      show (vs.reverse ++ r).map (mx_cv (mx_ad sa base)) = _
      rw [List.map_append, List.map_reverse]
    have hcat : 2 * (F0 m pc ls ((vs.reverse ++ r).map (mx_cv (mx_ad sa base)))).monitorRoom + ((r.map (mx_cv (mx_ad sa base))).map fun v => v.category).sum ≤ 8 := by
      show 2 * 0 + _ ≤ 8
      rw [Nat.mul_zero, Nat.zero_add]
      exact mx_ok8_le _ h8
    rcases hj with rfl | rfl
    · obtain ⟨-, g1, g2⟩ := mx_link hmc hl
      have hcb := callB_of (rm := mx_rm d (h1.1 - h.1) (h1.2.1 - h.2.1)) (ret := mx_mr a) (mx_np a) hts (mx_ws_good ha) rfl rfl rfl hini (hts _ g1) hdd hroom
      exact hgo _ hHs (va_runS (g := F0 m pc ls ((vs.reverse ++ r).map (mx_cv (mx_ad sa base)))) (As := vs.map (mx_cv (mx_ad sa base))) ⟨hx, hb, hml, hown, hts⟩ hM ⟨hcb, hts _ g2⟩ ⟨hblind, fun U hU hW => hpre U hU hW hHs⟩ rfl (by rw [List.length_map]; exact hn) X.2.2.1.1 hstack hcat hd hcf)
    · obtain ⟨-, g1, g2⟩ := mx_link hmc hl
      have hcb := va_cnB (R := R) (rm := mx_rm d (h1.1 - h.1) (h1.2.1 - h.2.1)) (ret := mx_mr a) (mx_np a) hts (mx_ws_good ha) rfl rfl rfl (hK.2.1 _ g1) hini hdd hroom
      exact hgo _ hHs (va_runSN (g := F0 m pc ls ((vs.reverse ++ r).map (mx_cv (mx_ad sa base)))) (As := vs.map (mx_cv (mx_ad sa base))) ⟨hx, hb, hml, hown, hts⟩ hM ⟨hcb, hts _ g2, trivial⟩ ⟨hblind, fun U hU hW => hpre U hU hW hHs⟩ rfl (by rw [List.length_map]; exact hn) X.2.2.1.1 hstack hcat hd hcf)
  · have hstack : (F0 m pc ls ((As.reverse ++ Value.ref b :: r).map (mx_cv (mx_ad sa base)))).stack = (As.map (mx_cv (mx_ad sa base))).reverse ++ .ref (mx_ad sa base b) :: r.map (mx_cv (mx_ad sa base)) := by
      show (As.reverse ++ Value.ref b :: r).map (mx_cv (mx_ad sa base)) = _
      rw [List.map_append, List.map_reverse, List.map_cons]
      rfl
    have hcat : 2 * (F0 m pc ls ((As.reverse ++ Value.ref b :: r).map (mx_cv (mx_ad sa base)))).monitorRoom + ((r.map (mx_cv (mx_ad sa base))).map fun v => v.category).sum ≤ 8 := by
      show 2 * 0 + _ ≤ 8
      rw [Nat.mul_zero, Nat.zero_add]
      exact mx_ok8_le _ h8
    rcases hj with rfl | rfl
    · obtain ⟨-, g1, g2, g3⟩ := mx_link hmc hl
      have hret : mx_mr a = none := mx_ini_ret a ha g3
      have hws : mx_ws a = Cond.code (mx_my a) (mx_mb a) (mx_ml a) none :: mx_ts := by unfold mx_ws; rw [hret]
      have hcb := callB_of (rm := mx_rm d (h1.1 - h.1) (h1.2.1 - h.2.1)) (ret := none) (mx_np a) hts (mx_ws_good ha) hws rfl rfl hini (hts _ g1) hdd hroom
      exact hgo _ hHs (va_runI (g := F0 m pc ls ((As.reverse ++ Value.ref b :: r).map (mx_cv (mx_ad sa base)))) (As := As.map (mx_cv (mx_ad sa base))) ⟨hx, hb, hml, hown, hts⟩ hM ⟨hcb, g3, hts _ g2⟩ ⟨hblind, fun U hU hW => hpre U hU hW hHs⟩ rfl (by rw [List.length_map]; exact hn) X.2.2.1.1 hstack hcat hd hcf)
    · obtain ⟨-, g1, g2, g3⟩ := mx_link hmc hl
      have hret : mx_mr a = none := mx_ini_ret a ha g3
      have hws : mx_ws a = Cond.code (mx_my a) (mx_mb a) (mx_ml a) none :: mx_ts := by unfold mx_ws; rw [hret]
      have hcb := va_cnB (R := R) (rm := mx_rm d (h1.1 - h.1) (h1.2.1 - h.2.1)) (ret := none) (mx_np a) hts (mx_ws_good ha) hws rfl rfl (hK.2.1 _ g1) hini hdd hroom
      exact hgo _ hHs (va_runIN (g := F0 m pc ls ((As.reverse ++ Value.ref b :: r).map (mx_cv (mx_ad sa base)))) (As := As.map (mx_cv (mx_ad sa base))) ⟨hx, hb, hml, hown, hts⟩ hM ⟨hcb, g3, hts _ g2⟩ ⟨hblind, fun U hU hW => hpre U hU hW hHs⟩ rfl (by rw [List.length_map]; exact hn) X.2.2.1.1 hstack hcat hd hcf)
end MXM
theorem mx_snd (l : Launch) (dC : Nat → ClassId) (dI : Nat → Nat → Nat) (tc : Nat → ClassId) (sa : Nat → Nat) (base Ls : Nat) (xs : Nat → Int32) (av : Nat → Nat) : ∀ n, mx_Snd l dC dI tc sa base Ls xs av n := by
  intro n
  induction n with
  | zero => intro d k pc L st h h' r hk hr; simp [mx_run] at hr
  | succ n ih =>
    intro d k pc L st h h' r hk hr p e R s m args below meth c H locs cells slots Q ls c0 s0 C X hrc hrs hfr hlo kk
    have hr0 := hr
    rw [mx_run] at hr
    cases hs : mx_stp k (pc, L, st, h) with
    | none => rw [hs] at hr; simp at hr
    | some z =>
      rw [hs] at hr
      obtain s' | ⟨a, vs, pc1, w⟩ | v := z
      · obtain ⟨pc', L', st', h1⟩ := s'
        dsimp only at hr
        have hle := mx_run_le _ _ _ _ _ _ hr
        have hle1 : h1.1 ≤ h'.1 := hle.1
        have hle2 : h1.2.1 ≤ h'.2.1 := hle.2
        exact mx_s_all C hk X hs (by show h1.1 ≤ _; omega) (by show h1.2.1 ≤ _; omega) (fun H1 locs1 ls1 cells1 slots1 X1 => ih d k pc' L' st' h1 h' r hk hr H1 locs1 cells1 slots1 Q ls1 c0 s0 C X1 hrc hrs hfr hlo kk)
      · cases d with
        | zero => simp at hr
        | succ d =>
          dsimp only at hr
          cases h1 : mx_run n d a (0, mx_ent (mx_ml a) vs, [], h) with
          | none => rw [h1] at hr; simp at hr
          | some y =>
            rw [h1] at hr
            obtain ⟨v1, g1⟩ := y
            dsimp only at hr
            have hle := mx_run_le _ _ _ _ _ _ hr
            have hle1 : g1.1 ≤ h'.1 := hle.1
            have hle2 : g1.2.1 ≤ h'.2.1 := hle.2
            exact mx_s_call ih C hk X hs h1 (by omega) (by omega) (by omega) (by omega) (fun H1 locs1 ls1 cells1 slots1 X1 => ih (d + 1) k pc1 L (v1.toList ++ w) g1 h' r hk hr H1 locs1 cells1 slots1 Q ls1 c0 s0 C X1 hrc hrs hfr hlo kk)
      · simp only [Option.some.injEq, Prod.mk.injEq] at hr
        obtain ⟨rfl, rfl⟩ := hr
        exact kk pc st ls H locs cells slots (mx_rk_of hk hs) X.1 X.2.1 X.2.2.2.1 X.2.2.2.2
