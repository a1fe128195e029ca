/-! ===== the reference: between, begin ===== -/
section P67
variable {d k pc a i j c p b t n m part q : Nat} {v : Int} {L L' : mx_L} {st r : List Value} {P : mx_Pm} {h : mx_H} {s : mx_St} {Q : Option Value → mx_H → Prop} {x y w z u : Int32} {β κ : Nat → Nat} {C : Nat → Nat → Int32} {E : Nat → Nat → Nat} {ik tz : Nat} {tp : Nat → Nat} {σ : Nat → Int32} {sz : Nat → Nat} {cl : Nat → Nat → Int32}
variable {out : List Int32} {S : List Nat} {o : Nat} {T : Nat → Int32}
theorem stl_ok {r : Nat} (hr : 1 ≤ r) : ∀ (S : List Nat) (o : Nat) (out : List Int32), okO2 o S → okO2 (stl r S o out).1 (stl r S o out).2.2 ∧ (stl r S o out).2.1.length + (stl r S o out).2.2.length = out.length + S.length := by
  intro S
  induction S with
  | nil => intro o out h; exact ⟨h, rfl⟩
  | cons x S ih =>
    intro o out h
    rw [stl]
    by_cases g : 0 < rk x ∧ r ≤ rk x
    · rw [if_pos g]
      have hx0 : x ≠ 0 := fun e => by
        rw [e] at g
        exact absurd g.1 (by decide)
      have hcn : cntO S + (if x = 0 ∨ x = 9 ∨ x = 15 then 1 else 0) = o := h.2
      have ho : okO2 (if x = 9 ∨ x = 15 then o - 1 else o) S := by
        refine ⟨fun y hy => h.1 y (List.mem_cons_of_mem _ hy), ?_⟩
        by_cases q : x = 9 ∨ x = 15
        · rw [if_pos (show x = 0 ∨ x = 9 ∨ x = 15 from Or.inr q)] at hcn
          rw [if_pos q]
          omega
        · rw [if_neg (show ¬ (x = 0 ∨ x = 9 ∨ x = 15) from fun e => e.elim hx0 q)] at hcn
          rw [if_neg q]
          exact hcn
      obtain ⟨h1, h2⟩ := ih _ (out ++ [dc x]) ho
      refine ⟨h1, ?_⟩
      rw [h2, List.length_append]
      show out.length + 1 + S.length = out.length + (S.length + 1)
      omega
    · rw [if_neg g]
      exact ⟨h, rfl⟩
theorem wdT_cs (t : Int32) : (t = -1 ∧ wdT t = nI 0) ∨ (t = -2 ∧ wdT t = nI 1) ∨ (t = -3 ∧ wdT t = nI 2) ∨ (t = -4 ∧ wdT t = nI 3) ∨ (t = -5 ∧ wdT t = nI 4) ∨ (t = -6 ∧ wdT t = nI 5) ∨ (t = -19 ∧ wdT t = nI 6) ∨ (t = -20 ∧ wdT t = nI 7) ∨ (t = -21 ∧ wdT t = nI 8) ∨ (t = -7 ∧ wdT t = nI 9) ∨ (t = -8 ∧ wdT t = nI 10) ∨ (t = -9 ∧ wdT t = nI 11) ∨ wdT t = -1 := by
  unfold wdT
  by_cases g0 : t = -1
  · rw [if_pos g0]
    exact Or.inl ⟨g0, by decide⟩
  by_cases g1 : t = -2
  · rw [if_neg g0, if_pos g1]
    exact Or.inr (Or.inl ⟨g1, by decide⟩)
  by_cases g2 : t = -3
  · rw [if_neg g0, if_neg g1, if_pos g2]
    exact Or.inr (Or.inr (Or.inl ⟨g2, by decide⟩))
  by_cases g3 : t = -4
  · rw [if_neg g0, if_neg g1, if_neg g2, if_pos g3]
    exact Or.inr (Or.inr (Or.inr (Or.inl ⟨g3, by decide⟩)))
  by_cases g4 : t = -5
  · rw [if_neg g0, if_neg g1, if_neg g2, if_neg g3, if_pos g4]
    exact Or.inr (Or.inr (Or.inr (Or.inr (Or.inl ⟨g4, by decide⟩))))
  by_cases g5 : t = -6
  · rw [if_neg g0, if_neg g1, if_neg g2, if_neg g3, if_neg g4, if_pos g5]
    exact Or.inr (Or.inr (Or.inr (Or.inr (Or.inr (Or.inl ⟨g5, by decide⟩)))))
  by_cases g6 : t = -19
  · rw [if_neg g0, if_neg g1, if_neg g2, if_neg g3, if_neg g4, if_neg g5, if_pos g6]
    exact Or.inr (Or.inr (Or.inr (Or.inr (Or.inr (Or.inr (Or.inl ⟨g6, by decide⟩))))))
  by_cases g7 : t = -20
  · rw [if_neg g0, if_neg g1, if_neg g2, if_neg g3, if_neg g4, if_neg g5, if_neg g6, if_pos g7]
    exact Or.inr (Or.inr (Or.inr (Or.inr (Or.inr (Or.inr (Or.inr (Or.inl ⟨g7, by decide⟩)))))))
  by_cases g8 : t = -21
  · rw [if_neg g0, if_neg g1, if_neg g2, if_neg g3, if_neg g4, if_neg g5, if_neg g6, if_neg g7, if_pos g8]
    exact Or.inr (Or.inr (Or.inr (Or.inr (Or.inr (Or.inr (Or.inr (Or.inr (Or.inl ⟨g8, by decide⟩))))))))
  by_cases g9 : t = -7
  · rw [if_neg g0, if_neg g1, if_neg g2, if_neg g3, if_neg g4, if_neg g5, if_neg g6, if_neg g7, if_neg g8, if_pos g9]
    exact Or.inr (Or.inr (Or.inr (Or.inr (Or.inr (Or.inr (Or.inr (Or.inr (Or.inr (Or.inl ⟨g9, by decide⟩)))))))))
  by_cases g10 : t = -8
  · rw [if_neg g0, if_neg g1, if_neg g2, if_neg g3, if_neg g4, if_neg g5, if_neg g6, if_neg g7, if_neg g8, if_neg g9, if_pos g10]
    exact Or.inr (Or.inr (Or.inr (Or.inr (Or.inr (Or.inr (Or.inr (Or.inr (Or.inr (Or.inr (Or.inl ⟨g10, by decide⟩))))))))))
  by_cases g11 : t = -9
  · rw [if_neg g0, if_neg g1, if_neg g2, if_neg g3, if_neg g4, if_neg g5, if_neg g6, if_neg g7, if_neg g8, if_neg g9, if_neg g10, if_pos g11]
    exact Or.inr (Or.inr (Or.inr (Or.inr (Or.inr (Or.inr (Or.inr (Or.inr (Or.inr (Or.inr (Or.inr (Or.inl ⟨g11, by decide⟩)))))))))))
  rw [if_neg g0, if_neg g1, if_neg g2, if_neg g3, if_neg g4, if_neg g5, if_neg g6, if_neg g7, if_neg g8, if_neg g9, if_neg g10, if_neg g11]
  exact Or.inr (Or.inr (Or.inr (Or.inr (Or.inr (Or.inr (Or.inr (Or.inr (Or.inr (Or.inr (Or.inr (Or.inr (rfl))))))))))))
theorem wdT_9 {t : Int32} : wdT t = nI 9 ↔ t = -7 := by
  constructor
  · intro e
    rcases wdT_cs t with ⟨rfl, g⟩ | ⟨rfl, g⟩ | ⟨rfl, g⟩ | ⟨rfl, g⟩ | ⟨rfl, g⟩ | ⟨rfl, g⟩ | ⟨rfl, g⟩ | ⟨rfl, g⟩ | ⟨rfl, g⟩ | ⟨rfl, g⟩ | ⟨rfl, g⟩ | ⟨rfl, g⟩ | g
    all_goals first | rfl | exact absurd (g.symm.trans e) (by decide)
  · intro e
    subst e
    decide
theorem wdT_10 {t : Int32} : wdT t = nI 10 ↔ t = -8 := by
  constructor
  · intro e
    rcases wdT_cs t with ⟨rfl, g⟩ | ⟨rfl, g⟩ | ⟨rfl, g⟩ | ⟨rfl, g⟩ | ⟨rfl, g⟩ | ⟨rfl, g⟩ | ⟨rfl, g⟩ | ⟨rfl, g⟩ | ⟨rfl, g⟩ | ⟨rfl, g⟩ | ⟨rfl, g⟩ | ⟨rfl, g⟩ | g
    all_goals first | rfl | exact absurd (g.symm.trans e) (by decide)
  · intro e
    subst e
    decide
theorem wdT_11 {t : Int32} : wdT t = nI 11 ↔ t = -9 := by
  constructor
  · intro e
    rcases wdT_cs t with ⟨rfl, g⟩ | ⟨rfl, g⟩ | ⟨rfl, g⟩ | ⟨rfl, g⟩ | ⟨rfl, g⟩ | ⟨rfl, g⟩ | ⟨rfl, g⟩ | ⟨rfl, g⟩ | ⟨rfl, g⟩ | ⟨rfl, g⟩ | ⟨rfl, g⟩ | ⟨rfl, g⟩ | g
    all_goals first | rfl | exact absurd (g.symm.trans e) (by decide)
  · intro e
    subst e
    decide
theorem wdT_6a {t : Int32} : wdT t = nI 6 ↔ t = -19 := by
  constructor
  · intro e
    rcases wdT_cs t with ⟨rfl, g⟩ | ⟨rfl, g⟩ | ⟨rfl, g⟩ | ⟨rfl, g⟩ | ⟨rfl, g⟩ | ⟨rfl, g⟩ | ⟨rfl, g⟩ | ⟨rfl, g⟩ | ⟨rfl, g⟩ | ⟨rfl, g⟩ | ⟨rfl, g⟩ | ⟨rfl, g⟩ | g
    all_goals first | rfl | exact absurd (g.symm.trans e) (by decide)
  · intro e
    subst e
    decide
theorem wdT_7a {t : Int32} : wdT t = nI 7 ↔ t = -20 := by
  constructor
  · intro e
    rcases wdT_cs t with ⟨rfl, g⟩ | ⟨rfl, g⟩ | ⟨rfl, g⟩ | ⟨rfl, g⟩ | ⟨rfl, g⟩ | ⟨rfl, g⟩ | ⟨rfl, g⟩ | ⟨rfl, g⟩ | ⟨rfl, g⟩ | ⟨rfl, g⟩ | ⟨rfl, g⟩ | ⟨rfl, g⟩ | g
    all_goals first | rfl | exact absurd (g.symm.trans e) (by decide)
  · intro e
    subst e
    decide
theorem wdT_8a {t : Int32} : wdT t = nI 8 ↔ t = -21 := by
  constructor
  · intro e
    rcases wdT_cs t with ⟨rfl, g⟩ | ⟨rfl, g⟩ | ⟨rfl, g⟩ | ⟨rfl, g⟩ | ⟨rfl, g⟩ | ⟨rfl, g⟩ | ⟨rfl, g⟩ | ⟨rfl, g⟩ | ⟨rfl, g⟩ | ⟨rfl, g⟩ | ⟨rfl, g⟩ | ⟨rfl, g⟩ | g
    all_goals first | rfl | exact absurd (g.symm.trans e) (by decide)
  · intro e
    subst e
    decide
theorem wdT_6 {t : Int32} {p : Nat} (hp : p < 3) : wdT t = nI (6 + p) ↔ t = ky p := by
  rcases (show p = 0 ∨ p = 1 ∨ p = 2 by omega) with rfl | rfl | rfl
  · exact wdT_6a
  · exact wdT_7a
  · exact wdT_8a
theorem wdT_a {t : Int32} (hj : j ≤ 5) (e : wdT t = nI j) : ¬ t < -6 ∧ -10 - wdT t = mc t := by
  have hn : ∀ j, j ≤ 5 → nI j ≠ nI 6 ∧ nI j ≠ nI 7 ∧ nI j ≠ nI 8 ∧ nI j ≠ nI 9 ∧ nI j ≠ nI 10 ∧ nI j ≠ nI 11 ∧ nI j ≠ -1 := by decide
  obtain ⟨n1, n2, n3, n4, n5, n6, n7⟩ := hn j hj
  rcases wdT_cs t with ⟨rfl, g⟩ | ⟨rfl, g⟩ | ⟨rfl, g⟩ | ⟨rfl, g⟩ | ⟨rfl, g⟩ | ⟨rfl, g⟩ | ⟨rfl, g⟩ | ⟨rfl, g⟩ | ⟨rfl, g⟩ | ⟨rfl, g⟩ | ⟨rfl, g⟩ | ⟨rfl, g⟩ | g
  · decide
  · decide
  · decide
  · decide
  · decide
  · decide
  · exact absurd (e.symm.trans g) n1
  · exact absurd (e.symm.trans g) n2
  · exact absurd (e.symm.trans g) n3
  · exact absurd (e.symm.trans g) n4
  · exact absurd (e.symm.trans g) n5
  · exact absurd (e.symm.trans g) n6
  · exact absurd (e.symm.trans g) n7
def binM (t : Int32) : Int32 := if t = -7 then -20 else if t = -8 then -21 else if t = -10 then -23 else if t = -11 then -24 else if t = -12 then -25 else if t = -13 then -26 else if t = -14 then -27 else nI 0
theorem binM_eq (t : Int32) : binM t = mk (bin t) := by
  unfold binM bin
  (repeat' split) <;> decide
theorem bin_ok (t : Int32) : okx (bin t) ∧ (bin t = 0 ∨ (7 ≤ bin t ∧ bin t ≤ 14 ∧ bin t ≠ 9)) := by
  unfold bin okx
  (repeat' split) <;> decide
theorem m_between (hd : 2 ≤ d) (H : HR P h s) (hl : 75 ≤ P.1) (hx : TX s n tp tz) (X : LX s tp tz i) (hu : tpl tp tz i ≤ tz) (hq : Q (some (.int (mk (bin (tkT tp tz i))))) h) : wc d 157 [.ref 54] h Q := by
  rw [← binM_eq] at hq
  unfold binM at hq
  refine wc.go [_, _] rfl ?_
  refine q_aload_n (pc := 0) rfl rfl rfl ?_
  refine q_callV (pc := 1) _ rfl rfl rfl (by exact HR.c H hl _ rfl) rfl (Nat.le_of_ble_eq_true rfl) (by omega) _ rfl ?_
  refine m_word H hl hx X hu ?_
  refine q_istore_n (pc := 4) [_, _] rfl (Nat.le_of_ble_eq_true rfl) rfl ?_
  refine q_iload_n (pc := 5) rfl rfl ?_
  refine q_bipush (pc := 6) rfl (nI 9) (by decide) ?_
  refine q_icmpne (pc := 8) rfl (fun h8 => ?_) (fun h8 => ?_)
  · have q8 : ¬ tkT tp tz i = -7 := fun e => h8 (wdT_9.mpr e)
    refine q_iload_n (pc := 16) rfl rfl ?_
    refine q_bipush (pc := 17) rfl (nI 10) (by decide) ?_
    refine q_icmpne (pc := 19) rfl (fun h19 => ?_) (fun h19 => ?_)
    · have q19 : ¬ tkT tp tz i = -8 := fun e => h19 (wdT_10.mpr e)
      refine q_aload_n (pc := 27) rfl rfl rfl ?_
      refine q_bipush (pc := 28) rfl (nI 60) (by decide) ?_
      refine q_callV (pc := 30) _ rfl rfl rfl (by exact HR.c H hl _ rfl) rfl (Nat.le_of_ble_eq_true rfl) (by omega) _ rfl ?_
      refine m_isSign (c := 60) (x := -10) H hl hx X (by unfold sgP; decide) (fun q30 => ?_) (fun q30 => ?_)
      · refine q_ifeq (pc := 33) rfl (fun z => absurd z (by decide)) (fun _ => ?_)
        refine q_bipush (pc := 36) rfl (-23) (by decide) ?_
        refine q_goto (pc := 38) rfl ?_
        refine q_iret (pc := 98) rfl (rfl) ?_
        (repeat' split at hq) <;> first | exact hq | contradiction
      · refine q_ifeq (pc := 33) rfl (fun _ => ?_) (fun z => absurd (by decide) z)
        refine q_aload_n (pc := 41) rfl rfl rfl ?_
        refine q_bipush (pc := 42) rfl (nI 61) (by decide) ?_
        refine q_callV (pc := 44) _ rfl rfl rfl (by exact HR.c H hl _ rfl) rfl (Nat.le_of_ble_eq_true rfl) (by omega) _ rfl ?_
        refine m_isSign (c := 61) (x := -11) H hl hx X (by unfold sgP; decide) (fun q44 => ?_) (fun q44 => ?_)
        · refine q_ifeq (pc := 47) rfl (fun z => absurd z (by decide)) (fun _ => ?_)
          refine q_bipush (pc := 50) rfl (-24) (by decide) ?_
          refine q_goto (pc := 52) rfl ?_
          refine q_iret (pc := 98) rfl (rfl) ?_
          (repeat' split at hq) <;> first | exact hq | contradiction
        · refine q_ifeq (pc := 47) rfl (fun _ => ?_) (fun z => absurd (by decide) z)
          refine q_aload_n (pc := 55) rfl rfl rfl ?_
          refine q_bipush (pc := 56) rfl (nI 43) (by decide) ?_
          refine q_callV (pc := 58) _ rfl rfl rfl (by exact HR.c H hl _ rfl) rfl (Nat.le_of_ble_eq_true rfl) (by omega) _ rfl ?_
          refine m_isSign (c := 43) (x := -12) H hl hx X (by unfold sgP; decide) (fun q58 => ?_) (fun q58 => ?_)
          · refine q_ifeq (pc := 61) rfl (fun z => absurd z (by decide)) (fun _ => ?_)
            refine q_bipush (pc := 64) rfl (-25) (by decide) ?_
            refine q_goto (pc := 66) rfl ?_
            refine q_iret (pc := 98) rfl (rfl) ?_
            (repeat' split at hq) <;> first | exact hq | contradiction
          · refine q_ifeq (pc := 61) rfl (fun _ => ?_) (fun z => absurd (by decide) z)
            refine q_aload_n (pc := 69) rfl rfl rfl ?_
            refine q_bipush (pc := 70) rfl (nI 45) (by decide) ?_
            refine q_callV (pc := 72) _ rfl rfl rfl (by exact HR.c H hl _ rfl) rfl (Nat.le_of_ble_eq_true rfl) (by omega) _ rfl ?_
            refine m_isSign (c := 45) (x := -13) H hl hx X (by unfold sgP; decide) (fun q72 => ?_) (fun q72 => ?_)
            · refine q_ifeq (pc := 75) rfl (fun z => absurd z (by decide)) (fun _ => ?_)
              refine q_bipush (pc := 78) rfl (-26) (by decide) ?_
              refine q_goto (pc := 80) rfl ?_
              refine q_iret (pc := 98) rfl (rfl) ?_
              (repeat' split at hq) <;> first | exact hq | contradiction
            · refine q_ifeq (pc := 75) rfl (fun _ => ?_) (fun z => absurd (by decide) z)
              refine q_aload_n (pc := 83) rfl rfl rfl ?_
              refine q_bipush (pc := 84) rfl (nI 42) (by decide) ?_
              refine q_callV (pc := 86) _ rfl rfl rfl (by exact HR.c H hl _ rfl) rfl (Nat.le_of_ble_eq_true rfl) (by omega) _ rfl ?_
              refine m_isSign (c := 42) (x := -14) H hl hx X (by unfold sgP; decide) (fun q86 => ?_) (fun q86 => ?_)
              · refine q_ifeq (pc := 89) rfl (fun z => absurd z (by decide)) (fun _ => ?_)
                refine q_bipush (pc := 92) rfl (-27) (by decide) ?_
                refine q_goto (pc := 94) rfl ?_
                refine q_iret (pc := 98) rfl (rfl) ?_
                (repeat' split at hq) <;> first | exact hq | contradiction
              · refine q_ifeq (pc := 89) rfl (fun _ => ?_) (fun z => absurd (by decide) z)
                refine q_iconst (pc := 97) rfl (nI 0) (by decide) ?_
                refine q_iret (pc := 98) rfl (rfl) ?_
                (repeat' split at hq) <;> first | exact hq | contradiction
    · have q19 : tkT tp tz i = -8 := wdT_10.mp h19
      refine q_bipush (pc := 22) rfl (-21) (by decide) ?_
      refine q_goto (pc := 24) rfl ?_
      refine q_iret (pc := 98) rfl (rfl) ?_
      (repeat' split at hq) <;> first | exact hq | contradiction
  · have q8 : tkT tp tz i = -7 := wdT_9.mp h8
    refine q_bipush (pc := 11) rfl (-20) (by decide) ?_
    refine q_goto (pc := 13) rfl ?_
    refine q_iret (pc := 98) rfl (rfl) ?_
    (repeat' split at hq) <;> first | exact hq | contradiction
theorem sgV_lo : ∀ b, b < 257 → sgV b < -6 := by decide +kernel
theorem wcd_lo : ∀ k, k < 13 → 6 ≤ k → wcd k < -6 := by decide
theorem wdT_wl : ∀ k, k < 6 → wdT (wcd k) = nI k := by decide
theorem tk_rng (hz : tz ≤ 160 ∧ ∀ i, i < tz → tp i ≤ 255) (h1 : ∀ j, j ≤ 5 → wdT (tkT tp tz i) ≠ nI j) (h2 : ¬ (srV (byN tp tz (tpl tp tz i)) = 2 ∧ stP tp tz (i + 1) - tpl tp tz i ≤ 4)) : tkT tp tz i < -6 := by
  by_cases g : srV (byN tp tz (tpl tp tz i)) = 1
  · rw [tk_1 g] at h1 ⊢
    have hle := wdN_le (tp := tp) (tz := tz) (u := tpl tp tz i) (w := stP tp tz (i + 1))
    by_cases g2 : wdN tp tz (tpl tp tz i) (stP tp tz (i + 1)) < 6
    · exact absurd (wdT_wl _ g2) (h1 _ (by omega))
    · exact wcd_lo _ (by omega) (by omega)
  · by_cases g2 : srV (byN tp tz (tpl tp tz i)) = 2
    · rw [tk_2 g2, if_pos (by omega)]
      decide
    · rw [tk_3 g g2]
      exact sgV_lo _ (by have := byN_le (tp := tp) (tz := tz) (j := tpl tp tz i) hz.2; omega)
theorem mc_nn {v : Nat} (h : v < 2 ^ 31) : nI v = mc (nI v) ∧ ¬ nI v < -6 := by
  have h0 : ¬ nI v < 0 := nI_pos h
  have h6 : ¬ nI v < -6 := fun e => h0 (Int32.lt_trans e (by decide))
  refine ⟨?_, h6⟩
  unfold mc
  rw [if_neg h6, if_neg h0]
theorem m_awaitV {x : Nat} {u : Int32} (hv : u = mk x) (H : HR P h s) (hl : 75 ≤ P.1) (ps : PSM s n o out S) (h160 : S.length < 160) (kk : ∀ h' s', HR P h' s' → yf n s s' → PSM s' n o out (x :: S) → Q none h') : wc d 154 [.ref 54, .int u] h Q := by
  subst hv
  exact m_await H hl ps h160 kk
theorem PSM.op {v : Nat} (ps : PSM s n o out S) : PSM (stv s 54 9 (nI v)) n v out S := ⟨stv_a, (stv_o (by decide)).trans ps.2.1, (stv_o (by decide)).trans ps.2.2.1, fun j hj => (congrFun (stv_n (by decide)) _).trans (ps.2.2.2.1 j hj), WTA.cg (stv_n (by decide)) S ps.2.2.2.2⟩
theorem m_beginP (hd : 3 ≤ d) (H : HR P h s) (hl : 75 ≤ P.1) (hx : TX s n tp tz) (X : LX s tp tz i) (hu : tpl tp tz i ≤ tz) (ps : PSM s n o out S) (hn : out.length < 160) (k1 : ¬ tkT tp tz i < -6 → ∀ h' s', HR P h' s' → yf n s s' → PSM s' n o (out ++ [tkT tp tz i]) S → Q (some (.int 1)) h') (kB : tkT tp tz i < -6 → wq d 159 55 [some (.ref 54), some (.int (wdT (tkT tp tz i))), none] [] h Q) : wc d 159 [.ref 54] h Q := by
  have x3 := hx.2.2.1
  obtain ⟨e6, e7, e8⟩ := X
  have X : LX s tp tz i := ⟨e6, e7, e8⟩
  have hs3 := srV_le (byN tp tz (tpl tp tz i))
  refine wc.go [_, _, _] rfl ?_
  refine q_aload_n (pc := 0) rfl rfl rfl ?_
  refine q_callV (pc := 1) _ rfl rfl rfl (by exact HR.c H hl _ rfl) rfl (Nat.le_of_ble_eq_true rfl) (by omega) _ rfl ?_
  refine m_word H hl hx X hu ?_
  refine q_istore_n (pc := 4) [_, _, _] rfl (Nat.le_of_ble_eq_true rfl) rfl ?_
  refine q_iload_n (pc := 5) rfl rfl ?_
  refine q_iconst (pc := 6) rfl (nI 0) (by decide) ?_
  refine q_iconst (pc := 7) rfl (nI 5) (by decide) ?_
  refine q_callS (pc := 8) _ (by decide) rfl rfl rfl rfl (Nat.le_of_ble_eq_true rfl) (by omega) _ rfl ?_
  refine m_in0 (by decide) (fun j hj e => ?_) (fun g => ?_)
  · obtain ⟨a1, a2⟩ := wdT_a hj e
    refine q_ifeq (pc := 11) rfl (fun z => absurd z (by decide)) (fun _ => ?_)
    refine q_aload_n (pc := 14) rfl rfl rfl ?_
    refine q_bipush (pc := 15) rfl (-10) (by decide) ?_
    refine q_iload_n (pc := 17) rfl rfl ?_
    refine q_isub (pc := 18) rfl ?_
    refine q_callV (pc := 19) _ rfl rfl rfl (by exact HR.c H hl _ rfl) rfl (Nat.le_of_ble_eq_true rfl) (by omega) _ rfl ?_
    refine m_write hl H hx ps (w := tkT tp tz i) a2 hn ?_
    intro h s1 H f1 _ ps1
    refine q_iconst (pc := 22) rfl (nI 1) (by decide) ?_
    refine q_iret (pc := 23) rfl (rfl) ?_
    exact k1 a1 _ _ H f1 ps1
  · have hno : ∀ j, j ≤ 5 → wdT (tkT tp tz i) ≠ nI j := fun j hj e => x_out (show j < 6 by omega) (by decide) (by rw [← e]; exact g)
    refine q_ifeq (pc := 11) rfl (fun _ => ?_) (fun z => absurd (by decide) z)
    refine q_aload_n (pc := 24) rfl rfl rfl ?_
    refine q_getf (pc := 25) rfl (by exact HR.c H hl _ rfl) rfl rfl ?_
    rw [e8]
    refine q_iconst (pc := 28) rfl (nI 2) (by decide) ?_
    first | refine n_icmpne (pc := 29) rfl (by omega) (by omega) (fun h29 => ?_) (fun h29 => ?_) | refine q_icmpne (pc := 29) rfl (fun h29 => ?_) (fun h29 => ?_)
    · have kB := kB (tk_rng x3 hno (fun q => by omega))
      first
      | (exfalso; omega (config := {splitDisjunctions := false}))
      | exact absurd rfl h29
      | skip
        exact kB
    · have q2 : srV (byN tp tz (tpl tp tz i)) = 2 := by omega
      have hst := stP_n (tp := tp) (tz := tz) (i := i) (by omega)
      rw [if_neg (by omega)] at e6
      first
      | (exfalso; omega (config := {splitDisjunctions := false}))
      | exact absurd rfl h29
      | skip
        refine q_aload_n (pc := 32) rfl rfl rfl ?_
        refine q_getf (pc := 33) rfl (by exact HR.c H hl _ rfl) rfl rfl ?_
        rw [e6]
        refine q_aload_n (pc := 36) rfl rfl rfl ?_
        refine q_getf (pc := 37) rfl (by exact HR.c H hl _ rfl) rfl rfl ?_
        rw [e7]
        first | refine n_isub (pc := 40) rfl (by omega) ?_ | refine q_isub (pc := 40) rfl ?_
        refine q_iconst (pc := 41) rfl (nI 4) (by decide) ?_
        first | refine n_icmpgt (pc := 42) rfl (by omega) (by omega) (fun h42 => ?_) (fun h42 => ?_) | refine q_icmpgt (pc := 42) rfl (fun h42 => ?_) (fun h42 => ?_)
        · have kB := kB (tk_rng x3 hno (fun q => by omega))
          first
          | (exfalso; omega (config := {splitDisjunctions := false}))
          | skip
            exact kB
        · have q4 : stP tp tz (i + 1) - tpl tp tz i ≤ 4 := by omega
          have et : tkT tp tz i = nI (nmF tp tz (tpl tp tz i) (stP tp tz (i + 1) - tpl tp tz i)) := by rw [tk_2 q2, if_neg (by omega)]
          have nl := nm_lt (tp := tp) (tz := tz) (u := tpl tp tz i) (l := stP tp tz (i + 1) - tpl tp tz i) x3 q4
          obtain ⟨m1, m2⟩ := mc_nn (v := nmF tp tz (tpl tp tz i) (stP tp tz (i + 1) - tpl tp tz i)) (by omega)
          rw [← et] at m1 m2
          have a1 := m2
          first
          | (exfalso; omega (config := {splitDisjunctions := false}))
          | skip
            refine q_aload_n (pc := 45) rfl rfl rfl ?_
            refine q_aload_n (pc := 46) rfl rfl rfl ?_
            refine q_callV (pc := 47) _ rfl rfl rfl (by exact HR.c H hl _ rfl) rfl (Nat.le_of_ble_eq_true rfl) (by omega) _ rfl ?_
            refine m_number H hl hx X q2 q4 ?_
            rw [← et]
            refine q_callV (pc := 50) _ rfl rfl rfl (by exact HR.c H hl _ rfl) rfl (Nat.le_of_ble_eq_true rfl) (by omega) _ rfl ?_
            refine m_write hl H hx ps (w := tkT tp tz i) m1 hn ?_
            intro h s1 H f1 _ ps1
            refine q_iconst (pc := 53) rfl (nI 1) (by decide) ?_
            refine q_iret (pc := 54) rfl (rfl) ?_
            exact k1 a1 _ _ H f1 ps1
theorem m_begin (hd : 3 ≤ d) (H : HR P h s) (hl : 75 ≤ P.1) (hx : TX s n tp tz) (X : LX s tp tz i) (hu : tpl tp tz i ≤ tz) (ps : PSM s n o out S) (hn : out.length < 160) (hok : okO2 o S) (ho : o ≤ 5) (hS : S.length < 160) (k1 : ¬ tkT tp tz i < -6 → ∀ h' s', HR P h' s' → yf n s s' → PSM s' n o (out ++ [tkT tp tz i]) S → Q (some (.int 1)) h') (k2 : tkT tp tz i < -6 → (tkT tp tz i = -16 ∨ tkT tp tz i = -13 ∨ (tkT tp tz i = -9 ∧ lr S ≤ 3)) ∧ o < 5 → ∀ h' s', HR P h' s' → yf n s s' → PSM s' n (o + 1) out (opD (tkT tp tz i) :: S) → Q (some (.int 2)) h') (k0 : tkT tp tz i < -6 → ¬ ((tkT tp tz i = -16 ∨ tkT tp tz i = -13 ∨ (tkT tp tz i = -9 ∧ lr S ≤ 3)) ∧ o < 5) → Q (some (.int 0)) h) : wc d 159 [.ref 54] h Q := by
  refine m_beginP hd H hl hx X hu ps hn k1 (fun hlo => ?_)
  have k2 := k2 hlo
  have k0 := k0 hlo
  have h40 : sgP 40 (-16) := by unfold sgP; decide
  have h45 : sgP 45 (-13) := by unfold sgP; decide
  have hS2 : S.length ≤ 160 := by omega
  have hlr := lr_le S
  by_cases gC : tkT tp tz i = -16
  ·
    refine q_aload_n (pc := 55) rfl rfl rfl ?_
    refine q_bipush (pc := 56) rfl (nI 40) (by decide) ?_
    refine q_callV (pc := 58) _ rfl rfl rfl (by exact HR.c H hl _ rfl) rfl (Nat.le_of_ble_eq_true rfl) (by omega) _ rfl ?_
    refine m_isSign (c := 40) H hl hx X h40 (fun q58 => ?_) (fun q58 => ?_)
    · refine q_ifeq (pc := 61) rfl (fun z => absurd z (by decide)) (fun _ => ?_)
      refine q_iconst (pc := 64) rfl (nI 0) (by decide) ?_
      refine q_goto (pc := 65) rfl ?_
      refine q_istore_n (pc := 103) [_, _, _] rfl (Nat.le_of_ble_eq_true rfl) rfl ?_
      refine q_iload_n (pc := 104) rfl rfl ?_
      refine q_bipush (pc := 105) rfl (-25) (by decide) ?_
      refine q_icmpeq (pc := 107) rfl (fun h107 => ?_) (fun h107 => ?_)
      · exact absurd h107 (by decide)
      · first
        | (exfalso; omega (config := {splitDisjunctions := false}))
        | exact absurd rfl h107
        | skip
          refine q_aload_n (pc := 110) rfl rfl rfl ?_
          refine q_getf (pc := 111) rfl (by exact HR.c H hl _ rfl) rfl rfl ?_
          rw [ps.1]
          refine q_iconst (pc := 114) rfl (nI 5) (by decide) ?_
          first | refine n_icmpne (pc := 115) rfl (by omega) (by omega) (fun h115 => ?_) (fun h115 => ?_) | refine q_icmpne (pc := 115) rfl (fun h115 => ?_) (fun h115 => ?_)
          · first
            | (exfalso; omega (config := {splitDisjunctions := false}))
            | exact absurd rfl h115
            | skip
              refine q_aload_n (pc := 120) rfl rfl rfl ?_
              refine q_dup (pc := 121) rfl rfl ?_
              refine q_getf (pc := 122) rfl (by exact HR.c H hl _ rfl) rfl rfl ?_
              rw [ps.1]
              refine q_iconst (pc := 125) rfl (nI 1) (by decide) ?_
              first | refine n_iadd (pc := 126) rfl ?_ | refine q_iadd (pc := 126) rfl ?_
              refine r_pf2 (pc := 127) (i := 9) rfl H hl rfl rfl rfl rfl (Nat.le_of_ble_eq_true rfl) rfl rfl ?_
              intro h H
              have f0 : yf n s (stv s 54 9 (nI (o + 1))) := yf.fd (Or.inl rfl)
              have ps1 : PSM (stv s 54 9 (nI (o + 1))) n (o + 1) out S := ps.op
              refine q_aload_n (pc := 130) rfl rfl rfl ?_
              refine q_iload_n (pc := 131) rfl rfl ?_
              refine q_callV (pc := 132) _ rfl rfl rfl (by exact HR.c H hl _ rfl) rfl (Nat.le_of_ble_eq_true rfl) (by omega) _ rfl ?_
              refine m_awaitV (x := 0) (by decide) H hl ps1 hS ?_
              intro h s1 H f1 ps2
              rw [show 0 = opD (tkT tp tz i) from by rw [gC]; rfl] at ps2
              refine q_iconst (pc := 135) rfl (nI 2) (by decide) ?_
              refine q_iret (pc := 136) rfl (rfl) ?_
              exact k2 ⟨Or.inl gC, by omega⟩ _ _ H (f0.tr f1) ps2
          · first
            | (exfalso; omega (config := {splitDisjunctions := false}))
            | exact absurd rfl h115
            | skip
              refine q_iconst (pc := 118) rfl (nI 0) (by decide) ?_
              refine q_iret (pc := 119) rfl (rfl) ?_
              exact k0 (fun e => by omega)
    · exact absurd gC q58
  · by_cases gD : tkT tp tz i = -13
    ·
      refine q_aload_n (pc := 55) rfl rfl rfl ?_
      refine q_bipush (pc := 56) rfl (nI 40) (by decide) ?_
      refine q_callV (pc := 58) _ rfl rfl rfl (by exact HR.c H hl _ rfl) rfl (Nat.le_of_ble_eq_true rfl) (by omega) _ rfl ?_
      refine m_isSign (c := 40) H hl hx X h40 (fun q58 => ?_) (fun q58 => ?_)
      · exact absurd q58 gC
      · refine q_ifeq (pc := 61) rfl (fun _ => ?_) (fun z => absurd (by decide) z)
        refine q_aload_n (pc := 68) rfl rfl rfl ?_
        refine q_bipush (pc := 69) rfl (nI 45) (by decide) ?_
        refine q_callV (pc := 71) _ rfl rfl rfl (by exact HR.c H hl _ rfl) rfl (Nat.le_of_ble_eq_true rfl) (by omega) _ rfl ?_
        refine m_isSign (c := 45) H hl hx X h45 (fun q71 => ?_) (fun q71 => ?_)
        · refine q_ifeq (pc := 74) rfl (fun z => absurd z (by decide)) (fun _ => ?_)
          refine q_bipush (pc := 77) rfl (-28) (by decide) ?_
          refine q_goto (pc := 79) rfl ?_
          refine q_istore_n (pc := 103) [_, _, _] rfl (Nat.le_of_ble_eq_true rfl) rfl ?_
          refine q_iload_n (pc := 104) rfl rfl ?_
          refine q_bipush (pc := 105) rfl (-25) (by decide) ?_
          refine q_icmpeq (pc := 107) rfl (fun h107 => ?_) (fun h107 => ?_)
          · exact absurd h107 (by decide)
          · first
            | (exfalso; omega (config := {splitDisjunctions := false}))
            | exact absurd rfl h107
            | skip
              refine q_aload_n (pc := 110) rfl rfl rfl ?_
              refine q_getf (pc := 111) rfl (by exact HR.c H hl _ rfl) rfl rfl ?_
              rw [ps.1]
              refine q_iconst (pc := 114) rfl (nI 5) (by decide) ?_
              first | refine n_icmpne (pc := 115) rfl (by omega) (by omega) (fun h115 => ?_) (fun h115 => ?_) | refine q_icmpne (pc := 115) rfl (fun h115 => ?_) (fun h115 => ?_)
              · first
                | (exfalso; omega (config := {splitDisjunctions := false}))
                | exact absurd rfl h115
                | skip
                  refine q_aload_n (pc := 120) rfl rfl rfl ?_
                  refine q_dup (pc := 121) rfl rfl ?_
                  refine q_getf (pc := 122) rfl (by exact HR.c H hl _ rfl) rfl rfl ?_
                  rw [ps.1]
                  refine q_iconst (pc := 125) rfl (nI 1) (by decide) ?_
                  first | refine n_iadd (pc := 126) rfl ?_ | refine q_iadd (pc := 126) rfl ?_
                  refine r_pf2 (pc := 127) (i := 9) rfl H hl rfl rfl rfl rfl (Nat.le_of_ble_eq_true rfl) rfl rfl ?_
                  intro h H
                  have f0 : yf n s (stv s 54 9 (nI (o + 1))) := yf.fd (Or.inl rfl)
                  have ps1 : PSM (stv s 54 9 (nI (o + 1))) n (o + 1) out S := ps.op
                  refine q_aload_n (pc := 130) rfl rfl rfl ?_
                  refine q_iload_n (pc := 131) rfl rfl ?_
                  refine q_callV (pc := 132) _ rfl rfl rfl (by exact HR.c H hl _ rfl) rfl (Nat.le_of_ble_eq_true rfl) (by omega) _ rfl ?_
                  refine m_awaitV (x := 15) (by decide) H hl ps1 hS ?_
                  intro h s1 H f1 ps2
                  rw [show 15 = opD (tkT tp tz i) from by rw [gD]; rfl] at ps2
                  refine q_iconst (pc := 135) rfl (nI 2) (by decide) ?_
                  refine q_iret (pc := 136) rfl (rfl) ?_
                  exact k2 ⟨Or.inr (Or.inl gD), by omega⟩ _ _ H (f0.tr f1) ps2
              · first
                | (exfalso; omega (config := {splitDisjunctions := false}))
                | exact absurd rfl h115
                | skip
                  refine q_iconst (pc := 118) rfl (nI 0) (by decide) ?_
                  refine q_iret (pc := 119) rfl (rfl) ?_
                  exact k0 (fun e => by omega)
        · exact absurd gD q71
    · by_cases gE : tkT tp tz i = -9 ∧ lr S ≤ 3
      ·
        refine q_aload_n (pc := 55) rfl rfl rfl ?_
        refine q_bipush (pc := 56) rfl (nI 40) (by decide) ?_
        refine q_callV (pc := 58) _ rfl rfl rfl (by exact HR.c H hl _ rfl) rfl (Nat.le_of_ble_eq_true rfl) (by omega) _ rfl ?_
        refine m_isSign (c := 40) H hl hx X h40 (fun q58 => ?_) (fun q58 => ?_)
        · exact absurd q58 gC
        · refine q_ifeq (pc := 61) rfl (fun _ => ?_) (fun z => absurd (by decide) z)
          refine q_aload_n (pc := 68) rfl rfl rfl ?_
          refine q_bipush (pc := 69) rfl (nI 45) (by decide) ?_
          refine q_callV (pc := 71) _ rfl rfl rfl (by exact HR.c H hl _ rfl) rfl (Nat.le_of_ble_eq_true rfl) (by omega) _ rfl ?_
          refine m_isSign (c := 45) H hl hx X h45 (fun q71 => ?_) (fun q71 => ?_)
          · exact absurd q71 gD
          · refine q_ifeq (pc := 74) rfl (fun _ => ?_) (fun z => absurd (by decide) z)
            refine q_iload_n (pc := 82) rfl rfl ?_
            refine q_bipush (pc := 83) rfl (nI 11) (by decide) ?_
            refine q_icmpne (pc := 85) rfl (fun h85 => ?_) (fun h85 => ?_)
            · exact absurd (wdT_11.mpr gE.1) h85
            · first
              | (exfalso; omega (config := {splitDisjunctions := false}))
              | exact absurd rfl h85
              | skip
                refine q_aload_n (pc := 88) rfl rfl rfl ?_
                refine q_callV (pc := 89) _ rfl rfl rfl (by exact HR.c H hl _ rfl) rfl (Nat.le_of_ble_eq_true rfl) (by omega) _ rfl ?_
                refine m_last (by omega) H hl ps hok.1 hS2 ?_
                refine q_iconst (pc := 92) rfl (nI 3) (by decide) ?_
                first | refine n_icmpgt (pc := 93) rfl (by omega) (by omega) (fun h93 => ?_) (fun h93 => ?_) | refine q_icmpgt (pc := 93) rfl (fun h93 => ?_) (fun h93 => ?_)
                · exact absurd gE.2 (by omega)
                · first
                  | (exfalso; omega (config := {splitDisjunctions := false}))
                  | skip
                    refine q_bipush (pc := 96) rfl (-22) (by decide) ?_
                    refine q_goto (pc := 98) rfl ?_
                    refine q_istore_n (pc := 103) [_, _, _] rfl (Nat.le_of_ble_eq_true rfl) rfl ?_
                    refine q_iload_n (pc := 104) rfl rfl ?_
                    refine q_bipush (pc := 105) rfl (-25) (by decide) ?_
                    refine q_icmpeq (pc := 107) rfl (fun h107 => ?_) (fun h107 => ?_)
                    · exact absurd h107 (by decide)
                    · first
                      | (exfalso; omega (config := {splitDisjunctions := false}))
                      | exact absurd rfl h107
                      | skip
                        refine q_aload_n (pc := 110) rfl rfl rfl ?_
                        refine q_getf (pc := 111) rfl (by exact HR.c H hl _ rfl) rfl rfl ?_
                        rw [ps.1]
                        refine q_iconst (pc := 114) rfl (nI 5) (by decide) ?_
                        first | refine n_icmpne (pc := 115) rfl (by omega) (by omega) (fun h115 => ?_) (fun h115 => ?_) | refine q_icmpne (pc := 115) rfl (fun h115 => ?_) (fun h115 => ?_)
                        · first
                          | (exfalso; omega (config := {splitDisjunctions := false}))
                          | exact absurd rfl h115
                          | skip
                            refine q_aload_n (pc := 120) rfl rfl rfl ?_
                            refine q_dup (pc := 121) rfl rfl ?_
                            refine q_getf (pc := 122) rfl (by exact HR.c H hl _ rfl) rfl rfl ?_
                            rw [ps.1]
                            refine q_iconst (pc := 125) rfl (nI 1) (by decide) ?_
                            first | refine n_iadd (pc := 126) rfl ?_ | refine q_iadd (pc := 126) rfl ?_
                            refine r_pf2 (pc := 127) (i := 9) rfl H hl rfl rfl rfl rfl (Nat.le_of_ble_eq_true rfl) rfl rfl ?_
                            intro h H
                            have f0 : yf n s (stv s 54 9 (nI (o + 1))) := yf.fd (Or.inl rfl)
                            have ps1 : PSM (stv s 54 9 (nI (o + 1))) n (o + 1) out S := ps.op
                            refine q_aload_n (pc := 130) rfl rfl rfl ?_
                            refine q_iload_n (pc := 131) rfl rfl ?_
                            refine q_callV (pc := 132) _ rfl rfl rfl (by exact HR.c H hl _ rfl) rfl (Nat.le_of_ble_eq_true rfl) (by omega) _ rfl ?_
                            refine m_awaitV (x := 9) (by decide) H hl ps1 hS ?_
                            intro h s1 H f1 ps2
                            rw [show 9 = opD (tkT tp tz i) from by rw [gE.1]; rfl] at ps2
                            refine q_iconst (pc := 135) rfl (nI 2) (by decide) ?_
                            refine q_iret (pc := 136) rfl (rfl) ?_
                            exact k2 ⟨Or.inr (Or.inr gE), by omega⟩ _ _ H (f0.tr f1) ps2
                        · first
                          | (exfalso; omega (config := {splitDisjunctions := false}))
                          | exact absurd rfl h115
                          | skip
                            refine q_iconst (pc := 118) rfl (nI 0) (by decide) ?_
                            refine q_iret (pc := 119) rfl (rfl) ?_
                            exact k0 (fun e => by omega)
      · have hF : ¬ (tkT tp tz i = -16 ∨ tkT tp tz i = -13 ∨ (tkT tp tz i = -9 ∧ lr S ≤ 3)) := fun e => e.elim gC (fun e => e.elim gD gE)
        refine q_aload_n (pc := 55) rfl rfl rfl ?_
        refine q_bipush (pc := 56) rfl (nI 40) (by decide) ?_
        refine q_callV (pc := 58) _ rfl rfl rfl (by exact HR.c H hl _ rfl) rfl (Nat.le_of_ble_eq_true rfl) (by omega) _ rfl ?_
        refine m_isSign (c := 40) H hl hx X h40 (fun q58 => ?_) (fun q58 => ?_)
        · exact absurd q58 gC
        · refine q_ifeq (pc := 61) rfl (fun _ => ?_) (fun z => absurd (by decide) z)
          refine q_aload_n (pc := 68) rfl rfl rfl ?_
          refine q_bipush (pc := 69) rfl (nI 45) (by decide) ?_
          refine q_callV (pc := 71) _ rfl rfl rfl (by exact HR.c H hl _ rfl) rfl (Nat.le_of_ble_eq_true rfl) (by omega) _ rfl ?_
          refine m_isSign (c := 45) H hl hx X h45 (fun q71 => ?_) (fun q71 => ?_)
          · exact absurd q71 gD
          · refine q_ifeq (pc := 74) rfl (fun _ => ?_) (fun z => absurd (by decide) z)
            refine q_iload_n (pc := 82) rfl rfl ?_
            refine q_bipush (pc := 83) rfl (nI 11) (by decide) ?_
            refine q_icmpne (pc := 85) rfl (fun h85 => ?_) (fun h85 => ?_)
            · first
              | (exfalso; omega (config := {splitDisjunctions := false}))
              | exact absurd rfl h85
              | skip
                refine q_bipush (pc := 101) rfl (-25) (by decide) ?_
                refine q_istore_n (pc := 103) [_, _, _] rfl (Nat.le_of_ble_eq_true rfl) rfl ?_
                refine q_iload_n (pc := 104) rfl rfl ?_
                refine q_bipush (pc := 105) rfl (-25) (by decide) ?_
                refine q_icmpeq (pc := 107) rfl (fun h107 => ?_) (fun h107 => ?_)
                · first
                  | (exfalso; omega (config := {splitDisjunctions := false}))
                  | exact absurd rfl h107
                  | skip
                    refine q_iconst (pc := 118) rfl (nI 0) (by decide) ?_
                    refine q_iret (pc := 119) rfl (rfl) ?_
                    exact k0 (fun e => hF e.1)
                · exact absurd rfl h107
            · have q85 : tkT tp tz i = -9 := wdT_11.mp h85
              first
              | (exfalso; omega (config := {splitDisjunctions := false}))
              | exact absurd rfl h85
              | skip
                refine q_aload_n (pc := 88) rfl rfl rfl ?_
                refine q_callV (pc := 89) _ rfl rfl rfl (by exact HR.c H hl _ rfl) rfl (Nat.le_of_ble_eq_true rfl) (by omega) _ rfl ?_
                refine m_last (by omega) H hl ps hok.1 hS2 ?_
                refine q_iconst (pc := 92) rfl (nI 3) (by decide) ?_
                first | refine n_icmpgt (pc := 93) rfl (by omega) (by omega) (fun h93 => ?_) (fun h93 => ?_) | refine q_icmpgt (pc := 93) rfl (fun h93 => ?_) (fun h93 => ?_)
                · first
                  | (exfalso; omega (config := {splitDisjunctions := false}))
                  | skip
                    refine q_bipush (pc := 101) rfl (-25) (by decide) ?_
                    refine q_istore_n (pc := 103) [_, _, _] rfl (Nat.le_of_ble_eq_true rfl) rfl ?_
                    refine q_iload_n (pc := 104) rfl rfl ?_
                    refine q_bipush (pc := 105) rfl (-25) (by decide) ?_
                    refine q_icmpeq (pc := 107) rfl (fun h107 => ?_) (fun h107 => ?_)
                    · first
                      | (exfalso; omega (config := {splitDisjunctions := false}))
                      | exact absurd rfl h107
                      | skip
                        refine q_iconst (pc := 118) rfl (nI 0) (by decide) ?_
                        refine q_iret (pc := 119) rfl (rfl) ?_
                        exact k0 (fun e => hF e.1)
                    · exact absurd rfl h107
                · exact absurd ⟨q85, by omega⟩ gE
end P67
