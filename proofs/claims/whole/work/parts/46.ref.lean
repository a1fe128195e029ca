/-! ===== the reference: what it keeps, its plain words ===== -/
section P46
variable {d k pc a i j c p b t n m part q : Nat} {v : Int} {L L' : mx_L} {st r : List Value} {P : mx_Pm} {h : mx_H} {s : mx_St} {Q : Option Value → mx_H → Prop} {x y w z u : Int32} {β κ : Nat → Nat} {C : Nat → Nat → Int32} {E : Nat → Nat → Nat} {ik tz : Nat} {tp : Nat → Nat} {σ : Nat → Int32} {sz : Nat → Nat} {cl : Nat → Nat → Int32}
def NW (s : mx_St) (β : Nat → Nat) : Prop := ∀ i, i < 91 → s 55 i = nI (β i)
def mS (i : Nat) : Prop := i = 54 ∨ i = 55 ∨ i = 57 ∨ (62 ≤ i ∧ i < 70) ∨ i = 73
def mf (s s' : mx_St) : Prop := sf s s' mS ∧ s' 54 3 = s 54 3 ∧ s' 54 5 = s 54 5 ∧ s' 54 12 = s 54 12
theorem mf.rf {s : mx_St} : mf s s := ⟨sf.rf, rfl, rfl, rfl⟩
theorem mf.tr {s s1 s2 : mx_St} (a : mf s s1) (b : mf s1 s2) : mf s s2 := ⟨a.1.tr b.1, b.2.1.trans a.2.1, b.2.2.1.trans a.2.2.1, b.2.2.2.trans a.2.2.2⟩
theorem mf.wr {s : mx_St} {b j : Nat} {v : Int32} (hb : mS b) (hj : b ≠ 54) : mf s (stv s b j v) := ⟨sf.rf.st hb, congrFun (stv_n (Ne.symm hj)) _, congrFun (stv_n (Ne.symm hj)) _, congrFun (stv_n (Ne.symm hj)) _⟩
theorem mf.fd {s : mx_St} {j : Nat} {v : Int32} (hj : j ≠ 3 ∧ j ≠ 5 ∧ j ≠ 12) : mf s (stv s 54 j v) := ⟨sf.rf.st (Or.inl rfl), stv_o (Ne.symm hj.1), stv_o (Ne.symm hj.2.1), stv_o (Ne.symm hj.2.2)⟩
theorem NW.up {s : mx_St} {j u : Nat} (N : NW s β) : NW (stv s 55 j (nI u)) (upN β j u) := fun i hi => by
  by_cases e : i = j
  · subst e
    rw [stv_a, upN_s]
  · rw [stv_o e, upN_n e]
    exact N i hi
theorem NW.fr {s s' : mx_St} {S : Nat → Prop} (N : NW s β) (f : sf s s' S) (h : ¬ S 55) : NW s' β := fun i hi => (congrFun (f 55 h) i).trans (N i hi)
theorem NW.cg {s : mx_St} {γ : Nat → Nat} (N : NW s β) (h : ∀ i, i < 91 → β i = γ i) : NW s γ := fun i hi => (N i hi).trans (by rw [h i hi])
def mc (w : Int32) : Int32 := if w < -6 then w - 13 else if w < 0 then w - 9 else w
/-- the texts in the reference's arrays -/
def MT (s : mx_St) (n : Nat) (C : Nat → Nat → Int32) (E : Nat → Nat → Nat) : Prop := s 54 12 = nI n ∧ n ≤ 6 ∧ ∀ t, t < n → (∀ i, i < E t 2 → s 59 (160 * t + i) = mc (C t i)) ∧ (∀ p, p < 3 → s 60 (3 * t + p) = nI (E t p)) ∧ txok (C t) (E t)
def wMb (k i : Nat) : Int32 := (WD (k + 1)).getD i 0
def abM : Nat → Int32 := fun i => if i = 0 then -1 else if i = 3 then 1 else if i = 4 then 2 else 0
def MK (s : mx_St) (n : Nat) (κ : Nat → Nat) (ik : Nat) (tp : Nat → Nat) (tz : Nat) (C : Nat → Nat → Int32) (E : Nat → Nat → Nat) (σ : Nat → Int32) (sz : Nat → Nat) (cl : Nat → Nat → Int32) : Prop :=
  (∀ i, i < 91 → s 56 i = nI (κ i)) ∧ s 54 3 = nI ik ∧ (∀ i, i < tz → s 58 i = nI (tp i)) ∧ s 54 5 = nI tz ∧ MT s n C E ∧ (∀ q, q < 4 → s 70 q = σ q ∧ s 71 q = nI (sz q) ∧ ∀ i, i < 40 → s 72 (40 * q + i) = cl q i) ∧ (∀ k, k < 12 → ∀ i, i < 6 → s 61 (6 * k + i) = wMb k i) ∧ ∀ i, i < 6 → s 74 i = abM i
theorem MT.fr {s s' : mx_St} {n : Nat} (T : MT s n C E) (f : mf s s') : MT s' n C E := by
  obtain ⟨h1, h2, h3⟩ := T
  refine ⟨f.2.2.2.trans h1, h2, fun t ht => ?_⟩
  obtain ⟨g1, g2, g3⟩ := h3 t ht
  exact ⟨fun i hi => (congrFun (f.1 59 (by unfold mS; omega)) _).trans (g1 i hi), fun p hp => (congrFun (f.1 60 (by unfold mS; omega)) _).trans (g2 p hp), g3⟩
theorem MK.fr {s s' : mx_St} {n : Nat} (M : MK s n κ ik tp tz C E σ sz cl) (f : mf s s') : MK s' n κ ik tp tz C E σ sz cl := by
  obtain ⟨h1, h2, h3, h4, h5, h6, h7, h8⟩ := M
  have e : ∀ i, ¬ mS i → s' i = s i := fun i hi => f.1 i hi
  refine ⟨fun i hi => (congrFun (e 56 (by unfold mS; omega)) _).trans (h1 i hi), f.2.1.trans h2, fun i hi => (congrFun (e 58 (by unfold mS; omega)) _).trans (h3 i hi), f.2.2.1.trans h4, h5.fr f, fun q hq => ?_, fun k hk i hi => (congrFun (e 61 (by unfold mS; omega)) _).trans (h7 k hk i hi), fun i hi => (congrFun (e 74 (by unfold mS; omega)) _).trans (h8 i hi)⟩
  obtain ⟨g1, g2, g3⟩ := h6 q hq
  exact ⟨(congrFun (e 70 (by unfold mS; omega)) _).trans g1, (congrFun (e 71 (by unfold mS; omega)) _).trans g2, fun i hi => (congrFun (e 72 (by unfold mS; omega)) _).trans (g3 i hi)⟩
theorem m_keepL {w : Nat} (hl : 75 ≤ P.1) (hw : w = 56 ∨ w = 57) {s0 : mx_St} (N0 : NW s0 β) (kk : ∀ h' s', HR P h' s' → sf s0 s' (fun i => i = w) → (∀ i, i < 91 → s' w i = nI (β i)) → Q none h') (n i : Nat) (hi : i + n = 91) (h : mx_H) (s : mx_St) (H : HR P h s) (f : sf s0 s (fun i => i = w)) (c1 : ∀ j, j < i → s w j = nI (β j)) : wq d 134 2 [some (.ref 54), some (.ref w), some (.int (nI i))] [] h Q := by
  have N : NW s β := N0.fr f (by omega)
  match n, hi with
  | 0, hi =>
    obtain rfl : i = 91 := by omega
    refine q_iload_n (pc := 2) rfl rfl ?_
    refine q_bipush (pc := 3) rfl (nI 91) (by decide) ?_
    first | refine n_icmpge (pc := 5) rfl (by omega) (by omega) (fun h5 => ?_) (fun h5 => ?_) | refine q_icmpge (pc := 5) rfl (fun h5 => ?_) (fun h5 => ?_)
    · refine q_vret (pc := 23) rfl rfl ?_
      exact kk _ _ H f c1
    · first | (exfalso; omega) | exact absurd h5 (nI_pos (by omega)) | exact absurd (nI_pos' (by omega)) h5
  | n + 1, hi =>
    rcases hw with rfl | rfl
    ·
      refine q_iload_n (pc := 2) rfl rfl ?_
      refine q_bipush (pc := 3) rfl (nI 91) (by decide) ?_
      first | refine n_icmpge (pc := 5) rfl (by omega) (by omega) (fun h5 => ?_) (fun h5 => ?_) | refine q_icmpge (pc := 5) rfl (fun h5 => ?_) (fun h5 => ?_)
      · first | (exfalso; omega) | exact absurd h5 (nI_pos (by omega)) | exact absurd (nI_pos' (by omega)) h5
      · refine q_aload_n (pc := 8) rfl rfl rfl ?_
        refine q_iload_n (pc := 9) rfl rfl ?_
        refine q_aload_n (pc := 10) rfl rfl rfl ?_
        refine q_getf (pc := 11) rfl (by exact HR.c H hl _ rfl) rfl rfl ?_
        refine q_iload_n (pc := 14) rfl rfl ?_
        refine n_ild (pc := 15) rfl (by first | exact HR.la H hl rfl rfl N | exact HR.la0 H hl rfl rfl) rfl (by omega) (by omega) ?_
        refine r_ist2 (pc := 16) rfl H hl rfl (fun _ => rfl) rfl (by omega) (by omega) ?_
        intro h H
        first | refine n_iinc (pc := 17) rfl [_, _, _] 1 (by decide) rfl rfl ?_ | refine q_iinc (pc := 17) [_, _, _] (1) rfl rfl (by decide) rfl ?_
        refine q_goto (pc := 20) rfl ?_
        exact m_keepL hl (Or.inl rfl) N0 kk n (i + 1) (by omega) h _ H (f.st rfl) (fun j hj => by
          by_cases e : j = i
          · subst e
            exact stv_a
          · rw [stv_o e]
            exact c1 j (by omega))
    ·
      refine q_iload_n (pc := 2) rfl rfl ?_
      refine q_bipush (pc := 3) rfl (nI 91) (by decide) ?_
      first | refine n_icmpge (pc := 5) rfl (by omega) (by omega) (fun h5 => ?_) (fun h5 => ?_) | refine q_icmpge (pc := 5) rfl (fun h5 => ?_) (fun h5 => ?_)
      · first | (exfalso; omega) | exact absurd h5 (nI_pos (by omega)) | exact absurd (nI_pos' (by omega)) h5
      · refine q_aload_n (pc := 8) rfl rfl rfl ?_
        refine q_iload_n (pc := 9) rfl rfl ?_
        refine q_aload_n (pc := 10) rfl rfl rfl ?_
        refine q_getf (pc := 11) rfl (by exact HR.c H hl _ rfl) rfl rfl ?_
        refine q_iload_n (pc := 14) rfl rfl ?_
        refine n_ild (pc := 15) rfl (by first | exact HR.la H hl rfl rfl N | exact HR.la0 H hl rfl rfl) rfl (by omega) (by omega) ?_
        refine r_ist2 (pc := 16) rfl H hl rfl (fun _ => rfl) rfl (by omega) (by omega) ?_
        intro h H
        first | refine n_iinc (pc := 17) rfl [_, _, _] 1 (by decide) rfl rfl ?_ | refine q_iinc (pc := 17) [_, _, _] (1) rfl rfl (by decide) rfl ?_
        refine q_goto (pc := 20) rfl ?_
        exact m_keepL hl (Or.inr rfl) N0 kk n (i + 1) (by omega) h _ H (f.st rfl) (fun j hj => by
          by_cases e : j = i
          · subst e
            exact stv_a
          · rw [stv_o e]
            exact c1 j (by omega))
termination_by n
theorem m_keep {w : Nat} (H : HR P h s) (hl : 75 ≤ P.1) (hw : w = 56 ∨ w = 57) (N : NW s β) (kk : ∀ h' s', HR P h' s' → sf s s' (fun i => i = w) → (∀ i, i < 91 → s' w i = nI (β i)) → Q none h') : wc d 134 [.ref 54, .ref w] h Q := by
  refine wc.go [_, _, _] rfl ?_
  refine q_iconst (pc := 0) rfl (nI 0) (by decide) ?_
  refine q_istore_n (pc := 1) [_, _, _] rfl (Nat.le_of_ble_eq_true rfl) rfl ?_
  exact m_keepL hl hw N kk 91 0 (by omega) h s H sf.rf (fun j hj => by omega)
theorem m_layL {w : Nat} {γ : Nat → Nat} (hl : 75 ≤ P.1) (hw : w = 56 ∨ w = 57) {s0 : mx_St} (W0 : ∀ i, i < 91 → s0 w i = nI (γ i)) (kk : ∀ h' s', HR P h' s' → sf s0 s' (fun i => i = 55) → NW s' γ → Q none h') (n i : Nat) (hi : i + n = 91) (h : mx_H) (s : mx_St) (H : HR P h s) (f : sf s0 s (fun i => i = 55)) (c1 : ∀ j, j < i → s 55 j = nI (γ j)) : wq d 135 2 [some (.ref 54), some (.ref w), some (.int (nI i))] [] h Q := by
  match n, hi with
  | 0, hi =>
    obtain rfl : i = 91 := by omega
    refine q_iload_n (pc := 2) rfl rfl ?_
    refine q_bipush (pc := 3) rfl (nI 91) (by decide) ?_
    first | refine n_icmpge (pc := 5) rfl (by omega) (by omega) (fun h5 => ?_) (fun h5 => ?_) | refine q_icmpge (pc := 5) rfl (fun h5 => ?_) (fun h5 => ?_)
    · refine q_vret (pc := 23) rfl rfl ?_
      exact kk _ _ H f c1
    · first | (exfalso; omega) | exact absurd h5 (nI_pos (by omega)) | exact absurd (nI_pos' (by omega)) h5
  | n + 1, hi =>
    have e0 : s w i = nI (γ i) := (congrFun (f w (by omega)) i).trans (W0 i (by omega))
    rcases hw with rfl | rfl
    ·
      refine q_iload_n (pc := 2) rfl rfl ?_
      refine q_bipush (pc := 3) rfl (nI 91) (by decide) ?_
      first | refine n_icmpge (pc := 5) rfl (by omega) (by omega) (fun h5 => ?_) (fun h5 => ?_) | refine q_icmpge (pc := 5) rfl (fun h5 => ?_) (fun h5 => ?_)
      · first | (exfalso; omega) | exact absurd h5 (nI_pos (by omega)) | exact absurd (nI_pos' (by omega)) h5
      · refine q_aload_n (pc := 8) rfl rfl rfl ?_
        refine q_getf (pc := 9) rfl (by exact HR.c H hl _ rfl) rfl rfl ?_
        refine q_iload_n (pc := 12) rfl rfl ?_
        refine q_aload_n (pc := 13) rfl rfl rfl ?_
        refine q_iload_n (pc := 14) rfl rfl ?_
        refine n_ild (pc := 15) rfl (by exact HR.la0 H hl rfl rfl) rfl (by omega) (by omega) ?_
        rw [e0]
        refine r_ist2 (pc := 16) rfl H hl rfl (fun _ => rfl) rfl (by omega) (by omega) ?_
        intro h H
        first | refine n_iinc (pc := 17) rfl [_, _, _] 1 (by decide) rfl rfl ?_ | refine q_iinc (pc := 17) [_, _, _] (1) rfl rfl (by decide) rfl ?_
        refine q_goto (pc := 20) rfl ?_
        exact m_layL hl (Or.inl rfl) W0 kk n (i + 1) (by omega) h _ H (f.st rfl) (fun j hj => by
          by_cases e : j = i
          · subst e
            exact stv_a
          · rw [stv_o e]
            exact c1 j (by omega))
    ·
      refine q_iload_n (pc := 2) rfl rfl ?_
      refine q_bipush (pc := 3) rfl (nI 91) (by decide) ?_
      first | refine n_icmpge (pc := 5) rfl (by omega) (by omega) (fun h5 => ?_) (fun h5 => ?_) | refine q_icmpge (pc := 5) rfl (fun h5 => ?_) (fun h5 => ?_)
      · first | (exfalso; omega) | exact absurd h5 (nI_pos (by omega)) | exact absurd (nI_pos' (by omega)) h5
      · refine q_aload_n (pc := 8) rfl rfl rfl ?_
        refine q_getf (pc := 9) rfl (by exact HR.c H hl _ rfl) rfl rfl ?_
        refine q_iload_n (pc := 12) rfl rfl ?_
        refine q_aload_n (pc := 13) rfl rfl rfl ?_
        refine q_iload_n (pc := 14) rfl rfl ?_
        refine n_ild (pc := 15) rfl (by exact HR.la0 H hl rfl rfl) rfl (by omega) (by omega) ?_
        rw [e0]
        refine r_ist2 (pc := 16) rfl H hl rfl (fun _ => rfl) rfl (by omega) (by omega) ?_
        intro h H
        first | refine n_iinc (pc := 17) rfl [_, _, _] 1 (by decide) rfl rfl ?_ | refine q_iinc (pc := 17) [_, _, _] (1) rfl rfl (by decide) rfl ?_
        refine q_goto (pc := 20) rfl ?_
        exact m_layL hl (Or.inr rfl) W0 kk n (i + 1) (by omega) h _ H (f.st rfl) (fun j hj => by
          by_cases e : j = i
          · subst e
            exact stv_a
          · rw [stv_o e]
            exact c1 j (by omega))
termination_by n
theorem m_lay {w : Nat} {γ : Nat → Nat} (H : HR P h s) (hl : 75 ≤ P.1) (hw : w = 56 ∨ w = 57) (W0 : ∀ i, i < 91 → s w i = nI (γ i)) (kk : ∀ h' s', HR P h' s' → sf s s' (fun i => i = 55) → NW s' γ → Q none h') : wc d 135 [.ref 54, .ref w] h Q := by
  refine wc.go [_, _, _] rfl ?_
  refine q_iconst (pc := 0) rfl (nI 0) (by decide) ?_
  refine q_istore_n (pc := 1) [_, _, _] rfl (Nat.le_of_ble_eq_true rfl) rfl ?_
  exact m_layL hl hw W0 kk 91 0 (by omega) h s H sf.rf (fun j hj => by omega)
theorem m_many (H : HR P h s) (hl : 75 ≤ P.1) (N : NW s β) (hq : Q (some (.int (nI (β 88)))) h) : wc d 136 [.ref 54] h Q := by
  refine wc.go [_] rfl ?_
  refine q_aload_n (pc := 0) rfl rfl rfl ?_
  refine q_getf (pc := 1) rfl (by exact HR.c H hl _ rfl) rfl rfl ?_
  refine q_bipush (pc := 4) rfl (nI 88) (by decide) ?_
  refine n_ild (pc := 6) rfl (by first | exact HR.la H hl rfl rfl N | exact HR.la0 H hl rfl rfl) rfl (by omega) (by omega) ?_
  refine q_iret (pc := 7) rfl (rfl) ?_
  exact hq
theorem one_in {n : Nat} (hn : n < 2 ^ 30) : (0 ≤ x ∧ x ≤ nI n - nI 1) ↔ ∃ j, j < n ∧ x = nI j := by
  constructor
  · rintro ⟨h1, h2⟩
    obtain ⟨j, hj, rfl⟩ := x_of (Int32.not_lt.mpr h1)
    rw [Int32.le_iff_toInt_le, pk_sub_toInt hn (by decide), nI_toInt hj] at h2
    exact ⟨j, by omega, rfl⟩
  · rintro ⟨j, hj, rfl⟩
    refine ⟨nI_pos' (by omega), ?_⟩
    rw [Int32.le_iff_toInt_le, pk_sub_toInt hn (by decide), nI_toInt (by omega)]
    omega
theorem out_of {n : Nat} (hn : n < 2 ^ 31) (h : ¬ ∃ j, j < n ∧ x = nI j) : x < 0 ∨ nI n ≤ x := by
  rcases rgc n hn x with ⟨j, hj, e, _⟩ | ⟨g, _⟩
  · exact absurd ⟨j, hj, e⟩ h
  · exact g
theorem m_inX {n : Nat} (hn : n < 2 ^ 30) (ht : ∀ j, j < n → x = nI j → Q (some (.int 1)) h) (hf : (x < 0 ∨ nI n ≤ x) → Q (some (.int 0)) h) : wc d 132 [.int x, .int (nI 0), .int (nI n - nI 1)] h Q := by
  refine c_isIn (fun h1 h2 => ?_) (fun g => hf (out_of (by omega) (fun e => g ((one_in hn).mpr e))))
  obtain ⟨j, hj, e⟩ := (one_in hn).mp ⟨h1, h2⟩
  exact ht j hj e
theorem m_isOne (hd : 1 ≤ d) (H : HR P h s) (hl : 75 ≤ P.1) (N : NW s β) (h4 : β 88 ≤ 4) (ht : ∀ j, j < β 88 → x = nI j → Q (some (.int 1)) h) (hf : (x < 0 ∨ nI (β 88) ≤ x) → Q (some (.int 0)) h) : wc d 137 [.ref 54, .int x] h Q := by
  refine wc.go [_, _] rfl ?_
  refine q_iload_n (pc := 0) rfl rfl ?_
  refine q_iconst (pc := 1) rfl (nI 0) (by decide) ?_
  refine q_aload_n (pc := 2) rfl rfl rfl ?_
  refine q_getf (pc := 3) rfl (by exact HR.c H hl _ rfl) rfl rfl ?_
  refine q_bipush (pc := 6) rfl (nI 88) (by decide) ?_
  refine n_ild (pc := 8) rfl (by first | exact HR.la H hl rfl rfl N | exact HR.la0 H hl rfl rfl) rfl (by omega) (by omega) ?_
  refine q_iconst (pc := 9) rfl (nI 1) (by decide) ?_
  refine q_isub (pc := 10) rfl ?_
  refine q_callS (pc := 11) _ (by decide) rfl rfl rfl rfl (Nat.le_of_ble_eq_true rfl) (by omega) _ rfl ?_
  refine m_inX (by omega) (fun j hj e => ?_) (fun g => ?_)
  · refine q_iret (pc := 14) rfl (rfl) ?_
    first | exact ht _ (by assumption) (by assumption) | exact hf g
  · refine q_iret (pc := 14) rfl (rfl) ?_
    first | exact ht _ (by assumption) (by assumption) | exact hf g
theorem m_isWrong (H : HR P h s) (hl : 75 ≤ P.1) (N : NW s β) (hk : ∀ i, i < 72 → β i ≤ 9) (hc : c < 36) (ht : wrn β c = true → Q (some (.int 1)) h) (hf : wrn β c = false → Q (some (.int 0)) h) : wc d 139 [.ref 54, .int (nI c)] h Q := by
  have b1 := hk c (by omega)
  have b2 := hk (36 + c) (by omega)
  refine wc.go [_, _] rfl ?_
  refine q_aload_n (pc := 0) rfl rfl rfl ?_
  refine q_getf (pc := 1) rfl (by exact HR.c H hl _ rfl) rfl rfl ?_
  refine q_iload_n (pc := 4) rfl rfl ?_
  refine n_ild (pc := 5) rfl (by first | exact HR.la H hl rfl rfl N | exact HR.la0 H hl rfl rfl) rfl (by omega) (by omega) ?_
  refine q_aload_n (pc := 6) rfl rfl rfl ?_
  refine q_getf (pc := 7) rfl (by exact HR.c H hl _ rfl) rfl rfl ?_
  refine q_bipush (pc := 10) rfl (nI 36) (by decide) ?_
  refine q_iload_n (pc := 12) rfl rfl ?_
  first | refine n_iadd (pc := 13) rfl ?_ | refine q_iadd (pc := 13) rfl ?_
  refine n_ild (pc := 14) rfl (by first | exact HR.la H hl rfl rfl N | exact HR.la0 H hl rfl rfl) rfl (by omega) (by omega) ?_
  first | refine n_icmpeq (pc := 15) rfl (by omega) (by omega) (fun h15 => ?_) (fun h15 => ?_) | refine q_icmpeq (pc := 15) rfl (fun h15 => ?_) (fun h15 => ?_)
  · first
    | (exfalso; omega (config := {splitDisjunctions := false}))
    | exact absurd rfl h15
    | skip
      refine q_iconst (pc := 22) rfl (nI 0) (by decide) ?_
      refine q_iret (pc := 23) rfl (rfl) ?_
      first | exact hf (wrn_f h15) | exact ht (wrn_t h15)
  · first
    | (exfalso; omega (config := {splitDisjunctions := false}))
    | exact absurd rfl h15
    | skip
      refine q_iconst (pc := 18) rfl (nI 1) (by decide) ?_
      refine q_goto (pc := 19) rfl ?_
      refine q_iret (pc := 23) rfl (rfl) ?_
      first | exact hf (wrn_f h15) | exact ht (wrn_t h15)
theorem m_at (H : HR P h s) (hl : 75 ≤ P.1) (N : NW s β) (hp : p < 4) (hq : Q (some (.int (nI (β (72 + 4 * p + 2))))) h) : wc d 141 [.ref 54, .int (nI p)] h Q := by
  refine wc.go [_, _] rfl ?_
  refine q_aload_n (pc := 0) rfl rfl rfl ?_
  refine q_getf (pc := 1) rfl (by exact HR.c H hl _ rfl) rfl rfl ?_
  refine q_bipush (pc := 4) rfl (nI 72) (by decide) ?_
  refine q_iconst (pc := 6) rfl (nI 4) (by decide) ?_
  refine q_iload_n (pc := 7) rfl rfl ?_
  first | refine n_imul (pc := 8) rfl ?_ | refine q_imul (pc := 8) rfl ?_
  first | refine n_iadd (pc := 9) rfl ?_ | refine q_iadd (pc := 9) rfl ?_
  refine q_iconst (pc := 10) rfl (nI 2) (by decide) ?_
  first | refine n_iadd (pc := 11) rfl ?_ | refine q_iadd (pc := 11) rfl ?_
  refine n_ild (pc := 12) rfl (by first | exact HR.la H hl rfl rfl N | exact HR.la0 H hl rfl rfl) rfl (by omega) (by omega) ?_
  refine q_iret (pc := 13) rfl (rfl) ?_
  exact hq
theorem m_wrongsL (hd : 1 ≤ d) (H : HR P h s) (hl : 75 ≤ P.1) (N : NW s β) (hk : ∀ i, i < 72 → β i ≤ 9) (hq : Q (some (.int (nI (popN (wbs β))))) h) (n i : Nat) (hi : i + n = 36) : wq d 174 4 [some (.ref 54), some (.int (nI (cntf (wrn β) i))), some (.int (nI i))] [] h Q := by
  match n, hi with
  | 0, hi =>
    obtain rfl : i = 36 := by omega
    rw [pop_w] at hq
    refine q_iload_n (pc := 4) rfl rfl ?_
    refine q_bipush (pc := 5) rfl (nI 36) (by decide) ?_
    first | refine n_icmpge (pc := 7) rfl (by omega) (by omega) (fun h7 => ?_) (fun h7 => ?_) | refine q_icmpge (pc := 7) rfl (fun h7 => ?_) (fun h7 => ?_)
    · refine q_iload_n (pc := 32) rfl rfl ?_
      refine q_iret (pc := 33) rfl (rfl) ?_
      exact hq
    · first | (exfalso; omega) | exact absurd h7 (nI_pos (by omega)) | exact absurd (nI_pos' (by omega)) h7
  | n + 1, hi =>
    refine q_iload_n (pc := 4) rfl rfl ?_
    refine q_bipush (pc := 5) rfl (nI 36) (by decide) ?_
    first | refine n_icmpge (pc := 7) rfl (by omega) (by omega) (fun h7 => ?_) (fun h7 => ?_) | refine q_icmpge (pc := 7) rfl (fun h7 => ?_) (fun h7 => ?_)
    · first | (exfalso; omega) | exact absurd h7 (nI_pos (by omega)) | exact absurd (nI_pos' (by omega)) h7
    · refine q_iload_n (pc := 10) rfl rfl ?_
      refine q_aload_n (pc := 11) rfl rfl rfl ?_
      refine q_iload_n (pc := 12) rfl rfl ?_
      refine q_callV (pc := 13) _ rfl rfl rfl (by exact HR.c H hl _ rfl) rfl (Nat.le_of_ble_eq_true rfl) (by omega) _ rfl ?_
      refine m_isWrong H hl N hk (by omega) (fun hw => ?_) (fun hw => ?_)
      · refine q_ifeq (pc := 16) rfl (fun z => absurd z (by decide)) (fun _ => ?_)
        refine q_iconst (pc := 19) rfl (nI 1) (by decide) ?_
        refine q_goto (pc := 20) rfl ?_
        first | refine n_iadd (pc := 24) rfl ?_ | refine q_iadd (pc := 24) rfl ?_
        refine q_istore_n (pc := 25) [_, _, _] rfl (Nat.le_of_ble_eq_true rfl) rfl ?_
        first | refine n_iinc (pc := 26) rfl [_, _, _] 1 (by decide) rfl rfl ?_ | refine q_iinc (pc := 26) [_, _, _] (1) rfl rfl (by decide) rfl ?_
        refine q_goto (pc := 29) rfl ?_
        have ih := m_wrongsL hd H hl N hk hq n (i + 1) (by omega)
        rw [cntf, hw] at ih
        exact ih
      · refine q_ifeq (pc := 16) rfl (fun _ => ?_) (fun z => absurd (by decide) z)
        refine q_iconst (pc := 23) rfl (nI 0) (by decide) ?_
        first | refine n_iadd (pc := 24) rfl ?_ | refine q_iadd (pc := 24) rfl ?_
        refine q_istore_n (pc := 25) [_, _, _] rfl (Nat.le_of_ble_eq_true rfl) rfl ?_
        first | refine n_iinc (pc := 26) rfl [_, _, _] 1 (by decide) rfl rfl ?_ | refine q_iinc (pc := 26) [_, _, _] (1) rfl rfl (by decide) rfl ?_
        refine q_goto (pc := 29) rfl ?_
        have ih := m_wrongsL hd H hl N hk hq n (i + 1) (by omega)
        rw [cntf, hw] at ih
        exact ih
termination_by n
theorem m_wrongs (hd : 1 ≤ d) (H : HR P h s) (hl : 75 ≤ P.1) (N : NW s β) (hk : ∀ i, i < 72 → β i ≤ 9) (hq : Q (some (.int (nI (popN (wbs β))))) h) : wc d 174 [.ref 54] h Q := by
  refine wc.go [_, _, _] rfl ?_
  refine q_iconst (pc := 0) rfl (nI 0) (by decide) ?_
  refine q_istore_n (pc := 1) [_, _, _] rfl (Nat.le_of_ble_eq_true rfl) rfl ?_
  refine q_iconst (pc := 2) rfl (nI 0) (by decide) ?_
  refine q_istore_n (pc := 3) [_, _, _] rfl (Nat.le_of_ble_eq_true rfl) rfl ?_
  exact m_wrongsL hd H hl N hk hq 36 0 (by omega)
theorem m_place {w : Nat} (hd : 2 ≤ d) (H : HR P h s) (hl : 75 ≤ P.1) (N : NW s β) (h4 : β 88 ≤ 4) (hw : w < 7) (h0 : w = 0 → Q (some (.int (nI 89))) h) (h1 : ∀ c, c < 36 → w = 1 ∨ w = 2 → x = nI c → Q (some (.int (nI (36 * (w - 1) + c)))) h) (h1f : w = 1 ∨ w = 2 → (x < 0 ∨ nI 36 ≤ x) → Q (some (.int (-1))) h) (h3 : 3 ≤ w → ∀ p, p < β 88 → x = nI p → Q (some (.int (nI (72 + 4 * p + w - 2)))) h) (h3f : 3 ≤ w → (x < 0 ∨ nI (β 88) ≤ x) → Q (some (.int (-1))) h) : wc d 142 [.ref 54, .int (nI w), .int x] h Q := by
  refine wc.go [_, _, _] rfl ?_
  refine q_iload_n (pc := 0) rfl rfl ?_
  first | refine n_ifne (pc := 1) rfl (by omega) (fun h1 => ?_) (fun h1 => ?_) | refine q_ifne (pc := 1) rfl (fun h1 => ?_) (fun h1 => ?_)
  · first
    | (exfalso; omega (config := {splitDisjunctions := false}))
    | exact absurd rfl h1
    | skip
      refine q_iload_n (pc := 7) rfl rfl ?_
      refine q_iconst (pc := 8) rfl (nI 3) (by decide) ?_
      first | refine n_icmpge (pc := 9) rfl (by omega) (by omega) (fun h9 => ?_) (fun h9 => ?_) | refine q_icmpge (pc := 9) rfl (fun h9 => ?_) (fun h9 => ?_)
      · first
        | (exfalso; omega (config := {splitDisjunctions := false}))
        | skip
          refine q_aload_n (pc := 32) rfl rfl rfl ?_
          refine q_iload_n (pc := 33) rfl rfl ?_
          refine q_callV (pc := 34) _ rfl rfl rfl (by exact HR.c H hl _ rfl) rfl (Nat.le_of_ble_eq_true rfl) (by omega) _ rfl ?_
          refine m_isOne (by omega) H hl N h4 (fun p hp e => ?_) (fun g => ?_)
          · subst e
            refine q_ifeq (pc := 37) rfl (fun z => absurd z (by decide)) (fun _ => ?_)
            refine q_bipush (pc := 40) rfl (nI 72) (by decide) ?_
            refine q_iconst (pc := 42) rfl (nI 4) (by decide) ?_
            refine q_iload_n (pc := 43) rfl rfl ?_
            first | refine n_imul (pc := 44) rfl ?_ | refine q_imul (pc := 44) rfl ?_
            first | refine n_iadd (pc := 45) rfl ?_ | refine q_iadd (pc := 45) rfl ?_
            refine q_iload_n (pc := 46) rfl rfl ?_
            first | refine n_iadd (pc := 47) rfl ?_ | refine q_iadd (pc := 47) rfl ?_
            refine q_iconst (pc := 48) rfl (nI 2) (by decide) ?_
            first | refine n_isub (pc := 49) rfl (by omega) ?_ | refine q_isub (pc := 49) rfl ?_
            refine q_goto (pc := 50) rfl ?_
            refine q_iret (pc := 54) rfl (rfl) ?_
            first | exact h3 (by omega) p hp rfl | exact h3f (by omega) g
          · refine q_ifeq (pc := 37) rfl (fun _ => ?_) (fun z => absurd (by decide) z)
            refine q_iconst (pc := 53) rfl (-1) (by decide) ?_
            refine q_iret (pc := 54) rfl (rfl) ?_
            first | exact h3 (by omega) p hp rfl | exact h3f (by omega) g
      · first
        | (exfalso; omega (config := {splitDisjunctions := false}))
        | skip
          refine q_iload_n (pc := 12) rfl rfl ?_
          refine q_callS (pc := 13) _ (by decide) rfl rfl rfl rfl (Nat.le_of_ble_eq_true rfl) (by omega) _ rfl ?_
          refine m_isCell (by omega) (fun c hc e => ?_) (fun g => ?_)
          · subst e
            refine q_ifeq (pc := 16) rfl (fun z => absurd z (by decide)) (fun _ => ?_)
            refine q_bipush (pc := 19) rfl (nI 36) (by decide) ?_
            refine q_iload_n (pc := 21) rfl rfl ?_
            refine q_iconst (pc := 22) rfl (nI 1) (by decide) ?_
            first | refine n_isub (pc := 23) rfl (by omega) ?_ | refine q_isub (pc := 23) rfl ?_
            first | refine n_imul (pc := 24) rfl ?_ | refine q_imul (pc := 24) rfl ?_
            refine q_iload_n (pc := 25) rfl rfl ?_
            first | refine n_iadd (pc := 26) rfl ?_ | refine q_iadd (pc := 26) rfl ?_
            refine q_goto (pc := 27) rfl ?_
            refine q_iret (pc := 31) rfl (rfl) ?_
            first | exact h1 c hc (by omega) rfl | exact h1f (by omega) g
          · refine q_ifeq (pc := 16) rfl (fun _ => ?_) (fun z => absurd (by decide) z)
            refine q_iconst (pc := 30) rfl (-1) (by decide) ?_
            refine q_iret (pc := 31) rfl (rfl) ?_
            first | exact h1 c hc (by omega) rfl | exact h1f (by omega) g
  · first
    | (exfalso; omega (config := {splitDisjunctions := false}))
    | exact absurd rfl h1
    | skip
      refine q_bipush (pc := 4) rfl (nI 89) (by decide) ?_
      refine q_iret (pc := 6) rfl (rfl) ?_
      exact h0 (by omega)
theorem m_place4 {w : Nat} (hd : 2 ≤ d) (H : HR P h s) (hl : 75 ≤ P.1) (N : NW s β) (h4 : β 88 ≤ 4) (hw : w < 5) (ht : plt β x (nI w) < 91 → Q (some (.int (nI (plt β x (nI w))))) h) (hf : ¬ plt β x (nI w) < 91 → Q (some (.int (-1))) h) : wc d 142 [.ref 54, .int (nI w), .int x] h Q := by
  have z7 : rg 7 (nI w) = w := rg_in (by omega) (by decide)
  have e : ∀ j, plt β x (nI w) = j → j < 91 → Q (some (.int (nI j))) h := fun j e hj => by
    rw [e] at ht
    exact ht hj
  have e2 : plt β x (nI w) = 91 → Q (some (.int (-1))) h := fun e => hf (by omega)
  refine m_place hd H hl N h4 (by omega) (fun z => e _ ?_ (by omega)) (fun c hc z ex => e _ ?_ (by omega)) (fun z g => e2 ?_) (fun z p hp ex => e _ ?_ (by omega)) (fun z g => e2 ?_)
  · unfold plt
    rw [z7, if_pos z]
  · subst ex
    unfold plt
    rw [z7, rg_in hc (by decide)]
    rcases z with rfl | rfl
    · rw [if_neg (by decide), if_pos rfl, if_pos hc]
      omega
    · rw [if_neg (by decide), if_neg (by decide), if_pos rfl, if_pos hc]
  · unfold plt
    rw [z7, rg_out g]
    rcases z with rfl | rfl
    · rw [if_neg (by decide), if_pos rfl, if_neg (by decide)]
    · rw [if_neg (by decide), if_neg (by decide), if_pos rfl, if_neg (by decide)]
  · subst ex
    unfold plt
    rw [z7, rg_in hp (by omega), if_neg (by omega), if_neg (by omega), if_neg (by omega), if_pos hp]
    rcases (show w = 3 ∨ w = 4 by omega) with rfl | rfl
    · rw [if_pos rfl]
      omega
    · rw [if_neg (by decide), if_pos rfl]
      omega
  · unfold plt
    rw [z7, rg_out g, if_neg (by omega), if_neg (by omega), if_neg (by omega), if_neg (by omega)]
end P46
