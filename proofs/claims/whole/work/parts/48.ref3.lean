/-! ===== the reference: what a text tells, takes, lays, tides ===== -/
section P48
variable {d k pc a i j c p b t n m part q : Nat} {v : Int} {L L' : mx_L} {st r : List Value} {P : mx_Pm} {h : mx_H} {s : mx_St} {Q : Option Value → mx_H → Prop} {x y w z u : Int32} {β κ : Nat → Nat} {C : Nat → Nat → Int32} {E : Nat → Nat → Nat} {ik tz : Nat} {tp : Nat → Nat} {σ : Nat → Int32} {sz : Nat → Nat} {cl : Nat → Nat → Int32}
/-- only the one who is taken and the row change -/
def tf (s s' : mx_St) : Prop := sf s s' (fun i => i = 54 ∨ i = 63) ∧ ∀ j, j < 18 ∨ 20 < j → s' 54 j = s 54 j
theorem tf.rf {s : mx_St} : tf s s := ⟨sf.rf, fun _ _ => rfl⟩
theorem tf.tr {s s1 s2 : mx_St} (a : tf s s1) (b : tf s1 s2) : tf s s2 := ⟨a.1.tr b.1, fun j hj => (b.2 j hj).trans (a.2 j hj)⟩
theorem tf_mf {s s' : mx_St} (a : tf s s') : mf s s' := ⟨a.1.mono (fun i g => by unfold mS; omega), a.2 3 (by omega), a.2 5 (by omega), a.2 12 (by omega)⟩
theorem tf_row {s s' : mx_St} (a : sf s s' (fun i => i = 63)) : tf s s' := ⟨a.mono (fun i g => Or.inr g), fun j _ => congrFun (a 54 (by decide)) j⟩
theorem NW.tf {s s' : mx_St} (N : NW s β) (f : tf s s') : NW s' β := N.fr f.1 (by decide)
def TKN (s : mx_St) (p m n : Nat) : Prop := s 54 18 = nI p ∧ s 54 19 = nI m ∧ s 54 20 = nI n
theorem TKN.fr {s s' : mx_St} {p m n : Nat} (t : TKN s p m n) (f : sf s s' (fun i => i = 63)) : TKN s' p m n := ⟨(congrFun (f 54 (by decide)) _).trans t.1, (congrFun (f 54 (by decide)) _).trans t.2.1, (congrFun (f 54 (by decide)) _).trans t.2.2⟩
theorem MT.row {s s' : mx_St} {n : Nat} (T : MT s n C E) (f : tf s s') : MT s' n C E := T.fr (tf_mf f)
theorem m_take (H : HR P h s) (hl : 75 ≤ P.1) (N : NW s β) (hp : p < 4) (kk : ∀ h' s', HR P h' s' → tf s s' → sf s s' (fun i => i = 54) → TKN s' (β (72 + 4 * p)) (β (72 + 4 * p + 1)) (β 90) → Q none h') : wc d 168 [.ref 54, .int (nI p)] h Q := by
  refine wc.go [_, _] rfl ?_
  refine q_aload_n (pc := 0) rfl rfl rfl ?_
  refine q_aload_n (pc := 1) rfl rfl rfl ?_
  refine q_getf (pc := 2) rfl (by exact HR.c H hl _ rfl) rfl rfl ?_
  refine q_bipush (pc := 5) rfl (nI 72) (by decide) ?_
  refine q_iconst (pc := 7) rfl (nI 4) (by decide) ?_
  refine q_iload_n (pc := 8) rfl rfl ?_
  first | refine n_imul (pc := 9) rfl ?_ | refine q_imul (pc := 9) rfl ?_
  first | refine n_iadd (pc := 10) rfl ?_ | refine q_iadd (pc := 10) rfl ?_
  refine n_ild (pc := 11) rfl (by first | exact HR.la H hl rfl rfl N | exact HR.la0 H hl rfl rfl) rfl (by omega) (by omega) ?_
  refine r_pf2 (pc := 12) (i := 18) rfl H hl rfl rfl rfl rfl (Nat.le_of_ble_eq_true rfl) rfl rfl ?_
  intro h H
  have N : NW (stv s 54 18 (nI (β (72 + 4 * p)))) β := N.fr (S := fun i => i = 54) (sf.rf.st rfl) (by decide)
  refine q_aload_n (pc := 15) rfl rfl rfl ?_
  refine q_aload_n (pc := 16) rfl rfl rfl ?_
  refine q_getf (pc := 17) rfl (by exact HR.c H hl _ rfl) rfl rfl ?_
  refine q_bipush (pc := 20) rfl (nI 72) (by decide) ?_
  refine q_iconst (pc := 22) rfl (nI 4) (by decide) ?_
  refine q_iload_n (pc := 23) rfl rfl ?_
  first | refine n_imul (pc := 24) rfl ?_ | refine q_imul (pc := 24) rfl ?_
  first | refine n_iadd (pc := 25) rfl ?_ | refine q_iadd (pc := 25) rfl ?_
  refine q_iconst (pc := 26) rfl (nI 1) (by decide) ?_
  first | refine n_iadd (pc := 27) rfl ?_ | refine q_iadd (pc := 27) rfl ?_
  refine n_ild (pc := 28) rfl (by first | exact HR.la H hl rfl rfl N | exact HR.la0 H hl rfl rfl) rfl (by omega) (by omega) ?_
  refine r_pf2 (pc := 29) (i := 19) rfl H hl rfl rfl rfl rfl (Nat.le_of_ble_eq_true rfl) rfl rfl ?_
  intro h H
  have N : NW (stv (stv s 54 18 (nI (β (72 + 4 * p)))) 54 19 (nI (β (72 + 4 * p + 1)))) β := N.fr (S := fun i => i = 54) (sf.rf.st rfl) (by decide)
  refine q_aload_n (pc := 32) rfl rfl rfl ?_
  refine q_aload_n (pc := 33) rfl rfl rfl ?_
  refine q_getf (pc := 34) rfl (by exact HR.c H hl _ rfl) rfl rfl ?_
  refine q_bipush (pc := 37) rfl (nI 90) (by decide) ?_
  refine n_ild (pc := 39) rfl (by first | exact HR.la H hl rfl rfl N | exact HR.la0 H hl rfl rfl) rfl (by omega) (by omega) ?_
  refine r_pf2 (pc := 40) (i := 20) rfl H hl rfl rfl rfl rfl (Nat.le_of_ble_eq_true rfl) rfl rfl ?_
  intro h H
  refine q_vret (pc := 43) rfl rfl ?_
  refine kk _ _ H ⟨((sf.rf.st (Or.inl rfl)).st (Or.inl rfl)).st (Or.inl rfl), fun j hj => ?_⟩ (((sf.rf.st (by rfl)).st (by rfl)).st (by rfl)) ⟨?_, ?_, stv_a⟩
  · rw [stv_o (by omega), stv_o (by omega), stv_o (by omega)]
  · rw [stv_o (by decide), stv_o (by decide), stv_a]
  · rw [stv_o (by decide), stv_a]
theorem cnt1 (f : Nat → Bool) (a : Nat) : ∀ n, cntf (fun d => decide (d = a) && f d) n = (decide (a < n) && f a).toNat := by
  intro n
  induction n with
  | zero => rfl
  | succ n ih =>
    rw [cntf, ih]
    by_cases e : n = a
    · subst e
      rw [decide_eq_true (show n = n from rfl), decide_eq_false (show ¬ n < n by omega), decide_eq_true (show n < n + 1 by omega)]
      cases f n <;> rfl
    · rw [decide_eq_false e]
      by_cases g : a < n
      · rw [decide_eq_true g, decide_eq_true (show a < n + 1 by omega)]
        rfl
      · rw [decide_eq_false g, decide_eq_false (show ¬ a < n + 1 by omega)]
        rfl
theorem cnt_or (p q : Nat → Bool) : ∀ n, (∀ d, d < n → (p d && q d) = false) → cntf (fun d => p d || q d) n = cntf p n + cntf q n := by
  intro n
  induction n with
  | zero => intro _; rfl
  | succ n ih =>
    intro h
    have h1 := ih (fun d hd => h d (by omega))
    have h2 := h n (by omega)
    rw [cntf, cntf, cntf, h1]
    have key : ∀ a b : Bool, (a && b) = false → (a || b).toNat = a.toNat + b.toNat := by decide
    rw [key _ _ h2]
    omega
theorem nb_all : ∀ c, c < 36 → ∀ d, d < 36 → decide (apN c d = 1) = (((decide (6 ≤ c) && decide (d = c - 6)) || (decide (c < 30) && decide (d = c + 6))) || ((decide (0 < c % 6) && decide (d = c - 1)) || (decide (c % 6 < 5) && decide (d = c + 1)))) := by decide +kernel
theorem cntf_0 (f : Nat → Bool) (n : Nat) (h : ∀ d, d < n → f d = false) : cntf f n = 0 := by
  induction n with
  | zero => rfl
  | succ n ih => rw [cntf, ih (fun d hd => h d (by omega)), h n (by omega)]; rfl
theorem cnt_g (g : Bool) (f : Nat → Bool) (a : Nat) (ha : g = true → a < 36) : cntf (fun d => g && decide (d = a) && f d) 36 = (g && f a).toNat := by
  cases g with
  | false => exact cntf_0 _ _ (fun d _ => rfl)
  | true =>
    have := cnt1 f a 36
    rw [decide_eq_true (ha rfl)] at this
    exact this
theorem w4_cnt (f : Nat → Nat) (c : Nat) (hc : c < 36) : cntf (fun d => decide (apN c d = 1) && wrn f d) 36 = w4 f c := by
  have e : ∀ d, d < 36 → (decide (apN c d = 1) && wrn f d) = (((decide (6 ≤ c) && decide (d = c - 6) && wrn f d) || (decide (c < 30) && decide (d = c + 6) && wrn f d)) || ((decide (0 < c % 6) && decide (d = c - 1) && wrn f d) || (decide (c % 6 < 5) && decide (d = c + 1) && wrn f d))) := fun d hd => by
    rw [nb_all c hc d hd]
    cases wrn f d <;> simp
  rw [cntf_congr e, cnt_or _ _ _ (fun d hd => ?_), cnt_or _ _ _ (fun d hd => ?_), cnt_or _ _ _ (fun d hd => ?_), cnt_g _ _ _ (fun z => by have := of_decide_eq_true z; omega), cnt_g _ _ _ (fun z => by have := of_decide_eq_true z; omega), cnt_g _ _ _ (fun z => by have := of_decide_eq_true z; omega), cnt_g _ _ _ (fun z => by have := of_decide_eq_true z; omega)]
  · unfold w4
    omega
  · by_cases g1 : d = c - 1
    · by_cases g2 : d = c + 1
      · exfalso; omega
      · rw [decide_eq_false g2]; simp
    · rw [decide_eq_false g1]; simp
  · by_cases g1 : d = c - 6
    · by_cases g2 : d = c + 6
      · exfalso; omega
      · rw [decide_eq_false g2]; simp
    · rw [decide_eq_false g1]; simp
  · by_cases g1 : (6 ≤ c ∧ d = c - 6) ∨ d = c + 6
    · have a1 : ¬ (0 < c % 6 ∧ d = c - 1) := by omega
      have a2 : ¬ d = c + 1 := by omega
      rw [decide_eq_false a2]
      by_cases g3 : 0 < c % 6
      · rw [decide_eq_false (fun z => a1 ⟨g3, z⟩)]; simp
      · rw [decide_eq_false g3]; simp
    · have a2 : ¬ d = c + 6 := fun z => g1 (Or.inr z)
      rw [decide_eq_false a2]
      by_cases g3 : 6 ≤ c
      · rw [decide_eq_false (fun z => g1 (Or.inl ⟨g3, z⟩))]; simp
      · rw [decide_eq_false g3]; simp
theorem m_besideL (hd : 2 ≤ d) (H : HR P h s) (hl : 75 ≤ P.1) (N : NW s β) (hk : ∀ i, i < 72 → β i ≤ 9) (hc : c < 36) (hq : Q (some (.int (nI (w4 β c)))) h) (n i : Nat) (hi : i + n = 36) : wq d 167 4 [some (.ref 54), some (.int (nI c)), some (.int (nI (cntf (fun d => decide (apN c d = 1) && wrn β d) i))), some (.int (nI i))] [] h Q := by
  match n, hi with
  | 0, hi =>
    obtain rfl : i = 36 := by omega
    rw [← w4_cnt β c hc] at hq
    refine q_iload_n (pc := 4) rfl rfl ?_
    refine q_bipush (pc := 5) rfl (nI 36) (by decide) ?_
    first | refine n_icmpge (pc := 7) rfl (by omega) (by omega) (fun h7 => ?_) (fun h7 => ?_) | refine q_icmpge (pc := 7) rfl (fun h7 => ?_) (fun h7 => ?_)
    · refine q_iload_n (pc := 41) rfl rfl ?_
      refine q_iret (pc := 42) rfl (rfl) ?_
      exact hq
    · first | (exfalso; omega) | exact absurd h7 (nI_pos (by omega)) | exact absurd (nI_pos' (by omega)) h7
  | n + 1, hi =>
    have ba := apN_le hc (show i < 36 by omega)
    refine q_iload_n (pc := 4) rfl rfl ?_
    refine q_bipush (pc := 5) rfl (nI 36) (by decide) ?_
    first | refine n_icmpge (pc := 7) rfl (by omega) (by omega) (fun h7 => ?_) (fun h7 => ?_) | refine q_icmpge (pc := 7) rfl (fun h7 => ?_) (fun h7 => ?_)
    · first | (exfalso; omega) | exact absurd h7 (nI_pos (by omega)) | exact absurd (nI_pos' (by omega)) h7
    · refine q_iload_n (pc := 10) rfl rfl ?_
      refine q_iload_n (pc := 11) rfl rfl ?_
      refine q_iload_n (pc := 12) rfl rfl ?_
      refine q_callS (pc := 13) _ (by decide) rfl rfl rfl rfl (Nat.le_of_ble_eq_true rfl) (by omega) _ rfl ?_
      refine m_apart hc (by omega) ?_
      refine q_iconst (pc := 16) rfl (nI 1) (by decide) ?_
      first | refine n_icmpne (pc := 17) rfl (by omega) (by omega) (fun h17 => ?_) (fun h17 => ?_) | refine q_icmpne (pc := 17) rfl (fun h17 => ?_) (fun h17 => ?_)
      · first
        | (exfalso; omega (config := {splitDisjunctions := false}))
        | exact absurd rfl h17
        | skip
          refine q_iconst (pc := 32) rfl (nI 0) (by decide) ?_
          first | refine n_iadd (pc := 33) rfl ?_ | refine q_iadd (pc := 33) rfl ?_
          refine q_istore_n (pc := 34) [_, _, _, _] rfl (Nat.le_of_ble_eq_true rfl) rfl ?_
          first | refine n_iinc (pc := 35) rfl [_, _, _, _] 1 (by decide) rfl rfl ?_ | refine q_iinc (pc := 35) [_, _, _, _] (1) rfl rfl (by decide) rfl ?_
          refine q_goto (pc := 38) rfl ?_
          first
          | ((have ih := m_besideL hd H hl N hk hc hq n (i + 1) (by omega)
              rw [cntf, decide_eq_true h17, hw] at ih
              exact ih))
          | ((have ih := m_besideL hd H hl N hk hc hq n (i + 1) (by omega)
              rw [cntf, decide_eq_false h17] at ih
              exact ih))
      · first
        | (exfalso; omega (config := {splitDisjunctions := false}))
        | exact absurd rfl h17
        | skip
          refine q_aload_n (pc := 20) rfl rfl rfl ?_
          refine q_iload_n (pc := 21) rfl rfl ?_
          refine q_callV (pc := 22) _ rfl rfl rfl (by exact HR.c H hl _ rfl) rfl (Nat.le_of_ble_eq_true rfl) (by omega) _ rfl ?_
          refine m_isWrong H hl N hk (by omega) (fun hw => ?_) (fun hw => ?_)
          · refine q_ifeq (pc := 25) rfl (fun z => absurd z (by decide)) (fun _ => ?_)
            refine q_iconst (pc := 28) rfl (nI 1) (by decide) ?_
            refine q_goto (pc := 29) rfl ?_
            first | refine n_iadd (pc := 33) rfl ?_ | refine q_iadd (pc := 33) rfl ?_
            refine q_istore_n (pc := 34) [_, _, _, _] rfl (Nat.le_of_ble_eq_true rfl) rfl ?_
            first | refine n_iinc (pc := 35) rfl [_, _, _, _] 1 (by decide) rfl rfl ?_ | refine q_iinc (pc := 35) [_, _, _, _] (1) rfl rfl (by decide) rfl ?_
            refine q_goto (pc := 38) rfl ?_
            first
            | ((have ih := m_besideL hd H hl N hk hc hq n (i + 1) (by omega)
                rw [cntf, decide_eq_true h17, hw] at ih
                exact ih))
            | ((have ih := m_besideL hd H hl N hk hc hq n (i + 1) (by omega)
                rw [cntf, decide_eq_false h17] at ih
                exact ih))
          · refine q_ifeq (pc := 25) rfl (fun _ => ?_) (fun z => absurd (by decide) z)
            refine q_iconst (pc := 32) rfl (nI 0) (by decide) ?_
            first | refine n_iadd (pc := 33) rfl ?_ | refine q_iadd (pc := 33) rfl ?_
            refine q_istore_n (pc := 34) [_, _, _, _] rfl (Nat.le_of_ble_eq_true rfl) rfl ?_
            first | refine n_iinc (pc := 35) rfl [_, _, _, _] 1 (by decide) rfl rfl ?_ | refine q_iinc (pc := 35) [_, _, _, _] (1) rfl rfl (by decide) rfl ?_
            refine q_goto (pc := 38) rfl ?_
            first
            | ((have ih := m_besideL hd H hl N hk hc hq n (i + 1) (by omega)
                rw [cntf, decide_eq_true h17, hw] at ih
                exact ih))
            | ((have ih := m_besideL hd H hl N hk hc hq n (i + 1) (by omega)
                rw [cntf, decide_eq_false h17] at ih
                exact ih))
termination_by n
theorem m_beside (hd : 2 ≤ d) (H : HR P h s) (hl : 75 ≤ P.1) (N : NW s β) (hk : ∀ i, i < 72 → β i ≤ 9) (hc : c < 36) (hq : Q (some (.int (nI (w4 β c)))) h) : wc d 167 [.ref 54, .int (nI c)] h Q := by
  refine wc.go [_, _, _, _] rfl ?_
  refine q_iconst (pc := 0) rfl (nI 0) (by decide) ?_
  refine q_istore_n (pc := 1) [_, _, _, _] rfl (Nat.le_of_ble_eq_true rfl) rfl ?_
  refine q_iconst (pc := 2) rfl (nI 0) (by decide) ?_
  refine q_istore_n (pc := 3) [_, _, _, _] rfl (Nat.le_of_ble_eq_true rfl) rfl ?_
  exact m_besideL hd H hl N hk hc hq 36 0 (by omega)
theorem mc_b {w : Int32} (h1 : ¬ w < -15) (h2 : w < -6) (h3 : ¬ (w = -9 ∨ w = -15)) : w = -7 ∨ w = -8 ∨ w = -10 ∨ w = -11 ∨ w = -12 ∨ w = -13 ∨ w = -14 := by
  rcases w_sign h1 h2 with e | e | e | e | e | e | e | e | e
  · exact Or.inl e
  · exact Or.inr (Or.inl e)
  · exact absurd (Or.inl e) h3
  · exact Or.inr (Or.inr (Or.inl e))
  · exact Or.inr (Or.inr (Or.inr (Or.inl e)))
  · exact Or.inr (Or.inr (Or.inr (Or.inr (Or.inl e))))
  · exact Or.inr (Or.inr (Or.inr (Or.inr (Or.inr (Or.inl e)))))
  · exact Or.inr (Or.inr (Or.inr (Or.inr (Or.inr (Or.inr e)))))
  · exact absurd (Or.inr e) h3
theorem m_deed {w : Int32} (hd : 1 ≤ d) (hw : w = -7 ∨ w = -8 ∨ w = -10 ∨ w = -11 ∨ w = -12 ∨ w = -13 ∨ w = -14) (hq : Q (some (.int (jn w x y))) h) : wc d 165 [.int (mc w), .int x, .int y] h Q := by
  rcases hw with rfl | rfl | rfl | rfl | rfl | rfl | rfl
  ·
    refine wc.go [_, _, _] rfl ?_
    refine q_iload_n (pc := 0) rfl rfl ?_
    rw [show mc (-7) = -20 from by decide]
    · refine q_tsw (pc := 1) (t := 44) rfl (by decide) ?_
      refine q_iload_n (pc := 44) rfl rfl ?_
      refine q_ifne (pc := 45) rfl (fun h45 => ?_) (fun h45 => ?_)
      · first
        | (exfalso; omega (config := {splitDisjunctions := false}))
        | exact absurd rfl h45
        | skip
          refine q_iconst (pc := 52) rfl (nI 1) (by decide) ?_
          refine q_goto (pc := 53) rfl ?_
          refine q_callS (pc := 57) _ (by decide) rfl rfl rfl rfl (Nat.le_of_ble_eq_true rfl) (by omega) _ rfl ?_
          first | refine m_yes1 ?_ | refine m_yes0 ?_
          refine q_iret (pc := 60) rfl (rfl) ?_
          refine eqQ ?_ hq
          unfold jn
          rw [if_pos rfl]
          split <;> rename_i hh <;> first | rfl | (exfalso; first | exact hh (Or.inl h45) | exact hh (Or.inr h49) | exact hh.elim (fun z => z h45) (fun z => z h49))
      · first
        | (exfalso; omega (config := {splitDisjunctions := false}))
        | exact absurd rfl h45
        | skip
          refine q_iload_n (pc := 48) rfl rfl ?_
          refine q_ifeq (pc := 49) rfl (fun h49 => ?_) (fun h49 => ?_)
          · first
            | (exfalso; omega (config := {splitDisjunctions := false}))
            | exact absurd rfl h49
            | skip
              refine q_iconst (pc := 56) rfl (nI 0) (by decide) ?_
              refine q_callS (pc := 57) _ (by decide) rfl rfl rfl rfl (Nat.le_of_ble_eq_true rfl) (by omega) _ rfl ?_
              first | refine m_yes1 ?_ | refine m_yes0 ?_
              refine q_iret (pc := 60) rfl (rfl) ?_
              refine eqQ ?_ hq
              unfold jn
              rw [if_pos rfl]
              split <;> rename_i hh <;> first | rfl | (exfalso; first | exact hh (Or.inl h45) | exact hh (Or.inr h49) | exact hh.elim (fun z => z h45) (fun z => z h49))
          · first
            | (exfalso; omega (config := {splitDisjunctions := false}))
            | exact absurd rfl h49
            | skip
              refine q_iconst (pc := 52) rfl (nI 1) (by decide) ?_
              refine q_goto (pc := 53) rfl ?_
              refine q_callS (pc := 57) _ (by decide) rfl rfl rfl rfl (Nat.le_of_ble_eq_true rfl) (by omega) _ rfl ?_
              first | refine m_yes1 ?_ | refine m_yes0 ?_
              refine q_iret (pc := 60) rfl (rfl) ?_
              refine eqQ ?_ hq
              unfold jn
              rw [if_pos rfl]
              split <;> rename_i hh <;> first | rfl | (exfalso; first | exact hh (Or.inl h45) | exact hh (Or.inr h49) | exact hh.elim (fun z => z h45) (fun z => z h49))
  ·
    refine wc.go [_, _, _] rfl ?_
    refine q_iload_n (pc := 0) rfl rfl ?_
    rw [show mc (-8) = -21 from by decide]
    · refine q_tsw (pc := 1) (t := 61) rfl (by decide) ?_
      refine q_iload_n (pc := 61) rfl rfl ?_
      refine q_ifeq (pc := 62) rfl (fun h62 => ?_) (fun h62 => ?_)
      · first
        | (exfalso; omega (config := {splitDisjunctions := false}))
        | exact absurd rfl h62
        | skip
          refine q_iconst (pc := 73) rfl (nI 0) (by decide) ?_
          refine q_callS (pc := 74) _ (by decide) rfl rfl rfl rfl (Nat.le_of_ble_eq_true rfl) (by omega) _ rfl ?_
          first | refine m_yes1 ?_ | refine m_yes0 ?_
          refine q_iret (pc := 77) rfl (rfl) ?_
          refine eqQ ?_ hq
          unfold jn
          rw [if_neg (by decide), if_pos rfl]
          split <;> rename_i hh <;> first | rfl | (exfalso; first | exact hh ⟨h62, h66⟩ | exact hh.1 h62 | exact hh.2 h66)
      · first
        | (exfalso; omega (config := {splitDisjunctions := false}))
        | exact absurd rfl h62
        | skip
          refine q_iload_n (pc := 65) rfl rfl ?_
          refine q_ifeq (pc := 66) rfl (fun h66 => ?_) (fun h66 => ?_)
          · first
            | (exfalso; omega (config := {splitDisjunctions := false}))
            | exact absurd rfl h66
            | skip
              refine q_iconst (pc := 73) rfl (nI 0) (by decide) ?_
              refine q_callS (pc := 74) _ (by decide) rfl rfl rfl rfl (Nat.le_of_ble_eq_true rfl) (by omega) _ rfl ?_
              first | refine m_yes1 ?_ | refine m_yes0 ?_
              refine q_iret (pc := 77) rfl (rfl) ?_
              refine eqQ ?_ hq
              unfold jn
              rw [if_neg (by decide), if_pos rfl]
              split <;> rename_i hh <;> first | rfl | (exfalso; first | exact hh ⟨h62, h66⟩ | exact hh.1 h62 | exact hh.2 h66)
          · first
            | (exfalso; omega (config := {splitDisjunctions := false}))
            | exact absurd rfl h66
            | skip
              refine q_iconst (pc := 69) rfl (nI 1) (by decide) ?_
              refine q_goto (pc := 70) rfl ?_
              refine q_callS (pc := 74) _ (by decide) rfl rfl rfl rfl (Nat.le_of_ble_eq_true rfl) (by omega) _ rfl ?_
              first | refine m_yes1 ?_ | refine m_yes0 ?_
              refine q_iret (pc := 77) rfl (rfl) ?_
              refine eqQ ?_ hq
              unfold jn
              rw [if_neg (by decide), if_pos rfl]
              split <;> rename_i hh <;> first | rfl | (exfalso; first | exact hh ⟨h62, h66⟩ | exact hh.1 h62 | exact hh.2 h66)
  ·
    refine wc.go [_, _, _] rfl ?_
    refine q_iload_n (pc := 0) rfl rfl ?_
    rw [show mc (-10) = -23 from by decide]
    · refine q_tsw (pc := 1) (t := 78) rfl (by decide) ?_
      refine q_iload_n (pc := 78) rfl rfl ?_
      refine q_iload_n (pc := 79) rfl rfl ?_
      refine q_icmpge (pc := 80) rfl (fun h80 => ?_) (fun h80 => ?_)
      · first
        | (exfalso; omega (config := {splitDisjunctions := false}))
        | skip
          refine q_iconst (pc := 87) rfl (nI 0) (by decide) ?_
          refine q_callS (pc := 88) _ (by decide) rfl rfl rfl rfl (Nat.le_of_ble_eq_true rfl) (by omega) _ rfl ?_
          first | refine m_yes1 ?_ | refine m_yes0 ?_
          refine q_iret (pc := 91) rfl (rfl) ?_
          unfold jn at hq
          rw [if_neg (by decide), if_neg (by decide), if_neg (by decide), if_pos rfl] at hq
          first
          | (rw [if_pos (Int32.not_le.mp h80)] at hq; exact hq)
          | (rw [if_neg (Int32.not_lt.mpr h80)] at hq; exact hq)
          | (rw [if_pos h80] at hq; exact hq)
          | (rw [if_neg h80] at hq; exact hq)
      · first
        | (exfalso; omega (config := {splitDisjunctions := false}))
        | skip
          refine q_iconst (pc := 83) rfl (nI 1) (by decide) ?_
          refine q_goto (pc := 84) rfl ?_
          refine q_callS (pc := 88) _ (by decide) rfl rfl rfl rfl (Nat.le_of_ble_eq_true rfl) (by omega) _ rfl ?_
          first | refine m_yes1 ?_ | refine m_yes0 ?_
          refine q_iret (pc := 91) rfl (rfl) ?_
          unfold jn at hq
          rw [if_neg (by decide), if_neg (by decide), if_neg (by decide), if_pos rfl] at hq
          first
          | (rw [if_pos (Int32.not_le.mp h80)] at hq; exact hq)
          | (rw [if_neg (Int32.not_lt.mpr h80)] at hq; exact hq)
          | (rw [if_pos h80] at hq; exact hq)
          | (rw [if_neg h80] at hq; exact hq)
  ·
    refine wc.go [_, _, _] rfl ?_
    refine q_iload_n (pc := 0) rfl rfl ?_
    rw [show mc (-11) = -24 from by decide]
    · refine q_tsw (pc := 1) (t := 92) rfl (by decide) ?_
      refine q_iload_n (pc := 92) rfl rfl ?_
      refine q_iload_n (pc := 93) rfl rfl ?_
      refine q_icmpne (pc := 94) rfl (fun h94 => ?_) (fun h94 => ?_)
      · first
        | (exfalso; omega (config := {splitDisjunctions := false}))
        | exact absurd rfl h94
        | skip
          refine q_iconst (pc := 101) rfl (nI 0) (by decide) ?_
          refine q_callS (pc := 102) _ (by decide) rfl rfl rfl rfl (Nat.le_of_ble_eq_true rfl) (by omega) _ rfl ?_
          first | refine m_yes1 ?_ | refine m_yes0 ?_
          refine q_iret (pc := 105) rfl (rfl) ?_
          unfold jn at hq
          rw [if_neg (by decide), if_neg (by decide), if_neg (by decide), if_neg (by decide), if_pos rfl] at hq
          first
          | (rw [if_pos h94] at hq; exact hq)
          | (rw [if_neg h94] at hq; exact hq)
      · first
        | (exfalso; omega (config := {splitDisjunctions := false}))
        | exact absurd rfl h94
        | skip
          refine q_iconst (pc := 97) rfl (nI 1) (by decide) ?_
          refine q_goto (pc := 98) rfl ?_
          refine q_callS (pc := 102) _ (by decide) rfl rfl rfl rfl (Nat.le_of_ble_eq_true rfl) (by omega) _ rfl ?_
          first | refine m_yes1 ?_ | refine m_yes0 ?_
          refine q_iret (pc := 105) rfl (rfl) ?_
          unfold jn at hq
          rw [if_neg (by decide), if_neg (by decide), if_neg (by decide), if_neg (by decide), if_pos rfl] at hq
          first
          | (rw [if_pos h94] at hq; exact hq)
          | (rw [if_neg h94] at hq; exact hq)
  ·
    refine wc.go [_, _, _] rfl ?_
    refine q_iload_n (pc := 0) rfl rfl ?_
    rw [show mc (-12) = -25 from by decide]
    · refine q_tsw (pc := 1) (t := 106) rfl (by decide) ?_
      refine q_iload_n (pc := 106) rfl rfl ?_
      refine q_iload_n (pc := 107) rfl rfl ?_
      first | refine n_iadd (pc := 108) rfl ?_ | refine q_iadd (pc := 108) rfl ?_
      refine q_iret (pc := 109) rfl (rfl) ?_
      exact hq
  ·
    refine wc.go [_, _, _] rfl ?_
    refine q_iload_n (pc := 0) rfl rfl ?_
    rw [show mc (-13) = -26 from by decide]
    · refine q_tsw (pc := 1) (t := 110) rfl (by decide) ?_
      refine q_iload_n (pc := 110) rfl rfl ?_
      refine q_iload_n (pc := 111) rfl rfl ?_
      first | refine n_isub (pc := 112) rfl (by omega) ?_ | refine q_isub (pc := 112) rfl ?_
      refine q_iret (pc := 113) rfl (rfl) ?_
      exact hq
  ·
    refine wc.go [_, _, _] rfl ?_
    refine q_iload_n (pc := 0) rfl rfl ?_
    rw [show mc (-14) = -27 from by decide]
    · refine q_tsw (pc := 1) (t := 114) rfl (by decide) ?_
      refine q_iload_n (pc := 114) rfl rfl ?_
      refine q_iload_n (pc := 115) rfl rfl ?_
      first | refine n_imul (pc := 116) rfl ?_ | refine q_imul (pc := 116) rfl ?_
      refine q_iret (pc := 117) rfl (rfl) ?_
      exact hq
theorem mc_n {w : Int32} {k : Nat} (h1 : ¬ w < -6) (h2 : w < 0) (hk : -1 - w = nI k) : mc w < 0 ∧ ¬ mc w ≤ -20 ∧ -10 - mc w = nI k := by
  rw [← hk]
  rcases w_name h1 h2 with rfl | rfl | rfl | rfl | rfl | rfl <;> decide
theorem mc_k {w : Int32} (h1 : ¬ w < 0) : mc w = w := by
  unfold mc
  rw [if_neg (fun z => h1 (Int32.lt_trans z (by decide))), if_neg h1]
theorem mc_bb {w : Int32} (hw : w = -7 ∨ w = -8 ∨ w = -10 ∨ w = -11 ∨ w = -12 ∨ w = -13 ∨ w = -14) : mc w < 0 ∧ mc w ≤ -20 ∧ mc w ≠ -22 ∧ mc w ≠ -28 := by
  rcases hw with rfl | rfl | rfl | rfl | rfl | rfl | rfl <;> decide
theorem m_tellL {w : Int32} {mark num : Nat} {z4 : Int32} (hd : 3 ≤ d) (hl : 75 ≤ P.1) {n : Nat} (ht : t < n) (hp : part < 3) (hc : c < 36) (hk : ∀ i, i < 72 → β i ≤ 9) {s0 : mx_St} (N0 : NW s0 β) (T0 : MT s0 n C E) (hm : mark = if part = 2 then β c else β (36 + c)) (hn1 : part ≠ 2 → s0 54 19 = nI num) (hn2 : part = 2 → num = 0) (hnb : num ≤ 9) (kk : ∀ h' s', HR P h' s' → sf s0 s' (fun i => i = 63) → Q (some (.int w)) h') (m i : Nat) (hn : i + m = E t part) (st : List Int32) (hst : st.length ≤ i) (hr : rpn (sdv β c mark num) (C t) m i st = some [w]) (h : mx_H) (s : mx_St) (H : HR P h s) (hs : sf s0 s (fun i => i = 63)) (hk2 : stk (s 63) st) (z7 z8 z9 : Option Value) : wq d 166 34 [some (.ref 54), some (.int (nI part)), some (.int (nI c)), some (.int (nI t)), some (.int z4), some (.int (nI st.length)), some (.int (nI i)), z7, z8, z9] [] h Q := by
  have N : NW s β := N0.fr hs (by decide)
  have T : MT s n C E := T0.row (tf_row hs)
  have hn6 := T.2.1
  obtain ⟨g1, g2, g3⟩ := T.2.2 t ht
  have b1 := hk c (by omega)
  have b2 := hk (36 + c) (by omega)
  have hE : E t part ≤ E t 2 ∧ E t 2 ≤ 160 := by
    have := g3.1
    rcases (show part = 0 ∨ part = 1 ∨ part = 2 by omega) with rfl | rfl | rfl <;> omega
  have eE := g2 part hp
  match m, hn, hr with
  | 0, hn, hr =>
    obtain rfl : st = [w] := by unfold rpn at hr; cases hr; rfl
    refine q_iload (pc := 34) rfl rfl ?_
    refine q_aload_n (pc := 36) rfl rfl rfl ?_
    refine q_getf (pc := 37) rfl (by exact HR.c H hl _ rfl) rfl rfl ?_
    refine q_iconst (pc := 40) rfl (nI 3) (by decide) ?_
    refine q_iload_n (pc := 41) rfl rfl ?_
    first | refine n_imul (pc := 42) rfl ?_ | refine q_imul (pc := 42) rfl ?_
    refine q_iload_n (pc := 43) rfl rfl ?_
    first | refine n_iadd (pc := 44) rfl ?_ | refine q_iadd (pc := 44) rfl ?_
    refine n_ild (pc := 45) rfl (by first | exact HR.la H hl rfl rfl N | exact HR.la0 H hl rfl rfl) rfl (by omega) (by omega) ?_
    rw [eE]
    first | refine n_icmpge (pc := 46) rfl (by omega) (by omega) (fun h46 => ?_) (fun h46 => ?_) | refine q_icmpge (pc := 46) rfl (fun h46 => ?_) (fun h46 => ?_)
    · refine q_aload_n (pc := 322) rfl rfl rfl ?_
      refine q_getf (pc := 323) rfl (by exact HR.c H hl _ rfl) rfl rfl ?_
      refine q_iconst (pc := 326) rfl (nI 0) (by decide) ?_
      refine n_ild (pc := 327) rfl (by first | exact HR.la H hl rfl rfl N | exact HR.la0 H hl rfl rfl) rfl (by omega) (by omega) ?_
      rw [show s 63 0 = w from hk2.1]
      refine q_iret (pc := 328) rfl (rfl) ?_
      exact kk _ _ H hs
    · first | (exfalso; omega) | exact absurd h46 (nI_pos (by omega)) | exact absurd (nI_pos' (by omega)) h46
  | m + 1, hn, hr =>
    obtain ⟨st', e1, e2⟩ := Option.bind_eq_some_iff.mp hr
    have eC := g1 i (by omega)
    rcases rpo_is e1 with ⟨q1, q2, q3⟩ | ⟨q1, q2⟩ | ⟨q1, q2, q3, x, r, q4, q5⟩ | ⟨q1, q2, q3, x, y, r, q4, q5⟩
    · obtain ⟨k, hk6, hkw⟩ := w_nameN q1 q2
      rw [hkw, x_cl (by omega)] at q3
      subst q3
      obtain ⟨m1, m2, m3⟩ := mc_n q1 q2 hkw
      have hlen : st.length ≤ 159 := by omega
      have key : ∀ {v : Int32} {z7 z8 z9 : Option Value}, v = sdv β c mark num k → wq d 166 208 [some (.ref 54), some (.int (nI part)), some (.int (nI c)), some (.int (nI t)), some (.int z4), some (.int (nI st.length)), some (.int (nI i)), z7, z8, z9] [.int v, .int (nI st.length), .ref 63] h Q := by
        intro v z7 z8 z9 ev
        subst ev
        refine r_ist2 (pc := 208) rfl H hl rfl (fun _ => rfl) rfl (by omega) (by omega) ?_
        intro h H
        first | refine n_iinc (pc := 209) rfl [_, _, _, _, _, _, _, _, _, _] 1 (by decide) rfl rfl ?_ | refine q_iinc (pc := 209) [_, _, _, _, _, _, _, _, _, _] (1) rfl rfl (by decide) rfl ?_
        refine q_goto (pc := 212) rfl ?_
        first | refine n_iinc (pc := 316) rfl [_, _, _, _, _, _, _, _, _, _] 1 (by decide) rfl rfl ?_ | refine q_iinc (pc := 316) [_, _, _, _, _, _, _, _, _, _] (1) rfl rfl (by decide) rfl ?_
        refine q_goto (pc := 319) rfl ?_
        exact m_tellL hd hl ht hp hc hk N0 T0 hm hn1 hn2 hnb kk m (i + 1) (by omega) (sdv β c mark num k :: st) (by simp only [List.length_cons]; omega) e2 h _ H (hs.st rfl) ⟨stv_a, by rw [stv_s]; exact stk_up (Nat.le_refl _) hk2⟩ _ _ _
      refine q_iload (pc := 34) rfl rfl ?_
      refine q_aload_n (pc := 36) rfl rfl rfl ?_
      refine q_getf (pc := 37) rfl (by exact HR.c H hl _ rfl) rfl rfl ?_
      refine q_iconst (pc := 40) rfl (nI 3) (by decide) ?_
      refine q_iload_n (pc := 41) rfl rfl ?_
      first | refine n_imul (pc := 42) rfl ?_ | refine q_imul (pc := 42) rfl ?_
      refine q_iload_n (pc := 43) rfl rfl ?_
      first | refine n_iadd (pc := 44) rfl ?_ | refine q_iadd (pc := 44) rfl ?_
      refine n_ild (pc := 45) rfl (by first | exact HR.la H hl rfl rfl N | exact HR.la0 H hl rfl rfl) rfl (by omega) (by omega) ?_
      rw [eE]
      first | refine n_icmpge (pc := 46) rfl (by omega) (by omega) (fun h46 => ?_) (fun h46 => ?_) | refine q_icmpge (pc := 46) rfl (fun h46 => ?_) (fun h46 => ?_)
      · first | (exfalso; omega) | exact absurd h46 (nI_pos (by omega)) | exact absurd (nI_pos' (by omega)) h46
      · refine q_aload_n (pc := 49) rfl rfl rfl ?_
        refine q_getf (pc := 50) rfl (by exact HR.c H hl _ rfl) rfl rfl ?_
        refine q_sipush (pc := 53) rfl (nI 160) (by decide) ?_
        refine q_iload_n (pc := 56) rfl rfl ?_
        first | refine n_imul (pc := 57) rfl ?_ | refine q_imul (pc := 57) rfl ?_
        refine q_iload (pc := 58) rfl rfl ?_
        first | refine n_iadd (pc := 60) rfl ?_ | refine q_iadd (pc := 60) rfl ?_
        refine n_ild (pc := 61) rfl (by first | exact HR.la H hl rfl rfl N | exact HR.la0 H hl rfl rfl) rfl (by omega) (by omega) ?_
        rw [eC]
        refine q_istore (pc := 62) [_, _, _, _, _, _, _, _, _, _] rfl (Nat.le_of_ble_eq_true rfl) rfl ?_
        refine q_iload (pc := 64) rfl rfl ?_
        refine q_iflt (pc := 66) rfl (fun h66 => ?_) (fun h66 => ?_)
        · first
          | (exfalso; omega (config := {splitDisjunctions := false}))
          | skip
            refine q_iload (pc := 84) rfl rfl ?_
            refine q_bipush (pc := 86) rfl (-20) (by decide) ?_
            refine q_icmple (pc := 88) rfl (fun h88 => ?_) (fun h88 => ?_)
            · exact absurd h88 m2
            · first
              | (exfalso; omega (config := {splitDisjunctions := false}))
              | skip
                refine q_bipush (pc := 91) rfl (-10) (by decide) ?_
                refine q_iload (pc := 93) rfl rfl ?_
                refine q_isub (pc := 95) rfl ?_
                rw [m3]
                refine q_istore (pc := 96) [_, _, _, _, _, _, _, _, _, _] rfl (Nat.le_of_ble_eq_true rfl) rfl ?_
                refine q_iload_n (pc := 98) rfl rfl ?_
                refine q_iconst (pc := 99) rfl (nI 2) (by decide) ?_
                first | refine n_icmpne (pc := 100) rfl (by omega) (by omega) (fun h100 => ?_) (fun h100 => ?_) | refine q_icmpne (pc := 100) rfl (fun h100 => ?_) (fun h100 => ?_)
                · first
                  | (exfalso; omega (config := {splitDisjunctions := false}))
                  | exact absurd rfl h100
                  | skip
                    refine q_aload_n (pc := 112) rfl rfl rfl ?_
                    refine q_getf (pc := 113) rfl (by exact HR.c H hl _ rfl) rfl rfl ?_
                    refine q_bipush (pc := 116) rfl (nI 36) (by decide) ?_
                    refine q_iload_n (pc := 118) rfl rfl ?_
                    first | refine n_iadd (pc := 119) rfl ?_ | refine q_iadd (pc := 119) rfl ?_
                    refine n_ild (pc := 120) rfl (by first | exact HR.la H hl rfl rfl N | exact HR.la0 H hl rfl rfl) rfl (by omega) (by omega) ?_
                    refine q_istore (pc := 121) [_, _, _, _, _, _, _, _, _, _] rfl (Nat.le_of_ble_eq_true rfl) rfl ?_
                    refine q_aload_n (pc := 123) rfl rfl rfl ?_
                    refine q_getf (pc := 124) rfl (by exact HR.c H hl _ rfl) rfl rfl ?_
                    refine q_iload (pc := 127) rfl rfl ?_
                    refine q_iload (pc := 129) rfl rfl ?_
                    first | refine n_ifne (pc := 131) rfl (by omega) (fun h131 => ?_) (fun h131 => ?_) | refine q_ifne (pc := 131) rfl (fun h131 => ?_) (fun h131 => ?_)
                    · first
                      | (exfalso; omega (config := {splitDisjunctions := false}))
                      | exact absurd rfl h131
                      | skip
                        refine q_iload (pc := 139) rfl rfl ?_
                        refine q_iconst (pc := 141) rfl (nI 1) (by decide) ?_
                        first | refine n_icmpne (pc := 142) rfl (by omega) (by omega) (fun h142 => ?_) (fun h142 => ?_) | refine q_icmpne (pc := 142) rfl (fun h142 => ?_) (fun h142 => ?_)
                        · first
                          | (exfalso; omega (config := {splitDisjunctions := false}))
                          | exact absurd rfl h142
                          | skip
                            refine q_iload (pc := 152) rfl rfl ?_
                            refine q_iconst (pc := 154) rfl (nI 2) (by decide) ?_
                            first | refine n_icmpne (pc := 155) rfl (by omega) (by omega) (fun h155 => ?_) (fun h155 => ?_) | refine q_icmpne (pc := 155) rfl (fun h155 => ?_) (fun h155 => ?_)
                            · first
                              | (exfalso; omega (config := {splitDisjunctions := false}))
                              | exact absurd rfl h155
                              | skip
                                refine q_iload (pc := 165) rfl rfl ?_
                                refine q_iconst (pc := 167) rfl (nI 3) (by decide) ?_
                                first | refine n_icmpne (pc := 168) rfl (by omega) (by omega) (fun h168 => ?_) (fun h168 => ?_) | refine q_icmpne (pc := 168) rfl (fun h168 => ?_) (fun h168 => ?_)
                                · first
                                  | (exfalso; omega (config := {splitDisjunctions := false}))
                                  | exact absurd rfl h168
                                  | skip
                                    refine q_iload (pc := 181) rfl rfl ?_
                                    refine q_iconst (pc := 183) rfl (nI 5) (by decide) ?_
                                    first | refine n_icmpne (pc := 184) rfl (by omega) (by omega) (fun h184 => ?_) (fun h184 => ?_) | refine q_icmpne (pc := 184) rfl (fun h184 => ?_) (fun h184 => ?_)
                                    · first
                                      | (exfalso; omega (config := {splitDisjunctions := false}))
                                      | exact absurd rfl h184
                                      | skip
                                        refine q_iload_n (pc := 195) rfl rfl ?_
                                        refine q_iconst (pc := 196) rfl (nI 2) (by decide) ?_
                                        first | refine n_icmpne (pc := 197) rfl (by omega) (by omega) (fun h197 => ?_) (fun h197 => ?_) | refine q_icmpne (pc := 197) rfl (fun h197 => ?_) (fun h197 => ?_)
                                        · first
                                          | (exfalso; omega (config := {splitDisjunctions := false}))
                                          | exact absurd rfl h197
                                          | skip
                                            refine q_aload_n (pc := 204) rfl rfl rfl ?_
                                            refine q_getf (pc := 205) rfl (by exact HR.c H hl _ rfl) rfl rfl ?_
                                            rw [show s 54 19 = nI num from (congrFun (hs 54 (by decide)) 19).trans (hn1 (by omega))]
                                            first
                                            | (exfalso; omega)
                                            | (refine key ?_
                                               unfold sdv
                                               first
                                               | (rw [if_pos (show k = 0 by omega), hm]; first | rw [if_pos (by omega)] | rw [if_neg (by omega)])
                                               | (rw [if_neg (by omega), if_pos (show k = 1 by omega)])
                                               | (rw [if_neg (by omega), if_neg (by omega), if_pos (show k = 2 by omega)])
                                               | (rw [if_neg (by omega), if_neg (by omega), if_neg (by omega), if_pos (show k = 3 by omega)])
                                               | (rw [if_neg (by omega), if_neg (by omega), if_neg (by omega), if_neg (by omega), if_neg (show ¬ k = 4 by omega)])
                                               | (rw [if_neg (by omega), if_neg (by omega), if_neg (by omega), if_neg (by omega), if_pos (show k = 4 by omega), hn2 (by omega)])
                                               | (rw [if_neg (by omega), if_neg (by omega), if_neg (by omega), if_neg (by omega), if_pos (show k = 4 by omega)]))
                                        · first
                                          | (exfalso; omega (config := {splitDisjunctions := false}))
                                          | exact absurd rfl h197
                                          | skip
                                            refine q_iconst (pc := 200) rfl (nI 0) (by decide) ?_
                                            refine q_goto (pc := 201) rfl ?_
                                            first
                                            | (exfalso; omega)
                                            | (refine key ?_
                                               unfold sdv
                                               first
                                               | (rw [if_pos (show k = 0 by omega), hm]; first | rw [if_pos (by omega)] | rw [if_neg (by omega)])
                                               | (rw [if_neg (by omega), if_pos (show k = 1 by omega)])
                                               | (rw [if_neg (by omega), if_neg (by omega), if_pos (show k = 2 by omega)])
                                               | (rw [if_neg (by omega), if_neg (by omega), if_neg (by omega), if_pos (show k = 3 by omega)])
                                               | (rw [if_neg (by omega), if_neg (by omega), if_neg (by omega), if_neg (by omega), if_neg (show ¬ k = 4 by omega)])
                                               | (rw [if_neg (by omega), if_neg (by omega), if_neg (by omega), if_neg (by omega), if_pos (show k = 4 by omega), hn2 (by omega)])
                                               | (rw [if_neg (by omega), if_neg (by omega), if_neg (by omega), if_neg (by omega), if_pos (show k = 4 by omega)]))
                                    · first
                                      | (exfalso; omega (config := {splitDisjunctions := false}))
                                      | exact absurd rfl h184
                                      | skip
                                        refine q_aload_n (pc := 187) rfl rfl rfl ?_
                                        refine q_iload_n (pc := 188) rfl rfl ?_
                                        refine q_callV (pc := 189) _ rfl rfl rfl (by exact HR.c H hl _ rfl) rfl (Nat.le_of_ble_eq_true rfl) (by omega) _ rfl ?_
                                        refine m_beside (by omega) H hl N hk hc ?_
                                        refine q_goto (pc := 192) rfl ?_
                                        first
                                        | (exfalso; omega)
                                        | (refine key ?_
                                           unfold sdv
                                           first
                                           | (rw [if_pos (show k = 0 by omega), hm]; first | rw [if_pos (by omega)] | rw [if_neg (by omega)])
                                           | (rw [if_neg (by omega), if_pos (show k = 1 by omega)])
                                           | (rw [if_neg (by omega), if_neg (by omega), if_pos (show k = 2 by omega)])
                                           | (rw [if_neg (by omega), if_neg (by omega), if_neg (by omega), if_pos (show k = 3 by omega)])
                                           | (rw [if_neg (by omega), if_neg (by omega), if_neg (by omega), if_neg (by omega), if_neg (show ¬ k = 4 by omega)])
                                           | (rw [if_neg (by omega), if_neg (by omega), if_neg (by omega), if_neg (by omega), if_pos (show k = 4 by omega), hn2 (by omega)])
                                           | (rw [if_neg (by omega), if_neg (by omega), if_neg (by omega), if_neg (by omega), if_pos (show k = 4 by omega)]))
                                · first
                                  | (exfalso; omega (config := {splitDisjunctions := false}))
                                  | exact absurd rfl h168
                                  | skip
                                    refine q_aload_n (pc := 171) rfl rfl rfl ?_
                                    refine q_getf (pc := 172) rfl (by exact HR.c H hl _ rfl) rfl rfl ?_
                                    refine q_bipush (pc := 175) rfl (nI 89) (by decide) ?_
                                    refine n_ild (pc := 177) rfl (by first | exact HR.la H hl rfl rfl N | exact HR.la0 H hl rfl rfl) rfl (by omega) (by omega) ?_
                                    refine q_goto (pc := 178) rfl ?_
                                    first
                                    | (exfalso; omega)
                                    | (refine key ?_
                                       unfold sdv
                                       first
                                       | (rw [if_pos (show k = 0 by omega), hm]; first | rw [if_pos (by omega)] | rw [if_neg (by omega)])
                                       | (rw [if_neg (by omega), if_pos (show k = 1 by omega)])
                                       | (rw [if_neg (by omega), if_neg (by omega), if_pos (show k = 2 by omega)])
                                       | (rw [if_neg (by omega), if_neg (by omega), if_neg (by omega), if_pos (show k = 3 by omega)])
                                       | (rw [if_neg (by omega), if_neg (by omega), if_neg (by omega), if_neg (by omega), if_neg (show ¬ k = 4 by omega)])
                                       | (rw [if_neg (by omega), if_neg (by omega), if_neg (by omega), if_neg (by omega), if_pos (show k = 4 by omega), hn2 (by omega)])
                                       | (rw [if_neg (by omega), if_neg (by omega), if_neg (by omega), if_neg (by omega), if_pos (show k = 4 by omega)]))
                            · first
                              | (exfalso; omega (config := {splitDisjunctions := false}))
                              | exact absurd rfl h155
                              | skip
                                refine q_iload_n (pc := 158) rfl rfl ?_
                                refine q_bipush (pc := 159) rfl (nI 6) (by decide) ?_
                                first | refine n_irem (pc := 161) rfl (by omega) (by omega) (by omega) ?_ | refine q_irem (pc := 161) rfl (by decide) ?_
                                refine q_goto (pc := 162) rfl ?_
                                first
                                | (exfalso; omega)
                                | (refine key ?_
                                   unfold sdv
                                   first
                                   | (rw [if_pos (show k = 0 by omega), hm]; first | rw [if_pos (by omega)] | rw [if_neg (by omega)])
                                   | (rw [if_neg (by omega), if_pos (show k = 1 by omega)])
                                   | (rw [if_neg (by omega), if_neg (by omega), if_pos (show k = 2 by omega)])
                                   | (rw [if_neg (by omega), if_neg (by omega), if_neg (by omega), if_pos (show k = 3 by omega)])
                                   | (rw [if_neg (by omega), if_neg (by omega), if_neg (by omega), if_neg (by omega), if_neg (show ¬ k = 4 by omega)])
                                   | (rw [if_neg (by omega), if_neg (by omega), if_neg (by omega), if_neg (by omega), if_pos (show k = 4 by omega), hn2 (by omega)])
                                   | (rw [if_neg (by omega), if_neg (by omega), if_neg (by omega), if_neg (by omega), if_pos (show k = 4 by omega)]))
                        · first
                          | (exfalso; omega (config := {splitDisjunctions := false}))
                          | exact absurd rfl h142
                          | skip
                            refine q_iload_n (pc := 145) rfl rfl ?_
                            refine q_bipush (pc := 146) rfl (nI 6) (by decide) ?_
                            first | refine n_idiv (pc := 148) rfl (by omega) (by omega) (by omega) ?_ | refine q_idiv (pc := 148) rfl (by decide) ?_
                            refine q_goto (pc := 149) rfl ?_
                            first
                            | (exfalso; omega)
                            | (refine key ?_
                               unfold sdv
                               first
                               | (rw [if_pos (show k = 0 by omega), hm]; first | rw [if_pos (by omega)] | rw [if_neg (by omega)])
                               | (rw [if_neg (by omega), if_pos (show k = 1 by omega)])
                               | (rw [if_neg (by omega), if_neg (by omega), if_pos (show k = 2 by omega)])
                               | (rw [if_neg (by omega), if_neg (by omega), if_neg (by omega), if_pos (show k = 3 by omega)])
                               | (rw [if_neg (by omega), if_neg (by omega), if_neg (by omega), if_neg (by omega), if_neg (show ¬ k = 4 by omega)])
                               | (rw [if_neg (by omega), if_neg (by omega), if_neg (by omega), if_neg (by omega), if_pos (show k = 4 by omega), hn2 (by omega)])
                               | (rw [if_neg (by omega), if_neg (by omega), if_neg (by omega), if_neg (by omega), if_pos (show k = 4 by omega)]))
                    · first
                      | (exfalso; omega (config := {splitDisjunctions := false}))
                      | exact absurd rfl h131
                      | skip
                        refine q_iload (pc := 134) rfl rfl ?_
                        refine q_goto (pc := 136) rfl ?_
                        first
                        | (exfalso; omega)
                        | (refine key ?_
                           unfold sdv
                           first
                           | (rw [if_pos (show k = 0 by omega), hm]; first | rw [if_pos (by omega)] | rw [if_neg (by omega)])
                           | (rw [if_neg (by omega), if_pos (show k = 1 by omega)])
                           | (rw [if_neg (by omega), if_neg (by omega), if_pos (show k = 2 by omega)])
                           | (rw [if_neg (by omega), if_neg (by omega), if_neg (by omega), if_pos (show k = 3 by omega)])
                           | (rw [if_neg (by omega), if_neg (by omega), if_neg (by omega), if_neg (by omega), if_neg (show ¬ k = 4 by omega)])
                           | (rw [if_neg (by omega), if_neg (by omega), if_neg (by omega), if_neg (by omega), if_pos (show k = 4 by omega), hn2 (by omega)])
                           | (rw [if_neg (by omega), if_neg (by omega), if_neg (by omega), if_neg (by omega), if_pos (show k = 4 by omega)]))
                · first
                  | (exfalso; omega (config := {splitDisjunctions := false}))
                  | exact absurd rfl h100
                  | skip
                    refine q_aload_n (pc := 103) rfl rfl rfl ?_
                    refine q_getf (pc := 104) rfl (by exact HR.c H hl _ rfl) rfl rfl ?_
                    refine q_iload_n (pc := 107) rfl rfl ?_
                    refine n_ild (pc := 108) rfl (by first | exact HR.la H hl rfl rfl N | exact HR.la0 H hl rfl rfl) rfl (by omega) (by omega) ?_
                    refine q_goto (pc := 109) rfl ?_
                    refine q_istore (pc := 121) [_, _, _, _, _, _, _, _, _, _] rfl (Nat.le_of_ble_eq_true rfl) rfl ?_
                    refine q_aload_n (pc := 123) rfl rfl rfl ?_
                    refine q_getf (pc := 124) rfl (by exact HR.c H hl _ rfl) rfl rfl ?_
                    refine q_iload (pc := 127) rfl rfl ?_
                    refine q_iload (pc := 129) rfl rfl ?_
                    first | refine n_ifne (pc := 131) rfl (by omega) (fun h131 => ?_) (fun h131 => ?_) | refine q_ifne (pc := 131) rfl (fun h131 => ?_) (fun h131 => ?_)
                    · first
                      | (exfalso; omega (config := {splitDisjunctions := false}))
                      | exact absurd rfl h131
                      | skip
                        refine q_iload (pc := 139) rfl rfl ?_
                        refine q_iconst (pc := 141) rfl (nI 1) (by decide) ?_
                        first | refine n_icmpne (pc := 142) rfl (by omega) (by omega) (fun h142 => ?_) (fun h142 => ?_) | refine q_icmpne (pc := 142) rfl (fun h142 => ?_) (fun h142 => ?_)
                        · first
                          | (exfalso; omega (config := {splitDisjunctions := false}))
                          | exact absurd rfl h142
                          | skip
                            refine q_iload (pc := 152) rfl rfl ?_
                            refine q_iconst (pc := 154) rfl (nI 2) (by decide) ?_
                            first | refine n_icmpne (pc := 155) rfl (by omega) (by omega) (fun h155 => ?_) (fun h155 => ?_) | refine q_icmpne (pc := 155) rfl (fun h155 => ?_) (fun h155 => ?_)
                            · first
                              | (exfalso; omega (config := {splitDisjunctions := false}))
                              | exact absurd rfl h155
                              | skip
                                refine q_iload (pc := 165) rfl rfl ?_
                                refine q_iconst (pc := 167) rfl (nI 3) (by decide) ?_
                                first | refine n_icmpne (pc := 168) rfl (by omega) (by omega) (fun h168 => ?_) (fun h168 => ?_) | refine q_icmpne (pc := 168) rfl (fun h168 => ?_) (fun h168 => ?_)
                                · first
                                  | (exfalso; omega (config := {splitDisjunctions := false}))
                                  | exact absurd rfl h168
                                  | skip
                                    refine q_iload (pc := 181) rfl rfl ?_
                                    refine q_iconst (pc := 183) rfl (nI 5) (by decide) ?_
                                    first | refine n_icmpne (pc := 184) rfl (by omega) (by omega) (fun h184 => ?_) (fun h184 => ?_) | refine q_icmpne (pc := 184) rfl (fun h184 => ?_) (fun h184 => ?_)
                                    · first
                                      | (exfalso; omega (config := {splitDisjunctions := false}))
                                      | exact absurd rfl h184
                                      | skip
                                        refine q_iload_n (pc := 195) rfl rfl ?_
                                        refine q_iconst (pc := 196) rfl (nI 2) (by decide) ?_
                                        first | refine n_icmpne (pc := 197) rfl (by omega) (by omega) (fun h197 => ?_) (fun h197 => ?_) | refine q_icmpne (pc := 197) rfl (fun h197 => ?_) (fun h197 => ?_)
                                        · first
                                          | (exfalso; omega (config := {splitDisjunctions := false}))
                                          | exact absurd rfl h197
                                          | skip
                                            refine q_aload_n (pc := 204) rfl rfl rfl ?_
                                            refine q_getf (pc := 205) rfl (by exact HR.c H hl _ rfl) rfl rfl ?_
                                            rw [show s 54 19 = nI num from (congrFun (hs 54 (by decide)) 19).trans (hn1 (by omega))]
                                            first
                                            | (exfalso; omega)
                                            | (refine key ?_
                                               unfold sdv
                                               first
                                               | (rw [if_pos (show k = 0 by omega), hm]; first | rw [if_pos (by omega)] | rw [if_neg (by omega)])
                                               | (rw [if_neg (by omega), if_pos (show k = 1 by omega)])
                                               | (rw [if_neg (by omega), if_neg (by omega), if_pos (show k = 2 by omega)])
                                               | (rw [if_neg (by omega), if_neg (by omega), if_neg (by omega), if_pos (show k = 3 by omega)])
                                               | (rw [if_neg (by omega), if_neg (by omega), if_neg (by omega), if_neg (by omega), if_neg (show ¬ k = 4 by omega)])
                                               | (rw [if_neg (by omega), if_neg (by omega), if_neg (by omega), if_neg (by omega), if_pos (show k = 4 by omega), hn2 (by omega)])
                                               | (rw [if_neg (by omega), if_neg (by omega), if_neg (by omega), if_neg (by omega), if_pos (show k = 4 by omega)]))
                                        · first
                                          | (exfalso; omega (config := {splitDisjunctions := false}))
                                          | exact absurd rfl h197
                                          | skip
                                            refine q_iconst (pc := 200) rfl (nI 0) (by decide) ?_
                                            refine q_goto (pc := 201) rfl ?_
                                            first
                                            | (exfalso; omega)
                                            | (refine key ?_
                                               unfold sdv
                                               first
                                               | (rw [if_pos (show k = 0 by omega), hm]; first | rw [if_pos (by omega)] | rw [if_neg (by omega)])
                                               | (rw [if_neg (by omega), if_pos (show k = 1 by omega)])
                                               | (rw [if_neg (by omega), if_neg (by omega), if_pos (show k = 2 by omega)])
                                               | (rw [if_neg (by omega), if_neg (by omega), if_neg (by omega), if_pos (show k = 3 by omega)])
                                               | (rw [if_neg (by omega), if_neg (by omega), if_neg (by omega), if_neg (by omega), if_neg (show ¬ k = 4 by omega)])
                                               | (rw [if_neg (by omega), if_neg (by omega), if_neg (by omega), if_neg (by omega), if_pos (show k = 4 by omega), hn2 (by omega)])
                                               | (rw [if_neg (by omega), if_neg (by omega), if_neg (by omega), if_neg (by omega), if_pos (show k = 4 by omega)]))
                                    · first
                                      | (exfalso; omega (config := {splitDisjunctions := false}))
                                      | exact absurd rfl h184
                                      | skip
                                        refine q_aload_n (pc := 187) rfl rfl rfl ?_
                                        refine q_iload_n (pc := 188) rfl rfl ?_
                                        refine q_callV (pc := 189) _ rfl rfl rfl (by exact HR.c H hl _ rfl) rfl (Nat.le_of_ble_eq_true rfl) (by omega) _ rfl ?_
                                        refine m_beside (by omega) H hl N hk hc ?_
                                        refine q_goto (pc := 192) rfl ?_
                                        first
                                        | (exfalso; omega)
                                        | (refine key ?_
                                           unfold sdv
                                           first
                                           | (rw [if_pos (show k = 0 by omega), hm]; first | rw [if_pos (by omega)] | rw [if_neg (by omega)])
                                           | (rw [if_neg (by omega), if_pos (show k = 1 by omega)])
                                           | (rw [if_neg (by omega), if_neg (by omega), if_pos (show k = 2 by omega)])
                                           | (rw [if_neg (by omega), if_neg (by omega), if_neg (by omega), if_pos (show k = 3 by omega)])
                                           | (rw [if_neg (by omega), if_neg (by omega), if_neg (by omega), if_neg (by omega), if_neg (show ¬ k = 4 by omega)])
                                           | (rw [if_neg (by omega), if_neg (by omega), if_neg (by omega), if_neg (by omega), if_pos (show k = 4 by omega), hn2 (by omega)])
                                           | (rw [if_neg (by omega), if_neg (by omega), if_neg (by omega), if_neg (by omega), if_pos (show k = 4 by omega)]))
                                · first
                                  | (exfalso; omega (config := {splitDisjunctions := false}))
                                  | exact absurd rfl h168
                                  | skip
                                    refine q_aload_n (pc := 171) rfl rfl rfl ?_
                                    refine q_getf (pc := 172) rfl (by exact HR.c H hl _ rfl) rfl rfl ?_
                                    refine q_bipush (pc := 175) rfl (nI 89) (by decide) ?_
                                    refine n_ild (pc := 177) rfl (by first | exact HR.la H hl rfl rfl N | exact HR.la0 H hl rfl rfl) rfl (by omega) (by omega) ?_
                                    refine q_goto (pc := 178) rfl ?_
                                    first
                                    | (exfalso; omega)
                                    | (refine key ?_
                                       unfold sdv
                                       first
                                       | (rw [if_pos (show k = 0 by omega), hm]; first | rw [if_pos (by omega)] | rw [if_neg (by omega)])
                                       | (rw [if_neg (by omega), if_pos (show k = 1 by omega)])
                                       | (rw [if_neg (by omega), if_neg (by omega), if_pos (show k = 2 by omega)])
                                       | (rw [if_neg (by omega), if_neg (by omega), if_neg (by omega), if_pos (show k = 3 by omega)])
                                       | (rw [if_neg (by omega), if_neg (by omega), if_neg (by omega), if_neg (by omega), if_neg (show ¬ k = 4 by omega)])
                                       | (rw [if_neg (by omega), if_neg (by omega), if_neg (by omega), if_neg (by omega), if_pos (show k = 4 by omega), hn2 (by omega)])
                                       | (rw [if_neg (by omega), if_neg (by omega), if_neg (by omega), if_neg (by omega), if_pos (show k = 4 by omega)]))
                            · first
                              | (exfalso; omega (config := {splitDisjunctions := false}))
                              | exact absurd rfl h155
                              | skip
                                refine q_iload_n (pc := 158) rfl rfl ?_
                                refine q_bipush (pc := 159) rfl (nI 6) (by decide) ?_
                                first | refine n_irem (pc := 161) rfl (by omega) (by omega) (by omega) ?_ | refine q_irem (pc := 161) rfl (by decide) ?_
                                refine q_goto (pc := 162) rfl ?_
                                first
                                | (exfalso; omega)
                                | (refine key ?_
                                   unfold sdv
                                   first
                                   | (rw [if_pos (show k = 0 by omega), hm]; first | rw [if_pos (by omega)] | rw [if_neg (by omega)])
                                   | (rw [if_neg (by omega), if_pos (show k = 1 by omega)])
                                   | (rw [if_neg (by omega), if_neg (by omega), if_pos (show k = 2 by omega)])
                                   | (rw [if_neg (by omega), if_neg (by omega), if_neg (by omega), if_pos (show k = 3 by omega)])
                                   | (rw [if_neg (by omega), if_neg (by omega), if_neg (by omega), if_neg (by omega), if_neg (show ¬ k = 4 by omega)])
                                   | (rw [if_neg (by omega), if_neg (by omega), if_neg (by omega), if_neg (by omega), if_pos (show k = 4 by omega), hn2 (by omega)])
                                   | (rw [if_neg (by omega), if_neg (by omega), if_neg (by omega), if_neg (by omega), if_pos (show k = 4 by omega)]))
                        · first
                          | (exfalso; omega (config := {splitDisjunctions := false}))
                          | exact absurd rfl h142
                          | skip
                            refine q_iload_n (pc := 145) rfl rfl ?_
                            refine q_bipush (pc := 146) rfl (nI 6) (by decide) ?_
                            first | refine n_idiv (pc := 148) rfl (by omega) (by omega) (by omega) ?_ | refine q_idiv (pc := 148) rfl (by decide) ?_
                            refine q_goto (pc := 149) rfl ?_
                            first
                            | (exfalso; omega)
                            | (refine key ?_
                               unfold sdv
                               first
                               | (rw [if_pos (show k = 0 by omega), hm]; first | rw [if_pos (by omega)] | rw [if_neg (by omega)])
                               | (rw [if_neg (by omega), if_pos (show k = 1 by omega)])
                               | (rw [if_neg (by omega), if_neg (by omega), if_pos (show k = 2 by omega)])
                               | (rw [if_neg (by omega), if_neg (by omega), if_neg (by omega), if_pos (show k = 3 by omega)])
                               | (rw [if_neg (by omega), if_neg (by omega), if_neg (by omega), if_neg (by omega), if_neg (show ¬ k = 4 by omega)])
                               | (rw [if_neg (by omega), if_neg (by omega), if_neg (by omega), if_neg (by omega), if_pos (show k = 4 by omega), hn2 (by omega)])
                               | (rw [if_neg (by omega), if_neg (by omega), if_neg (by omega), if_neg (by omega), if_pos (show k = 4 by omega)]))
                    · first
                      | (exfalso; omega (config := {splitDisjunctions := false}))
                      | exact absurd rfl h131
                      | skip
                        refine q_iload (pc := 134) rfl rfl ?_
                        refine q_goto (pc := 136) rfl ?_
                        first
                        | (exfalso; omega)
                        | (refine key ?_
                           unfold sdv
                           first
                           | (rw [if_pos (show k = 0 by omega), hm]; first | rw [if_pos (by omega)] | rw [if_neg (by omega)])
                           | (rw [if_neg (by omega), if_pos (show k = 1 by omega)])
                           | (rw [if_neg (by omega), if_neg (by omega), if_pos (show k = 2 by omega)])
                           | (rw [if_neg (by omega), if_neg (by omega), if_neg (by omega), if_pos (show k = 3 by omega)])
                           | (rw [if_neg (by omega), if_neg (by omega), if_neg (by omega), if_neg (by omega), if_neg (show ¬ k = 4 by omega)])
                           | (rw [if_neg (by omega), if_neg (by omega), if_neg (by omega), if_neg (by omega), if_pos (show k = 4 by omega), hn2 (by omega)])
                           | (rw [if_neg (by omega), if_neg (by omega), if_neg (by omega), if_neg (by omega), if_pos (show k = 4 by omega)]))
        · exact absurd m1 h66
    · subst q2
      rw [mc_k q1] at eC
      refine q_iload (pc := 34) rfl rfl ?_
      refine q_aload_n (pc := 36) rfl rfl rfl ?_
      refine q_getf (pc := 37) rfl (by exact HR.c H hl _ rfl) rfl rfl ?_
      refine q_iconst (pc := 40) rfl (nI 3) (by decide) ?_
      refine q_iload_n (pc := 41) rfl rfl ?_
      first | refine n_imul (pc := 42) rfl ?_ | refine q_imul (pc := 42) rfl ?_
      refine q_iload_n (pc := 43) rfl rfl ?_
      first | refine n_iadd (pc := 44) rfl ?_ | refine q_iadd (pc := 44) rfl ?_
      refine n_ild (pc := 45) rfl (by first | exact HR.la H hl rfl rfl N | exact HR.la0 H hl rfl rfl) rfl (by omega) (by omega) ?_
      rw [eE]
      first | refine n_icmpge (pc := 46) rfl (by omega) (by omega) (fun h46 => ?_) (fun h46 => ?_) | refine q_icmpge (pc := 46) rfl (fun h46 => ?_) (fun h46 => ?_)
      · first | (exfalso; omega) | exact absurd h46 (nI_pos (by omega)) | exact absurd (nI_pos' (by omega)) h46
      · refine q_aload_n (pc := 49) rfl rfl rfl ?_
        refine q_getf (pc := 50) rfl (by exact HR.c H hl _ rfl) rfl rfl ?_
        refine q_sipush (pc := 53) rfl (nI 160) (by decide) ?_
        refine q_iload_n (pc := 56) rfl rfl ?_
        first | refine n_imul (pc := 57) rfl ?_ | refine q_imul (pc := 57) rfl ?_
        refine q_iload (pc := 58) rfl rfl ?_
        first | refine n_iadd (pc := 60) rfl ?_ | refine q_iadd (pc := 60) rfl ?_
        refine n_ild (pc := 61) rfl (by first | exact HR.la H hl rfl rfl N | exact HR.la0 H hl rfl rfl) rfl (by omega) (by omega) ?_
        rw [eC]
        refine q_istore (pc := 62) [_, _, _, _, _, _, _, _, _, _] rfl (Nat.le_of_ble_eq_true rfl) rfl ?_
        refine q_iload (pc := 64) rfl rfl ?_
        refine q_iflt (pc := 66) rfl (fun h66 => ?_) (fun h66 => ?_)
        · exact absurd h66 q1
        · first
          | (exfalso; omega (config := {splitDisjunctions := false}))
          | skip
            refine q_aload_n (pc := 69) rfl rfl rfl ?_
            refine q_getf (pc := 70) rfl (by exact HR.c H hl _ rfl) rfl rfl ?_
            refine q_iload (pc := 73) rfl rfl ?_
            refine q_iload (pc := 75) rfl rfl ?_
            refine r_ist2 (pc := 77) rfl H hl rfl (fun _ => rfl) rfl (by omega) (by omega) ?_
            intro h H
            first | refine n_iinc (pc := 78) rfl [_, _, _, _, _, _, _, _, _, _] 1 (by decide) rfl rfl ?_ | refine q_iinc (pc := 78) [_, _, _, _, _, _, _, _, _, _] (1) rfl rfl (by decide) rfl ?_
            refine q_goto (pc := 81) rfl ?_
            first | refine n_iinc (pc := 316) rfl [_, _, _, _, _, _, _, _, _, _] 1 (by decide) rfl rfl ?_ | refine q_iinc (pc := 316) [_, _, _, _, _, _, _, _, _, _] (1) rfl rfl (by decide) rfl ?_
            refine q_goto (pc := 319) rfl ?_
            exact m_tellL hd hl ht hp hc hk N0 T0 hm hn1 hn2 hnb kk m (i + 1) (by omega) (C t i :: st) (by simp only [List.length_cons]; omega) e2 h _ H (hs.st rfl) ⟨stv_a, by rw [stv_s]; exact stk_up (Nat.le_refl _) hk2⟩ _ _ _
    · subst q4
      subst q5
      have hlen : (x :: r).length = r.length + 1 := rfl
      have hx : s 63 r.length = x := hk2.1
      rw [hlen]
      rcases q3 with q3 | q3
      · rw [q3] at eC e2
        rw [show mc (-9) = -22 from by decide] at eC
        have hst1 : r.length + 1 ≤ i := hst
        refine q_iload (pc := 34) rfl rfl ?_
        refine q_aload_n (pc := 36) rfl rfl rfl ?_
        refine q_getf (pc := 37) rfl (by exact HR.c H hl _ rfl) rfl rfl ?_
        refine q_iconst (pc := 40) rfl (nI 3) (by decide) ?_
        refine q_iload_n (pc := 41) rfl rfl ?_
        first | refine n_imul (pc := 42) rfl ?_ | refine q_imul (pc := 42) rfl ?_
        refine q_iload_n (pc := 43) rfl rfl ?_
        first | refine n_iadd (pc := 44) rfl ?_ | refine q_iadd (pc := 44) rfl ?_
        refine n_ild (pc := 45) rfl (by first | exact HR.la H hl rfl rfl N | exact HR.la0 H hl rfl rfl) rfl (by omega) (by omega) ?_
        rw [eE]
        first | refine n_icmpge (pc := 46) rfl (by omega) (by omega) (fun h46 => ?_) (fun h46 => ?_) | refine q_icmpge (pc := 46) rfl (fun h46 => ?_) (fun h46 => ?_)
        · first | (exfalso; omega) | exact absurd h46 (nI_pos (by omega)) | exact absurd (nI_pos' (by omega)) h46
        · refine q_aload_n (pc := 49) rfl rfl rfl ?_
          refine q_getf (pc := 50) rfl (by exact HR.c H hl _ rfl) rfl rfl ?_
          refine q_sipush (pc := 53) rfl (nI 160) (by decide) ?_
          refine q_iload_n (pc := 56) rfl rfl ?_
          first | refine n_imul (pc := 57) rfl ?_ | refine q_imul (pc := 57) rfl ?_
          refine q_iload (pc := 58) rfl rfl ?_
          first | refine n_iadd (pc := 60) rfl ?_ | refine q_iadd (pc := 60) rfl ?_
          refine n_ild (pc := 61) rfl (by first | exact HR.la H hl rfl rfl N | exact HR.la0 H hl rfl rfl) rfl (by omega) (by omega) ?_
          rw [eC]
          refine q_istore (pc := 62) [_, _, _, _, _, _, _, _, _, _] rfl (Nat.le_of_ble_eq_true rfl) rfl ?_
          refine q_iload (pc := 64) rfl rfl ?_
          refine q_iflt (pc := 66) rfl (fun h66 => ?_) (fun h66 => ?_)
          · first
            | (exfalso; omega (config := {splitDisjunctions := false}))
            | skip
              refine q_iload (pc := 84) rfl rfl ?_
              refine q_bipush (pc := 86) rfl (-20) (by decide) ?_
              refine q_icmple (pc := 88) rfl (fun h88 => ?_) (fun h88 => ?_)
              · first
                | (exfalso; omega (config := {splitDisjunctions := false}))
                | skip
                  refine q_iload (pc := 215) rfl rfl ?_
                  refine q_bipush (pc := 217) rfl (-22) (by decide) ?_
                  refine q_icmpne (pc := 219) rfl (fun h219 => ?_) (fun h219 => ?_)
                  · exact absurd rfl h219
                  · first
                    | (exfalso; omega (config := {splitDisjunctions := false}))
                    | exact absurd rfl h219
                    | skip
                      refine q_aload_n (pc := 222) rfl rfl rfl ?_
                      refine q_getf (pc := 223) rfl (by exact HR.c H hl _ rfl) rfl rfl ?_
                      refine q_iload (pc := 226) rfl rfl ?_
                      refine q_iconst (pc := 228) rfl (nI 1) (by decide) ?_
                      first | refine n_isub (pc := 229) rfl (by omega) ?_ | refine q_isub (pc := 229) rfl ?_
                      rw [show r.length + 1 - 1 = r.length by omega]
                      refine q_aload_n (pc := 230) rfl rfl rfl ?_
                      refine q_getf (pc := 231) rfl (by exact HR.c H hl _ rfl) rfl rfl ?_
                      refine q_iload (pc := 234) rfl rfl ?_
                      refine q_iconst (pc := 236) rfl (nI 1) (by decide) ?_
                      first | refine n_isub (pc := 237) rfl (by omega) ?_ | refine q_isub (pc := 237) rfl ?_
                      rw [show r.length + 1 - 1 = r.length by omega]
                      refine n_ild (pc := 238) rfl (by first | exact HR.la H hl rfl rfl N | exact HR.la0 H hl rfl rfl) rfl (by omega) (by omega) ?_
                      rw [hx]
                      refine q_ifne (pc := 239) rfl (fun h239 => ?_) (fun h239 => ?_)
                      · first
                        | (exfalso; omega (config := {splitDisjunctions := false}))
                        | exact absurd rfl h239
                        | skip
                          refine q_iconst (pc := 246) rfl (nI 0) (by decide) ?_
                          refine q_callS (pc := 247) _ (by decide) rfl rfl rfl rfl (Nat.le_of_ble_eq_true rfl) (by omega) _ rfl ?_
                          first | refine m_yes1 ?_ | refine m_yes0 ?_
                          refine r_ist2 (pc := 250) rfl H hl rfl (fun _ => rfl) rfl (by omega) (by omega) ?_
                          intro h H
                          refine q_goto (pc := 251) rfl ?_
                          first | refine n_iinc (pc := 316) rfl [_, _, _, _, _, _, _, _, _, _] 1 (by decide) rfl rfl ?_ | refine q_iinc (pc := 316) [_, _, _, _, _, _, _, _, _, _] (1) rfl rfl (by decide) rfl ?_
                          refine q_goto (pc := 319) rfl ?_
                          first
                          | (rw [show jn (-9) x 0 = 1 from (if_neg (by decide)).trans ((if_neg (by decide)).trans ((if_pos rfl).trans (if_pos h239)))] at e2
                             exact m_tellL hd hl ht hp hc hk N0 T0 hm hn1 hn2 hnb kk m (i + 1) (by omega) (1 :: r) (by simp only [List.length_cons] at hst ⊢; omega) e2 h _ H (hs.st rfl) ⟨stv_a, by rw [stv_s]; exact stk_up (Nat.le_refl _) hk2.2⟩ _ _ _)
                          | (rw [show jn (-9) x 0 = 0 from (if_neg (by decide)).trans ((if_neg (by decide)).trans ((if_pos rfl).trans (if_neg h239)))] at e2
                             exact m_tellL hd hl ht hp hc hk N0 T0 hm hn1 hn2 hnb kk m (i + 1) (by omega) (0 :: r) (by simp only [List.length_cons] at hst ⊢; omega) e2 h _ H (hs.st rfl) ⟨stv_a, by rw [stv_s]; exact stk_up (Nat.le_refl _) hk2.2⟩ _ _ _)
                      · first
                        | (exfalso; omega (config := {splitDisjunctions := false}))
                        | exact absurd rfl h239
                        | skip
                          refine q_iconst (pc := 242) rfl (nI 1) (by decide) ?_
                          refine q_goto (pc := 243) rfl ?_
                          refine q_callS (pc := 247) _ (by decide) rfl rfl rfl rfl (Nat.le_of_ble_eq_true rfl) (by omega) _ rfl ?_
                          first | refine m_yes1 ?_ | refine m_yes0 ?_
                          refine r_ist2 (pc := 250) rfl H hl rfl (fun _ => rfl) rfl (by omega) (by omega) ?_
                          intro h H
                          refine q_goto (pc := 251) rfl ?_
                          first | refine n_iinc (pc := 316) rfl [_, _, _, _, _, _, _, _, _, _] 1 (by decide) rfl rfl ?_ | refine q_iinc (pc := 316) [_, _, _, _, _, _, _, _, _, _] (1) rfl rfl (by decide) rfl ?_
                          refine q_goto (pc := 319) rfl ?_
                          first
                          | (rw [show jn (-9) x 0 = 1 from (if_neg (by decide)).trans ((if_neg (by decide)).trans ((if_pos rfl).trans (if_pos h239)))] at e2
                             exact m_tellL hd hl ht hp hc hk N0 T0 hm hn1 hn2 hnb kk m (i + 1) (by omega) (1 :: r) (by simp only [List.length_cons] at hst ⊢; omega) e2 h _ H (hs.st rfl) ⟨stv_a, by rw [stv_s]; exact stk_up (Nat.le_refl _) hk2.2⟩ _ _ _)
                          | (rw [show jn (-9) x 0 = 0 from (if_neg (by decide)).trans ((if_neg (by decide)).trans ((if_pos rfl).trans (if_neg h239)))] at e2
                             exact m_tellL hd hl ht hp hc hk N0 T0 hm hn1 hn2 hnb kk m (i + 1) (by omega) (0 :: r) (by simp only [List.length_cons] at hst ⊢; omega) e2 h _ H (hs.st rfl) ⟨stv_a, by rw [stv_s]; exact stk_up (Nat.le_refl _) hk2.2⟩ _ _ _)
              · exact absurd (by decide) h88
          · exact absurd (by decide) h66
      · rw [q3] at eC e2
        rw [show mc (-15) = -28 from by decide] at eC
        have hst1 : r.length + 1 ≤ i := hst
        refine q_iload (pc := 34) rfl rfl ?_
        refine q_aload_n (pc := 36) rfl rfl rfl ?_
        refine q_getf (pc := 37) rfl (by exact HR.c H hl _ rfl) rfl rfl ?_
        refine q_iconst (pc := 40) rfl (nI 3) (by decide) ?_
        refine q_iload_n (pc := 41) rfl rfl ?_
        first | refine n_imul (pc := 42) rfl ?_ | refine q_imul (pc := 42) rfl ?_
        refine q_iload_n (pc := 43) rfl rfl ?_
        first | refine n_iadd (pc := 44) rfl ?_ | refine q_iadd (pc := 44) rfl ?_
        refine n_ild (pc := 45) rfl (by first | exact HR.la H hl rfl rfl N | exact HR.la0 H hl rfl rfl) rfl (by omega) (by omega) ?_
        rw [eE]
        first | refine n_icmpge (pc := 46) rfl (by omega) (by omega) (fun h46 => ?_) (fun h46 => ?_) | refine q_icmpge (pc := 46) rfl (fun h46 => ?_) (fun h46 => ?_)
        · first | (exfalso; omega) | exact absurd h46 (nI_pos (by omega)) | exact absurd (nI_pos' (by omega)) h46
        · refine q_aload_n (pc := 49) rfl rfl rfl ?_
          refine q_getf (pc := 50) rfl (by exact HR.c H hl _ rfl) rfl rfl ?_
          refine q_sipush (pc := 53) rfl (nI 160) (by decide) ?_
          refine q_iload_n (pc := 56) rfl rfl ?_
          first | refine n_imul (pc := 57) rfl ?_ | refine q_imul (pc := 57) rfl ?_
          refine q_iload (pc := 58) rfl rfl ?_
          first | refine n_iadd (pc := 60) rfl ?_ | refine q_iadd (pc := 60) rfl ?_
          refine n_ild (pc := 61) rfl (by first | exact HR.la H hl rfl rfl N | exact HR.la0 H hl rfl rfl) rfl (by omega) (by omega) ?_
          rw [eC]
          refine q_istore (pc := 62) [_, _, _, _, _, _, _, _, _, _] rfl (Nat.le_of_ble_eq_true rfl) rfl ?_
          refine q_iload (pc := 64) rfl rfl ?_
          refine q_iflt (pc := 66) rfl (fun h66 => ?_) (fun h66 => ?_)
          · first
            | (exfalso; omega (config := {splitDisjunctions := false}))
            | skip
              refine q_iload (pc := 84) rfl rfl ?_
              refine q_bipush (pc := 86) rfl (-20) (by decide) ?_
              refine q_icmple (pc := 88) rfl (fun h88 => ?_) (fun h88 => ?_)
              · first
                | (exfalso; omega (config := {splitDisjunctions := false}))
                | skip
                  refine q_iload (pc := 215) rfl rfl ?_
                  refine q_bipush (pc := 217) rfl (-22) (by decide) ?_
                  refine q_icmpne (pc := 219) rfl (fun h219 => ?_) (fun h219 => ?_)
                  · first
                    | (exfalso; omega (config := {splitDisjunctions := false}))
                    | exact absurd rfl h219
                    | skip
                      refine q_iload (pc := 254) rfl rfl ?_
                      refine q_bipush (pc := 256) rfl (-28) (by decide) ?_
                      refine q_icmpne (pc := 258) rfl (fun h258 => ?_) (fun h258 => ?_)
                      · exact absurd rfl h258
                      · first
                        | (exfalso; omega (config := {splitDisjunctions := false}))
                        | exact absurd rfl h258
                        | skip
                          refine q_aload_n (pc := 261) rfl rfl rfl ?_
                          refine q_getf (pc := 262) rfl (by exact HR.c H hl _ rfl) rfl rfl ?_
                          refine q_iload (pc := 265) rfl rfl ?_
                          refine q_iconst (pc := 267) rfl (nI 1) (by decide) ?_
                          first | refine n_isub (pc := 268) rfl (by omega) ?_ | refine q_isub (pc := 268) rfl ?_
                          rw [show r.length + 1 - 1 = r.length by omega]
                          refine q_aload_n (pc := 269) rfl rfl rfl ?_
                          refine q_getf (pc := 270) rfl (by exact HR.c H hl _ rfl) rfl rfl ?_
                          refine q_iload (pc := 273) rfl rfl ?_
                          refine q_iconst (pc := 275) rfl (nI 1) (by decide) ?_
                          first | refine n_isub (pc := 276) rfl (by omega) ?_ | refine q_isub (pc := 276) rfl ?_
                          rw [show r.length + 1 - 1 = r.length by omega]
                          refine n_ild (pc := 277) rfl (by first | exact HR.la H hl rfl rfl N | exact HR.la0 H hl rfl rfl) rfl (by omega) (by omega) ?_
                          rw [hx]
                          refine q_ineg (pc := 278) rfl ?_
                          refine r_ist2 (pc := 279) rfl H hl rfl (fun _ => rfl) rfl (by omega) (by omega) ?_
                          intro h H
                          refine q_goto (pc := 280) rfl ?_
                          first | refine n_iinc (pc := 316) rfl [_, _, _, _, _, _, _, _, _, _] 1 (by decide) rfl rfl ?_ | refine q_iinc (pc := 316) [_, _, _, _, _, _, _, _, _, _] (1) rfl rfl (by decide) rfl ?_
                          refine q_goto (pc := 319) rfl ?_
                          exact m_tellL hd hl ht hp hc hk N0 T0 hm hn1 hn2 hnb kk m (i + 1) (by omega) (jn (-15) x 0 :: r) (by simp only [List.length_cons] at hst ⊢; omega) e2 h _ H (hs.st rfl) ⟨stv_a, by rw [stv_s]; exact stk_up (Nat.le_refl _) hk2.2⟩ _ _ _
                  · exact absurd h219 (by decide)
              · exact absurd (by decide) h88
          · exact absurd (by decide) h66
    · have hb := mc_b q1 q2 q3
      obtain ⟨m1, m2, m3, m4⟩ := mc_bb hb
      subst q4
      subst q5
      have hst1 : r.length + 2 ≤ i := hst
      have hy : s 63 (r.length + 1) = y := hk2.1
      have hx : s 63 r.length = x := hk2.2.1
      rw [show (y :: x :: r).length = r.length + 2 from rfl]
      refine q_iload (pc := 34) rfl rfl ?_
      refine q_aload_n (pc := 36) rfl rfl rfl ?_
      refine q_getf (pc := 37) rfl (by exact HR.c H hl _ rfl) rfl rfl ?_
      refine q_iconst (pc := 40) rfl (nI 3) (by decide) ?_
      refine q_iload_n (pc := 41) rfl rfl ?_
      first | refine n_imul (pc := 42) rfl ?_ | refine q_imul (pc := 42) rfl ?_
      refine q_iload_n (pc := 43) rfl rfl ?_
      first | refine n_iadd (pc := 44) rfl ?_ | refine q_iadd (pc := 44) rfl ?_
      refine n_ild (pc := 45) rfl (by first | exact HR.la H hl rfl rfl N | exact HR.la0 H hl rfl rfl) rfl (by omega) (by omega) ?_
      rw [eE]
      first | refine n_icmpge (pc := 46) rfl (by omega) (by omega) (fun h46 => ?_) (fun h46 => ?_) | refine q_icmpge (pc := 46) rfl (fun h46 => ?_) (fun h46 => ?_)
      · first | (exfalso; omega) | exact absurd h46 (nI_pos (by omega)) | exact absurd (nI_pos' (by omega)) h46
      · refine q_aload_n (pc := 49) rfl rfl rfl ?_
        refine q_getf (pc := 50) rfl (by exact HR.c H hl _ rfl) rfl rfl ?_
        refine q_sipush (pc := 53) rfl (nI 160) (by decide) ?_
        refine q_iload_n (pc := 56) rfl rfl ?_
        first | refine n_imul (pc := 57) rfl ?_ | refine q_imul (pc := 57) rfl ?_
        refine q_iload (pc := 58) rfl rfl ?_
        first | refine n_iadd (pc := 60) rfl ?_ | refine q_iadd (pc := 60) rfl ?_
        refine n_ild (pc := 61) rfl (by first | exact HR.la H hl rfl rfl N | exact HR.la0 H hl rfl rfl) rfl (by omega) (by omega) ?_
        rw [eC]
        refine q_istore (pc := 62) [_, _, _, _, _, _, _, _, _, _] rfl (Nat.le_of_ble_eq_true rfl) rfl ?_
        refine q_iload (pc := 64) rfl rfl ?_
        refine q_iflt (pc := 66) rfl (fun h66 => ?_) (fun h66 => ?_)
        · first
          | (exfalso; omega (config := {splitDisjunctions := false}))
          | skip
            refine q_iload (pc := 84) rfl rfl ?_
            refine q_bipush (pc := 86) rfl (-20) (by decide) ?_
            refine q_icmple (pc := 88) rfl (fun h88 => ?_) (fun h88 => ?_)
            · first
              | (exfalso; omega (config := {splitDisjunctions := false}))
              | skip
                refine q_iload (pc := 215) rfl rfl ?_
                refine q_bipush (pc := 217) rfl (-22) (by decide) ?_
                refine q_icmpne (pc := 219) rfl (fun h219 => ?_) (fun h219 => ?_)
                · first
                  | (exfalso; omega (config := {splitDisjunctions := false}))
                  | exact absurd rfl h219
                  | skip
                    refine q_iload (pc := 254) rfl rfl ?_
                    refine q_bipush (pc := 256) rfl (-28) (by decide) ?_
                    refine q_icmpne (pc := 258) rfl (fun h258 => ?_) (fun h258 => ?_)
                    · first
                      | (exfalso; omega (config := {splitDisjunctions := false}))
                      | exact absurd rfl h258
                      | skip
                        refine q_iinc (pc := 283) [_, _, _, _, _, _, _, _, _, _] (-1) rfl rfl (by decide) (by rw [pk_m1]; rfl) ?_
                        refine q_aload_n (pc := 286) rfl rfl rfl ?_
                        refine q_getf (pc := 287) rfl (by exact HR.c H hl _ rfl) rfl rfl ?_
                        refine q_iload (pc := 290) rfl rfl ?_
                        refine q_iconst (pc := 292) rfl (nI 1) (by decide) ?_
                        first | refine n_isub (pc := 293) rfl (by omega) ?_ | refine q_isub (pc := 293) rfl ?_
                        rw [show r.length + 1 - 1 = r.length by omega]
                        refine q_iload (pc := 294) rfl rfl ?_
                        refine q_aload_n (pc := 296) rfl rfl rfl ?_
                        refine q_getf (pc := 297) rfl (by exact HR.c H hl _ rfl) rfl rfl ?_
                        refine q_iload (pc := 300) rfl rfl ?_
                        refine q_iconst (pc := 302) rfl (nI 1) (by decide) ?_
                        first | refine n_isub (pc := 303) rfl (by omega) ?_ | refine q_isub (pc := 303) rfl ?_
                        rw [show r.length + 1 - 1 = r.length by omega]
                        refine n_ild (pc := 304) rfl (by first | exact HR.la H hl rfl rfl N | exact HR.la0 H hl rfl rfl) rfl (by omega) (by omega) ?_
                        rw [hx]
                        refine q_aload_n (pc := 305) rfl rfl rfl ?_
                        refine q_getf (pc := 306) rfl (by exact HR.c H hl _ rfl) rfl rfl ?_
                        refine q_iload (pc := 309) rfl rfl ?_
                        refine n_ild (pc := 311) rfl (by first | exact HR.la H hl rfl rfl N | exact HR.la0 H hl rfl rfl) rfl (by omega) (by omega) ?_
                        rw [hy]
                        refine q_callS (pc := 312) _ (by decide) rfl rfl rfl rfl (Nat.le_of_ble_eq_true rfl) (by omega) _ rfl ?_
                        refine m_deed (by omega) hb ?_
                        refine r_ist2 (pc := 315) rfl H hl rfl (fun _ => rfl) rfl (by omega) (by omega) ?_
                        intro h H
                        first | refine n_iinc (pc := 316) rfl [_, _, _, _, _, _, _, _, _, _] 1 (by decide) rfl rfl ?_ | refine q_iinc (pc := 316) [_, _, _, _, _, _, _, _, _, _] (1) rfl rfl (by decide) rfl ?_
                        refine q_goto (pc := 319) rfl ?_
                        exact m_tellL hd hl ht hp hc hk N0 T0 hm hn1 hn2 hnb kk m (i + 1) (by omega) (jn (C t i) x y :: r) (by simp only [List.length_cons] at hst ⊢; omega) e2 h _ H (hs.st rfl) ⟨stv_a, by rw [stv_s]; exact stk_up (Nat.le_refl _) hk2.2.2⟩ _ _ _
                    · exact absurd h258 m4
                · exact absurd h219 m3
            · exact absurd m2 h88
        · exact absurd m1 h66
termination_by m
theorem m_tell {n mark num : Nat} (hd : 3 ≤ d) (H : HR P h s) (hl : 75 ≤ P.1) (N : NW s β) (T : MT s n C E) (ht : t < n) (hr : s 54 20 = nI t) (hp : part < 3) (hc : c < 36) (hk : ∀ i, i < 72 → β i ≤ 9) (hm : mark = if part = 2 then β c else β (36 + c)) (hn1 : part ≠ 2 → s 54 19 = nI num) (hn2 : part = 2 → num = 0) (hnb : num ≤ 9) (kk : ∀ h' s', HR P h' s' → sf s s' (fun i => i = 63) → Q (some (.int (vtN C E β t part mark num c))) h') : wc d 166 [.ref 54, .int (nI part), .int (nI c)] h Q := by
  have hn6 := T.2.1
  obtain ⟨g1, g2, g3⟩ := T.2.2 t ht
  obtain ⟨v, hv⟩ := g3.2 part hp (sdv β c mark num)
  have hpst : pst (E t) part ≤ E t part := by
    have := g3.1
    unfold pst
    rcases (show part = 0 ∨ part = 1 ∨ part = 2 by omega) with rfl | rfl | rfl
    · rw [if_pos rfl]; omega
    · rw [if_neg (by decide)]; show E t 0 ≤ E t 1; omega
    · rw [if_neg (by decide)]; show E t 1 ≤ E t 2; omega
  have hvt : vtN C E β t part mark num c = v := by
    unfold vtN tvl
    rw [hv]
  rw [hvt] at kk
  refine wc.go [_, _, _, _, _, _, _, _, _, _] rfl ?_
  refine q_aload_n (pc := 0) rfl rfl rfl ?_
  refine q_getf (pc := 1) rfl (by exact HR.c H hl _ rfl) rfl rfl ?_
  rw [hr]
  refine q_istore_n (pc := 4) [_, _, _, _, _, _, _, _, _, _] rfl (Nat.le_of_ble_eq_true rfl) rfl ?_
  refine q_iload_n (pc := 5) rfl rfl ?_
  first | refine n_ifne (pc := 6) rfl (by omega) (fun h6 => ?_) (fun h6 => ?_) | refine q_ifne (pc := 6) rfl (fun h6 => ?_) (fun h6 => ?_)
  · first
    | (exfalso; omega (config := {splitDisjunctions := false}))
    | exact absurd rfl h6
    | skip
      refine q_aload_n (pc := 13) rfl rfl rfl ?_
      refine q_getf (pc := 14) rfl (by exact HR.c H hl _ rfl) rfl rfl ?_
      refine q_iconst (pc := 17) rfl (nI 3) (by decide) ?_
      refine q_iload_n (pc := 18) rfl rfl ?_
      first | refine n_imul (pc := 19) rfl ?_ | refine q_imul (pc := 19) rfl ?_
      refine q_iload_n (pc := 20) rfl rfl ?_
      first | refine n_iadd (pc := 21) rfl ?_ | refine q_iadd (pc := 21) rfl ?_
      refine q_iconst (pc := 22) rfl (nI 1) (by decide) ?_
      first | refine n_isub (pc := 23) rfl (by omega) ?_ | refine q_isub (pc := 23) rfl ?_
      rw [show 3 * t + part - 1 = 3 * t + (part - 1) by omega]
      refine n_ild (pc := 24) rfl (by first | exact HR.la H hl rfl rfl N | exact HR.la0 H hl rfl rfl) rfl (by omega) (by omega) ?_
      rw [g2 (part - 1) (by omega)]
      refine q_istore (pc := 25) [_, _, _, _, _, _, _, _, _, _] rfl (Nat.le_of_ble_eq_true rfl) rfl ?_
      refine q_iconst (pc := 27) rfl (nI 0) (by decide) ?_
      refine q_istore (pc := 28) [_, _, _, _, _, _, _, _, _, _] rfl (Nat.le_of_ble_eq_true rfl) rfl ?_
      refine q_iload (pc := 30) rfl rfl ?_
      refine q_istore (pc := 32) [_, _, _, _, _, _, _, _, _, _] rfl (Nat.le_of_ble_eq_true rfl) rfl ?_
      first
      | ((have e0 : pst (E t) part = 0 := if_pos (by omega)
          rw [e0] at hv hpst
          exact m_tellL hd hl ht hp hc hk N T hm hn1 hn2 hnb kk (E t part - 0) 0 (by omega) [] (Nat.zero_le _) hv h s H sf.rf trivial _ _ _))
      | ((have e0 : pst (E t) part = E t (part - 1) := if_neg (by omega)
          rw [e0] at hv hpst
          exact m_tellL hd hl ht hp hc hk N T hm hn1 hn2 hnb kk (E t part - E t (part - 1)) (E t (part - 1)) (by omega) [] (Nat.zero_le _) hv h s H sf.rf trivial _ _ _))
  · first
    | (exfalso; omega (config := {splitDisjunctions := false}))
    | exact absurd rfl h6
    | skip
      refine q_iconst (pc := 9) rfl (nI 0) (by decide) ?_
      refine q_goto (pc := 10) rfl ?_
      refine q_istore (pc := 25) [_, _, _, _, _, _, _, _, _, _] rfl (Nat.le_of_ble_eq_true rfl) rfl ?_
      refine q_iconst (pc := 27) rfl (nI 0) (by decide) ?_
      refine q_istore (pc := 28) [_, _, _, _, _, _, _, _, _, _] rfl (Nat.le_of_ble_eq_true rfl) rfl ?_
      refine q_iload (pc := 30) rfl rfl ?_
      refine q_istore (pc := 32) [_, _, _, _, _, _, _, _, _, _] rfl (Nat.le_of_ble_eq_true rfl) rfl ?_
      first
      | ((have e0 : pst (E t) part = 0 := if_pos (by omega)
          rw [e0] at hv hpst
          exact m_tellL hd hl ht hp hc hk N T hm hn1 hn2 hnb kk (E t part - 0) 0 (by omega) [] (Nat.zero_le _) hv h s H sf.rf trivial _ _ _))
      | ((have e0 : pst (E t) part = E t (part - 1) := if_neg (by omega)
          rw [e0] at hv hpst
          exact m_tellL hd hl ht hp hc hk N T hm hn1 hn2 hnb kk (E t part - E t (part - 1)) (E t (part - 1)) (by omega) [] (Nat.zero_le _) hv h s H sf.rf trivial _ _ _))
end P48
