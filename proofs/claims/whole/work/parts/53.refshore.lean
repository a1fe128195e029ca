/-! ===== the reference: the shore ===== -/
section P53
variable {d k pc a i j c p b t n m part q : Nat} {v : Int} {L L' : mx_L} {st r : List Value} {P : mx_Pm} {h : mx_H} {s : mx_St} {Q : Option Value → mx_H → Prop} {x y w z u : Int32} {β κ : Nat → Nat} {C : Nat → Nat → Int32} {E : Nat → Nat → Nat} {ik tz : Nat} {tp : Nat → Nat} {σ : Nat → Int32} {sz : Nat → Nat} {cl : Nat → Nat → Int32}
def F1 (β : Nat → Nat) (i : Nat) (v : Int32) : Prop := (v = -1 ∧ ∀ j, j < i → wrn β j = false) ∨ ∃ a, a < i ∧ a < 36 ∧ v = nI a ∧ wrn β a = true ∧ ∀ j, j < a → wrn β j = false
theorem hsF_0 {w : Nat} : ∀ i, (∀ j, j < i → w.testBit j = false) → hsF w i = (0, 0, 0) := by
  intro i
  induction i with
  | zero => intro _; rfl
  | succ i ih =>
    intro h
    rw [hsF, if_neg (fun e => by rw [h i (by omega)] at e; exact absurd e.1 (by decide))]
    exact ih (fun j hj => h j (by omega))
theorem hsF_lt {w : Nat} (hw : w < 2 ^ 36) : ∀ i, i ≤ 36 → (hsF w i).1 < 2 ^ 36 := by
  intro i
  induction i with
  | zero => intro _; show 0 < 2 ^ 36; decide
  | succ i ih =>
    intro h
    unfold hsF
    split
    · exact Nat.or_lt_two_pow (ih (by omega)) (hpN_lt hw (by omega))
    · exact ih (by omega)
theorem F1_e {v : Int32} (h : F1 β 36 v) : v = oc (fsw β) := by
  unfold fsw
  rcases h with ⟨e, h⟩ | ⟨a, h1, h2, e, h3, h4⟩
  · rw [fnd_no _ 36 0 (fun i _ hi => h i (by omega)), e]
    rfl
  · rw [fnd_eq _ 36 0 a (Nat.zero_le _) (by omega) h3 (fun i _ hi => h4 i hi), oc, if_pos h2, e]
theorem F1_m {i : Nat} {v : Int32} (h : F1 β i v) (hi : wrn β i = false ∨ v ≠ -1) : F1 β (i + 1) v := by
  rcases h with ⟨e, h⟩ | ⟨a, h1, h2, e, h3, h4⟩
  · refine Or.inl ⟨e, fun j hj => ?_⟩
    rcases Nat.lt_succ_iff_lt_or_eq.mp hj with g | g
    · exact h j g
    · rw [g]
      exact hi.elim id (fun z => absurd e z)
  · exact Or.inr ⟨a, by omega, h2, e, h3, h4⟩
theorem shV {i : Nat} {v : Int32} (h : F1 β i v) (hb : (hsF (wbs β) i).1.testBit i = true) : v ≠ -1 := by
  rcases h with ⟨e, h⟩ | ⟨a, h1, h2, e, h3, h4⟩
  · exfalso
    rcases Nat.lt_or_ge i 37 with g | g
    · rw [hsF_0 i (fun j hj => by
        rw [wbs_t (by omega)]
        exact h j hj), Nat.zero_testBit] at hb
      exact absurd hb (by decide)
    · have h36 : (hsF (wbs β) 36).1 < 2 ^ 36 := hsF_lt wbs_lt 36 (Nat.le_refl _)
      rw [hsF_0 i (fun j hj => by
        rcases Nat.lt_or_ge j 36 with q | q
        · rw [wbs_t q]
          exact h j hj
        · exact tb_hi wbs_lt q), Nat.zero_testBit] at hb
      exact absurd hb (by decide)
  · rw [e]
    exact nI_m1 (by omega)
theorem shW {i : Nat} {v : Int32} (h : F1 β i v) (e : v = -1) (hw : wrn β i = true) (hi : i < 36) : F1 β (i + 1) (nI i) := by
  rcases h with ⟨_, h⟩ | ⟨a, h1, h2, e2, h3, h4⟩
  · exact Or.inr ⟨i, by omega, hi, rfl, hw, h⟩
  · rw [e2] at e
    exact absurd e (nI_m1 (by omega))
theorem m_shoreL {w : Nat} (hd : 4 ≤ d) (H : HR P h s) (hl : 75 ≤ P.1) (N : NW s β) (hk : ∀ i, i < 72 → β i ≤ 9) (hw0 : w = 1 ∨ w = 2 ∨ w = 5) (hq : Q (some (.int (if w = 1 then nI (hsF (wbs β) 36).2.1 else if w = 2 then nI (hsF (wbs β) 36).2.2 else oc (fsw β)))) h) (u i : Nat) (hi : i + u = 36) (v : Int32) (hv : F1 β i v) (z8 : Option Value) : wq d 186 57 [some (.ref 54), some (.int (nI w)), some (.long (lN (hsF (wbs β) i).1)), none, some (.int (nI (hsF (wbs β) i).2.1)), some (.int (nI (hsF (wbs β) i).2.2)), some (.int v), some (.int (nI i)), z8, none] [] h Q := by
  have hb := hsF_b (wbs β) i
  match u, hi with
  | 0, hi =>
    obtain rfl : i = 36 := by omega
    rw [← F1_e hv] at hq
    refine q_iload (pc := 57) rfl rfl ?_
    refine q_bipush (pc := 59) rfl (nI 36) (by decide) ?_
    first | refine n_icmpge (pc := 61) rfl (by omega) (by omega) (fun h61 => ?_) (fun h61 => ?_) | refine q_icmpge (pc := 61) rfl (fun h61 => ?_) (fun h61 => ?_)
    · refine q_iload_n (pc := 133) rfl rfl ?_
      refine q_iconst (pc := 134) rfl (nI 1) (by decide) ?_
      first | refine n_icmpne (pc := 135) rfl (by omega) (by omega) (fun h135 => ?_) (fun h135 => ?_) | refine q_icmpne (pc := 135) rfl (fun h135 => ?_) (fun h135 => ?_)
      · first
        | (exfalso; omega (config := {splitDisjunctions := false}))
        | exact absurd rfl h135
        | skip
          refine q_iload_n (pc := 143) rfl rfl ?_
          refine q_iconst (pc := 144) rfl (nI 2) (by decide) ?_
          first | refine n_icmpne (pc := 145) rfl (by omega) (by omega) (fun h145 => ?_) (fun h145 => ?_) | refine q_icmpne (pc := 145) rfl (fun h145 => ?_) (fun h145 => ?_)
          · first
            | (exfalso; omega (config := {splitDisjunctions := false}))
            | exact absurd rfl h145
            | skip
              refine q_iload (pc := 153) rfl rfl ?_
              refine q_iret (pc := 155) rfl (rfl) ?_
              first
              | (rw [if_pos (by omega)] at hq; exact hq)
              | (rw [if_neg (by omega), if_pos (by omega)] at hq; exact hq)
              | (rw [if_neg (by omega), if_neg (by omega)] at hq; exact hq)
          · first
            | (exfalso; omega (config := {splitDisjunctions := false}))
            | exact absurd rfl h145
            | skip
              refine q_iload (pc := 148) rfl rfl ?_
              refine q_goto (pc := 150) rfl ?_
              refine q_iret (pc := 155) rfl (rfl) ?_
              first
              | (rw [if_pos (by omega)] at hq; exact hq)
              | (rw [if_neg (by omega), if_pos (by omega)] at hq; exact hq)
              | (rw [if_neg (by omega), if_neg (by omega)] at hq; exact hq)
      · first
        | (exfalso; omega (config := {splitDisjunctions := false}))
        | exact absurd rfl h135
        | skip
          refine q_iload (pc := 138) rfl rfl ?_
          refine q_goto (pc := 140) rfl ?_
          refine q_iret (pc := 155) rfl (rfl) ?_
          first
          | (rw [if_pos (by omega)] at hq; exact hq)
          | (rw [if_neg (by omega), if_pos (by omega)] at hq; exact hq)
          | (rw [if_neg (by omega), if_neg (by omega)] at hq; exact hq)
    · first | (exfalso; omega) | exact absurd h61 (nI_pos (by omega)) | exact absurd (nI_pos' (by omega)) h61
  | u + 1, hi =>
    have hlt := hsF_lt (w := wbs β) wbs_lt i (by omega)
    have hhp := hpN_lt (w := wbs β) (c := i) wbs_lt (by omega)
    have hpp : popN (hpN (wbs β) i) ≤ 36 := cntf_le _ _
    have hwb := wbs_t (β := β) (c := i) (by omega)
    refine q_iload (pc := 57) rfl rfl ?_
    refine q_bipush (pc := 59) rfl (nI 36) (by decide) ?_
    first | refine n_icmpge (pc := 61) rfl (by omega) (by omega) (fun h61 => ?_) (fun h61 => ?_) | refine q_icmpge (pc := 61) rfl (fun h61 => ?_) (fun h61 => ?_)
    · first | (exfalso; omega) | exact absurd h61 (nI_pos (by omega)) | exact absurd (nI_pos' (by omega)) h61
    · refine q_aload_n (pc := 64) rfl rfl rfl ?_
      refine q_iload (pc := 65) rfl rfl ?_
      refine q_callV (pc := 67) _ rfl rfl rfl (by exact HR.c H hl _ rfl) rfl (Nat.le_of_ble_eq_true rfl) (by omega) _ rfl ?_
      refine m_isWrong H hl N hk (by omega) (fun hw => ?_) (fun hwf => ?_)
      · refine q_ifeq (pc := 70) rfl (fun z => absurd z (by decide)) (fun _ => ?_)
        refine q_lload_n (pc := 73) rfl rfl ?_
        refine q_iload (pc := 74) rfl rfl ?_
        refine n_lshr (pc := 76) rfl (by omega) (by omega) ?_
        refine q_lconst (pc := 77) rfl (lN 1) (by decide) ?_
        first | refine n_land (pc := 78) rfl ?_ | refine q_land (pc := 78) rfl ?_
        rw [bit_1]
        refine q_lconst (pc := 79) rfl (lN 0) (by decide) ?_
        refine q_lcmp (pc := 80) rfl ?_
        refine q_ifne (pc := 81) rfl (fun h81 => ?_) (fun h81 => ?_)
        · have q81 : (hsF (wbs β) i).1.testBit i = true := by
            cases e : (hsF (wbs β) i).1.testBit i
            · exact absurd ((tb0 _).mpr e) h81
            · rfl
          first
          | (exfalso; omega (config := {splitDisjunctions := false}))
          | exact absurd rfl h81
          | skip
            first | refine n_iinc (pc := 127) rfl [_, _, _, _, _, _, _, _, _, _] 1 (by decide) rfl rfl ?_ | refine q_iinc (pc := 127) [_, _, _, _, _, _, _, _, _, _] (1) rfl rfl (by decide) rfl ?_
            refine q_goto (pc := 130) rfl ?_
            first
            | (have ih := m_shoreL hd H hl N hk hw0 hq u (i + 1) (by omega) v (F1_m hv (Or.inl hwf)) z8
               rw [hsF, if_neg (fun e => absurd (hwf.symm.trans (hwb.symm.trans e.1)) (by decide))] at ih
               exact ih)
            | (have ih := m_shoreL hd H hl N hk hw0 hq u (i + 1) (by omega) v (F1_m hv (Or.inr (shV hv q81))) z8
               rw [hsF, if_neg (fun e => absurd (q81.symm.trans e.2) (by decide))] at ih
               exact ih)
            | (have ih := m_shoreL hd H hl N hk hw0 hq u (i + 1) (by omega) v (F1_m hv (Or.inr q95)) (some (.long (lN (hpN (wbs β) i))))
               rw [hsF, if_pos ⟨hwb.trans hw, q81⟩] at ih
               rw [Nat.max_comm] at ih
               exact ih)
            | (have ih := m_shoreL hd H hl N hk hw0 hq u (i + 1) (by omega) (nI i) (shW hv q95 hw (by omega)) (some (.long (lN (hpN (wbs β) i))))
               rw [hsF, if_pos ⟨hwb.trans hw, q81⟩] at ih
               rw [Nat.max_comm] at ih
               exact ih)
        · have q81 := (tb0 _).mp h81
          first
          | (exfalso; omega (config := {splitDisjunctions := false}))
          | exact absurd rfl h81
          | skip
            refine q_aload_n (pc := 84) rfl rfl rfl ?_
            refine q_iload (pc := 85) rfl rfl ?_
            refine q_callV (pc := 87) _ rfl rfl rfl (by exact HR.c H hl _ rfl) rfl (Nat.le_of_ble_eq_true rfl) (by omega) _ rfl ?_
            refine m_heap (by omega) H hl N hk (by omega) ?_
            refine q_lstore (pc := 90) [_, _, _, _, _, _, _, _, _, _] rfl (Nat.le_of_ble_eq_true rfl) rfl ?_
            refine q_iload (pc := 92) rfl rfl ?_
            refine q_iconst (pc := 94) rfl (-1) (by decide) ?_
            refine q_icmpne (pc := 95) rfl (fun h95 => ?_) (fun h95 => ?_)
            · have q95 : v ≠ -1 := h95
              first
              | (exfalso; omega (config := {splitDisjunctions := false}))
              | exact absurd rfl h95
              | skip
                refine q_iload (pc := 103) rfl rfl ?_
                refine q_istore (pc := 105) [_, _, _, _, _, _, _, _, _, _] rfl (Nat.le_of_ble_eq_true rfl) rfl ?_
                refine q_lload_n (pc := 107) rfl rfl ?_
                refine q_lload (pc := 108) rfl rfl ?_
                first | refine n_lor (pc := 110) rfl ?_ | refine q_lor (pc := 110) rfl ?_
                refine q_lstore_n (pc := 111) [_, _, _, _, _, _, _, _, _, _] rfl (Nat.le_of_ble_eq_true rfl) rfl ?_
                first | refine n_iinc (pc := 112) rfl [_, _, _, _, _, _, _, _, _, _] 1 (by decide) rfl rfl ?_ | refine q_iinc (pc := 112) [_, _, _, _, _, _, _, _, _, _] (1) rfl rfl (by decide) rfl ?_
                refine q_lload (pc := 115) rfl rfl ?_
                refine q_callS (pc := 117) _ (by decide) rfl rfl rfl rfl (Nat.le_of_ble_eq_true rfl) (by omega) _ rfl ?_
                refine j_bitCount hhp ?_
                refine q_iload (pc := 120) rfl rfl ?_
                first | refine n_max (pc := 122) rfl rfl (by omega) (by omega) ?_ | refine q_max (pc := 122) rfl rfl ?_
                refine q_istore (pc := 125) [_, _, _, _, _, _, _, _, _, _] rfl (Nat.le_of_ble_eq_true rfl) rfl ?_
                first | refine n_iinc (pc := 127) rfl [_, _, _, _, _, _, _, _, _, _] 1 (by decide) rfl rfl ?_ | refine q_iinc (pc := 127) [_, _, _, _, _, _, _, _, _, _] (1) rfl rfl (by decide) rfl ?_
                refine q_goto (pc := 130) rfl ?_
                first
                | (have ih := m_shoreL hd H hl N hk hw0 hq u (i + 1) (by omega) v (F1_m hv (Or.inl hwf)) z8
                   rw [hsF, if_neg (fun e => absurd (hwf.symm.trans (hwb.symm.trans e.1)) (by decide))] at ih
                   exact ih)
                | (have ih := m_shoreL hd H hl N hk hw0 hq u (i + 1) (by omega) v (F1_m hv (Or.inr (shV hv q81))) z8
                   rw [hsF, if_neg (fun e => absurd (q81.symm.trans e.2) (by decide))] at ih
                   exact ih)
                | (have ih := m_shoreL hd H hl N hk hw0 hq u (i + 1) (by omega) v (F1_m hv (Or.inr q95)) (some (.long (lN (hpN (wbs β) i))))
                   rw [hsF, if_pos ⟨hwb.trans hw, q81⟩] at ih
                   rw [Nat.max_comm] at ih
                   exact ih)
                | (have ih := m_shoreL hd H hl N hk hw0 hq u (i + 1) (by omega) (nI i) (shW hv q95 hw (by omega)) (some (.long (lN (hpN (wbs β) i))))
                   rw [hsF, if_pos ⟨hwb.trans hw, q81⟩] at ih
                   rw [Nat.max_comm] at ih
                   exact ih)
            · have q95 : v = -1 := h95
              first
              | (exfalso; omega (config := {splitDisjunctions := false}))
              | exact absurd rfl h95
              | skip
                refine q_iload (pc := 98) rfl rfl ?_
                refine q_goto (pc := 100) rfl ?_
                refine q_istore (pc := 105) [_, _, _, _, _, _, _, _, _, _] rfl (Nat.le_of_ble_eq_true rfl) rfl ?_
                refine q_lload_n (pc := 107) rfl rfl ?_
                refine q_lload (pc := 108) rfl rfl ?_
                first | refine n_lor (pc := 110) rfl ?_ | refine q_lor (pc := 110) rfl ?_
                refine q_lstore_n (pc := 111) [_, _, _, _, _, _, _, _, _, _] rfl (Nat.le_of_ble_eq_true rfl) rfl ?_
                first | refine n_iinc (pc := 112) rfl [_, _, _, _, _, _, _, _, _, _] 1 (by decide) rfl rfl ?_ | refine q_iinc (pc := 112) [_, _, _, _, _, _, _, _, _, _] (1) rfl rfl (by decide) rfl ?_
                refine q_lload (pc := 115) rfl rfl ?_
                refine q_callS (pc := 117) _ (by decide) rfl rfl rfl rfl (Nat.le_of_ble_eq_true rfl) (by omega) _ rfl ?_
                refine j_bitCount hhp ?_
                refine q_iload (pc := 120) rfl rfl ?_
                first | refine n_max (pc := 122) rfl rfl (by omega) (by omega) ?_ | refine q_max (pc := 122) rfl rfl ?_
                refine q_istore (pc := 125) [_, _, _, _, _, _, _, _, _, _] rfl (Nat.le_of_ble_eq_true rfl) rfl ?_
                first | refine n_iinc (pc := 127) rfl [_, _, _, _, _, _, _, _, _, _] 1 (by decide) rfl rfl ?_ | refine q_iinc (pc := 127) [_, _, _, _, _, _, _, _, _, _] (1) rfl rfl (by decide) rfl ?_
                refine q_goto (pc := 130) rfl ?_
                first
                | (have ih := m_shoreL hd H hl N hk hw0 hq u (i + 1) (by omega) v (F1_m hv (Or.inl hwf)) z8
                   rw [hsF, if_neg (fun e => absurd (hwf.symm.trans (hwb.symm.trans e.1)) (by decide))] at ih
                   exact ih)
                | (have ih := m_shoreL hd H hl N hk hw0 hq u (i + 1) (by omega) v (F1_m hv (Or.inr (shV hv q81))) z8
                   rw [hsF, if_neg (fun e => absurd (q81.symm.trans e.2) (by decide))] at ih
                   exact ih)
                | (have ih := m_shoreL hd H hl N hk hw0 hq u (i + 1) (by omega) v (F1_m hv (Or.inr q95)) (some (.long (lN (hpN (wbs β) i))))
                   rw [hsF, if_pos ⟨hwb.trans hw, q81⟩] at ih
                   rw [Nat.max_comm] at ih
                   exact ih)
                | (have ih := m_shoreL hd H hl N hk hw0 hq u (i + 1) (by omega) (nI i) (shW hv q95 hw (by omega)) (some (.long (lN (hpN (wbs β) i))))
                   rw [hsF, if_pos ⟨hwb.trans hw, q81⟩] at ih
                   rw [Nat.max_comm] at ih
                   exact ih)
      · refine q_ifeq (pc := 70) rfl (fun _ => ?_) (fun z => absurd (by decide) z)
        first | refine n_iinc (pc := 127) rfl [_, _, _, _, _, _, _, _, _, _] 1 (by decide) rfl rfl ?_ | refine q_iinc (pc := 127) [_, _, _, _, _, _, _, _, _, _] (1) rfl rfl (by decide) rfl ?_
        refine q_goto (pc := 130) rfl ?_
        first
        | (have ih := m_shoreL hd H hl N hk hw0 hq u (i + 1) (by omega) v (F1_m hv (Or.inl hwf)) z8
           rw [hsF, if_neg (fun e => absurd (hwf.symm.trans (hwb.symm.trans e.1)) (by decide))] at ih
           exact ih)
        | (have ih := m_shoreL hd H hl N hk hw0 hq u (i + 1) (by omega) v (F1_m hv (Or.inr (shV hv q81))) z8
           rw [hsF, if_neg (fun e => absurd (q81.symm.trans e.2) (by decide))] at ih
           exact ih)
        | (have ih := m_shoreL hd H hl N hk hw0 hq u (i + 1) (by omega) v (F1_m hv (Or.inr q95)) (some (.long (lN (hpN (wbs β) i))))
           rw [hsF, if_pos ⟨hwb.trans hw, q81⟩] at ih
           rw [Nat.max_comm] at ih
           exact ih)
        | (have ih := m_shoreL hd H hl N hk hw0 hq u (i + 1) (by omega) (nI i) (shW hv q95 hw (by omega)) (some (.long (lN (hpN (wbs β) i))))
           rw [hsF, if_pos ⟨hwb.trans hw, q81⟩] at ih
           rw [Nat.max_comm] at ih
           exact ih)
termination_by u
theorem m_shore (hd : 20 ≤ d) (H : HR P h s) (hl : 75 ≤ P.1) (N : NW s β) (K : AOK P.2.1 β κ ik tp tz σ sz) (Mk : MK s P.2.1 κ ik tp tz C E σ sz cl) (kk : ∀ h' s', HR P h' s' → NW s' β → mf s s' → Q (some (.int (o_shore C E β x))) h') : wc d 186 [.ref 54, .int x] h Q := by
  have K4 := K.1.2.2.1
  have KK := K.1
  have K89 := K.2.1
  refine wc.go [_, _, _, _, _, _, _, _, _, _] rfl ?_
  refine q_iload_n (pc := 0) rfl rfl ?_
  refine q_iconst (pc := 1) rfl (nI 0) (by decide) ?_
  refine q_iconst (pc := 2) rfl (nI 5) (by decide) ?_
  refine q_callS (pc := 3) _ (by decide) rfl rfl rfl rfl (Nat.le_of_ble_eq_true rfl) (by omega) _ rfl ?_
  refine m_in0 (by decide) (fun w hw e => ?_) (fun g => ?_)
  · subst e
    have z1 : Hd (rg 6 (nI w) = w) := rg_in (by omega) (by decide)
    refine q_ifne (pc := 6) rfl (fun _ => ?_) (fun z => absurd z (by decide))
    refine q_iload_n (pc := 12) rfl rfl ?_
    first | refine n_ifeq (pc := 13) rfl (by omega) (fun h13 => ?_) (fun h13 => ?_) | refine q_ifeq (pc := 13) rfl (fun h13 => ?_) (fun h13 => ?_)
    · first
      | (exfalso; omega (config := {splitDisjunctions := false}))
      | exact absurd rfl h13
      | skip
        refine q_iload_n (pc := 26) rfl rfl ?_
        first | refine n_ifne (pc := 27) rfl (by omega) (fun h27 => ?_) (fun h27 => ?_) | refine q_ifne (pc := 27) rfl (fun h27 => ?_) (fun h27 => ?_)
        · first
          | (exfalso; omega (config := {splitDisjunctions := false}))
          | exact absurd rfl h27
          | skip
            refine q_aload_n (pc := 37) rfl rfl rfl ?_
            refine q_iload_n (pc := 38) rfl rfl ?_
            refine q_callV (pc := 39) _ rfl rfl rfl (by exact HR.c H hl _ rfl) rfl (Nat.le_of_ble_eq_true rfl) (by omega) _ rfl ?_
            refine m_worst (by omega) H hl N Mk.2.2.2.2.1 KK K89 (by omega) ?_
            intro h s1 H f1 N
            refine q_iret (pc := 42) rfl (rfl) ?_
            first
            | (exfalso; omega)
            | (refine eqQ ?_ (kk _ _ H N mf.rf)
               unfold o_shore
               rw [z1.out, if_pos (by omega)])
            | (refine eqQ ?_ (kk _ _ H N (bS_mf f1))
               unfold o_shore
               rw [z1.out]
               rcases (show w = 3 ∨ w = 4 by omega) with rfl | rfl
               · rfl
               · rfl)
        · first
          | (exfalso; omega (config := {splitDisjunctions := false}))
          | exact absurd rfl h27
          | skip
            refine q_aload_n (pc := 30) rfl rfl rfl ?_
            refine q_callV (pc := 31) _ rfl rfl rfl (by exact HR.c H hl _ rfl) rfl (Nat.le_of_ble_eq_true rfl) (by omega) _ rfl ?_
            refine m_wrongs (by omega) H hl N KK.1 ?_
            refine q_goto (pc := 34) rfl ?_
            refine q_iret (pc := 42) rfl (rfl) ?_
            first
            | (exfalso; omega)
            | (refine eqQ ?_ (kk _ _ H N mf.rf)
               unfold o_shore
               rw [z1.out, if_pos (by omega)])
            | (refine eqQ ?_ (kk _ _ H N (bS_mf f1))
               unfold o_shore
               rw [z1.out]
               rcases (show w = 3 ∨ w = 4 by omega) with rfl | rfl
               · rfl
               · rfl)
    · first
      | (exfalso; omega (config := {splitDisjunctions := false}))
      | exact absurd rfl h13
      | skip
        refine q_iload_n (pc := 16) rfl rfl ?_
        refine q_iconst (pc := 17) rfl (nI 3) (by decide) ?_
        first | refine n_icmpeq (pc := 18) rfl (by omega) (by omega) (fun h18 => ?_) (fun h18 => ?_) | refine q_icmpeq (pc := 18) rfl (fun h18 => ?_) (fun h18 => ?_)
        · first
          | (exfalso; omega (config := {splitDisjunctions := false}))
          | exact absurd rfl h18
          | skip
            refine q_iload_n (pc := 26) rfl rfl ?_
            first | refine n_ifne (pc := 27) rfl (by omega) (fun h27 => ?_) (fun h27 => ?_) | refine q_ifne (pc := 27) rfl (fun h27 => ?_) (fun h27 => ?_)
            · first
              | (exfalso; omega (config := {splitDisjunctions := false}))
              | exact absurd rfl h27
              | skip
                refine q_aload_n (pc := 37) rfl rfl rfl ?_
                refine q_iload_n (pc := 38) rfl rfl ?_
                refine q_callV (pc := 39) _ rfl rfl rfl (by exact HR.c H hl _ rfl) rfl (Nat.le_of_ble_eq_true rfl) (by omega) _ rfl ?_
                refine m_worst (by omega) H hl N Mk.2.2.2.2.1 KK K89 (by omega) ?_
                intro h s1 H f1 N
                refine q_iret (pc := 42) rfl (rfl) ?_
                first
                | (exfalso; omega)
                | (refine eqQ ?_ (kk _ _ H N mf.rf)
                   unfold o_shore
                   rw [z1.out, if_pos (by omega)])
                | (refine eqQ ?_ (kk _ _ H N (bS_mf f1))
                   unfold o_shore
                   rw [z1.out]
                   rcases (show w = 3 ∨ w = 4 by omega) with rfl | rfl
                   · rfl
                   · rfl)
            · first
              | (exfalso; omega (config := {splitDisjunctions := false}))
              | exact absurd rfl h27
              | skip
                refine q_aload_n (pc := 30) rfl rfl rfl ?_
                refine q_callV (pc := 31) _ rfl rfl rfl (by exact HR.c H hl _ rfl) rfl (Nat.le_of_ble_eq_true rfl) (by omega) _ rfl ?_
                refine m_wrongs (by omega) H hl N KK.1 ?_
                refine q_goto (pc := 34) rfl ?_
                refine q_iret (pc := 42) rfl (rfl) ?_
                first
                | (exfalso; omega)
                | (refine eqQ ?_ (kk _ _ H N mf.rf)
                   unfold o_shore
                   rw [z1.out, if_pos (by omega)])
                | (refine eqQ ?_ (kk _ _ H N (bS_mf f1))
                   unfold o_shore
                   rw [z1.out]
                   rcases (show w = 3 ∨ w = 4 by omega) with rfl | rfl
                   · rfl
                   · rfl)
        · first
          | (exfalso; omega (config := {splitDisjunctions := false}))
          | exact absurd rfl h18
          | skip
            refine q_iload_n (pc := 21) rfl rfl ?_
            refine q_iconst (pc := 22) rfl (nI 4) (by decide) ?_
            first | refine n_icmpne (pc := 23) rfl (by omega) (by omega) (fun h23 => ?_) (fun h23 => ?_) | refine q_icmpne (pc := 23) rfl (fun h23 => ?_) (fun h23 => ?_)
            · first
              | (exfalso; omega (config := {splitDisjunctions := false}))
              | exact absurd rfl h23
              | skip
                refine q_lconst (pc := 43) rfl (lN 0) (by decide) ?_
                refine q_lstore_n (pc := 44) [_, _, _, _, _, _, _, _, _, _] rfl (Nat.le_of_ble_eq_true rfl) rfl ?_
                refine q_iconst (pc := 45) rfl (nI 0) (by decide) ?_
                refine q_istore (pc := 46) [_, _, _, _, _, _, _, _, _, _] rfl (Nat.le_of_ble_eq_true rfl) rfl ?_
                refine q_iconst (pc := 48) rfl (nI 0) (by decide) ?_
                refine q_istore (pc := 49) [_, _, _, _, _, _, _, _, _, _] rfl (Nat.le_of_ble_eq_true rfl) rfl ?_
                refine q_iconst (pc := 51) rfl (-1) (by decide) ?_
                refine q_istore (pc := 52) [_, _, _, _, _, _, _, _, _, _] rfl (Nat.le_of_ble_eq_true rfl) rfl ?_
                refine q_iconst (pc := 54) rfl (nI 0) (by decide) ?_
                refine q_istore (pc := 55) [_, _, _, _, _, _, _, _, _, _] rfl (Nat.le_of_ble_eq_true rfl) rfl ?_
                refine m_shoreL (by omega) H hl N KK.1 (by omega) ?_ 36 0 (by omega) (-1) (Or.inl ⟨rfl, fun j hj => by omega⟩) _
                refine eqQ ?_ (kk _ _ H N mf.rf)
                unfold o_shore
                rw [z1.out]
                rcases (show w = 1 ∨ w = 2 ∨ w = 5 by omega) with rfl | rfl | rfl
                · rfl
                · rfl
                · rfl
            · first
              | (exfalso; omega (config := {splitDisjunctions := false}))
              | exact absurd rfl h23
              | skip
                refine q_iload_n (pc := 26) rfl rfl ?_
                first | refine n_ifne (pc := 27) rfl (by omega) (fun h27 => ?_) (fun h27 => ?_) | refine q_ifne (pc := 27) rfl (fun h27 => ?_) (fun h27 => ?_)
                · first
                  | (exfalso; omega (config := {splitDisjunctions := false}))
                  | exact absurd rfl h27
                  | skip
                    refine q_aload_n (pc := 37) rfl rfl rfl ?_
                    refine q_iload_n (pc := 38) rfl rfl ?_
                    refine q_callV (pc := 39) _ rfl rfl rfl (by exact HR.c H hl _ rfl) rfl (Nat.le_of_ble_eq_true rfl) (by omega) _ rfl ?_
                    refine m_worst (by omega) H hl N Mk.2.2.2.2.1 KK K89 (by omega) ?_
                    intro h s1 H f1 N
                    refine q_iret (pc := 42) rfl (rfl) ?_
                    first
                    | (exfalso; omega)
                    | (refine eqQ ?_ (kk _ _ H N mf.rf)
                       unfold o_shore
                       rw [z1.out, if_pos (by omega)])
                    | (refine eqQ ?_ (kk _ _ H N (bS_mf f1))
                       unfold o_shore
                       rw [z1.out]
                       rcases (show w = 3 ∨ w = 4 by omega) with rfl | rfl
                       · rfl
                       · rfl)
                · first
                  | (exfalso; omega (config := {splitDisjunctions := false}))
                  | exact absurd rfl h27
                  | skip
                    refine q_aload_n (pc := 30) rfl rfl rfl ?_
                    refine q_callV (pc := 31) _ rfl rfl rfl (by exact HR.c H hl _ rfl) rfl (Nat.le_of_ble_eq_true rfl) (by omega) _ rfl ?_
                    refine m_wrongs (by omega) H hl N KK.1 ?_
                    refine q_goto (pc := 34) rfl ?_
                    refine q_iret (pc := 42) rfl (rfl) ?_
                    first
                    | (exfalso; omega)
                    | (refine eqQ ?_ (kk _ _ H N mf.rf)
                       unfold o_shore
                       rw [z1.out, if_pos (by omega)])
                    | (refine eqQ ?_ (kk _ _ H N (bS_mf f1))
                       unfold o_shore
                       rw [z1.out]
                       rcases (show w = 3 ∨ w = 4 by omega) with rfl | rfl
                       · rfl
                       · rfl)
  · have z1 : Hd (rg 6 x = 6) := rg_out g
    refine q_ifne (pc := 6) rfl (fun z => absurd z (by decide)) (fun _ => ?_)
    refine q_bipush (pc := 9) rfl (-2) (by decide) ?_
    refine q_iret (pc := 11) rfl (rfl) ?_
    refine eqQ ?_ (kk _ _ H N mf.rf)
    unfold o_shore
    rw [z1.out, if_neg (by decide), if_neg (by decide), if_neg (by decide), if_neg (by decide), if_neg (by decide), if_neg (by decide)]
end P53
