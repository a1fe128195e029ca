/-! ===== the class's calls: what is told, set ===== -/
/-- where a number stands that is told; 91: nowhere -/
def plt (β : Nat → Nat) (f w : Int32) : Nat := if rg 7 w = 0 then 89 else if rg 7 w = 1 then (if rg 36 f < 36 then rg 36 f else 91) else if rg 7 w = 2 then (if rg 36 f < 36 then 36 + rg 36 f else 91) else if rg (β 88) f < β 88 then (if rg 7 w = 3 then 72 + 4 * rg (β 88) f + 1 else if rg 7 w = 4 then 72 + 4 * rg (β 88) f + 2 else if rg 7 w = 5 then 72 + 4 * rg (β 88) f else if rg 7 w = 6 then 72 + 4 * rg (β 88) f + 3 else 91) else 91
def o_told (β : Nat → Nat) (f w : Int32) : Int32 := if plt β f w < 91 then nI (β (plt β f w)) else -2
section P28
variable {d k pc a i j c p b t n m part q : Nat} {v : Int} {L L' : mx_L} {st r : List Value} {P : mx_Pm} {h : mx_H} {s : mx_St} {Q : Option Value → mx_H → Prop} {x y w z u : Int32} {β κ : Nat → Nat} {C : Nat → Nat → Int32} {E : Nat → Nat → Nat} {ik tz : Nat} {tp : Nat → Nat} {σ : Nat → Int32} {sz : Nat → Nat} {cl : Nat → Nat → Int32}
theorem w7 {w : Nat} (h : w < 7) : w = 0 ∨ w = 1 ∨ w = 2 ∨ w = 3 ∨ w = 4 ∨ w = 5 ∨ w = 6 := by omega
theorem tsw_d {dd lo hi : Int} {offs : Array Int} {pc : Nat} {x : Int32} {n : Nat} (g : x < 0 ∨ nI n ≤ x) (hn : n < 2 ^ 31) (h1 : 0 ≤ lo ∧ hi < n) : mx_tsw dd lo hi offs pc x = mx_tg pc dd := by
  unfold mx_tsw
  rw [if_pos]
  rcases g with g | g
  · have := Int32.lt_iff_toInt_lt.mp g
    rw [show (0 : Int32).toInt = 0 by decide] at this
    exact Or.inl (by omega)
  · have := Int32.le_iff_toInt_le.mp g
    rw [nI_toInt hn] at this
    exact Or.inr (by omega)
theorem c_told (hd : 9 ≤ d) (H : HR P h s) (hl : 51 ≤ P.1) (A : CA P s β κ ik tp tz C E σ sz cl) (K : AOK P.2.1 β κ ik tp tz σ sz) (kk : ∀ h' s', HR P h' s' → CA P s' β κ ik tp tz C E σ sz cl → sf s s' cS → Q (some (.int (o_told β x y))) h') : wc d 80 [.ref 0, .int x, .int y] h Q := by
  have K4 := K.1.2.2.1
  have KK := K.1
  rcases rgc 7 (by decide) y with ⟨w, hw, rfl, -⟩ | ⟨g, -⟩
  ·
    refine q_iload_n (pc := 0) rfl rfl ?_
    first | refine n_ifne (pc := 1) rfl (by omega) (fun h1 => ?_) (fun h1 => ?_) | refine q_ifne (pc := 1) rfl (fun h1 => ?_) (fun h1 => ?_)
    · first
      | (exfalso; omega)
      | exact (rg_no g (by first | exact h1 | exact h1.symm) (by decide)).elim
      | skip
        refine q_iload_n (pc := 12) rfl rfl ?_
        refine q_iconst (pc := 13) rfl (nI 1) (by decide) ?_
        first | refine n_icmpne (pc := 14) rfl (by omega) (by omega) (fun h14 => ?_) (fun h14 => ?_) | refine q_icmpne (pc := 14) rfl (fun h14 => ?_) (fun h14 => ?_)
        · first
          | (exfalso; omega)
          | exact (rg_no g (by first | exact h14 | exact h14.symm) (by decide)).elim
          | skip
            refine q_iload_n (pc := 39) rfl rfl ?_
            refine q_iconst (pc := 40) rfl (nI 2) (by decide) ?_
            first | refine n_icmpne (pc := 41) rfl (by omega) (by omega) (fun h41 => ?_) (fun h41 => ?_) | refine q_icmpne (pc := 41) rfl (fun h41 => ?_) (fun h41 => ?_)
            · first
              | (exfalso; omega)
              | exact (rg_no g (by first | exact h41 | exact h41.symm) (by decide)).elim
              | skip
                refine q_aload_n (pc := 53) rfl rfl rfl ?_
                refine q_getf (pc := 54) rfl (by first | exact HR.B H hl isB1 A.1 | exact HR.X' H hl | exact HR.O H hl isB1 A.1 hp) rfl rfl ?_
                refine q_iload_n (pc := 57) rfl rfl ?_
                refine q_callV (pc := 58) _ rfl rfl rfl (by first | exact HR.B H hl isB1 A.1 | exact HR.X' H hl | exact HR.O H hl isB1 A.1 hp) rfl (Nat.le_of_ble_eq_true rfl) (by omega) _ rfl ?_
                refine c_member H hl isB1 A.1 (fun p hp hpβ hxp => ?_) (fun gp => ?_) K4
                · subst hxp
                  refine q_astore_n (pc := 61) [_, _, _, _] rfl rfl (Nat.le_of_ble_eq_true rfl) rfl ?_
                  refine q_aload_n (pc := 62) rfl rfl rfl ?_
                  refine q_ifnonnull (pc := 63) rfl ?_
                  refine q_iload_n (pc := 69) rfl rfl ?_
                  rcases w7 hw with rfl | rfl | rfl | rfl | rfl | rfl | rfl
                  · exfalso; omega
                  · exfalso; omega
                  · exfalso; omega
                  · refine q_tsw (pc := 70) (t := 100) rfl (by decide) ?_
                    refine q_aload_n (pc := 100) rfl rfl rfl ?_
                    refine q_getf (pc := 101) rfl (by first | exact HR.B H hl isB1 A.1 | exact HR.X' H hl | exact HR.O H hl isB1 A.1 hp) rfl rfl ?_
                    refine q_iret (pc := 104) rfl (rfl) ?_
                    refine eqQ ?_ (kk _ _ H A sf.rf)
                    simp (disch := first | omega | assumption) only [o_told, plt, rg_in, rg_out, if_true, if_false, reduceIte]
                    (try all_goals ((repeat' split) <;> first | rfl | (exfalso; omega) | (congr 1; omega)))
                  · refine q_tsw (pc := 70) (t := 105) rfl (by decide) ?_
                    refine q_aload_n (pc := 105) rfl rfl rfl ?_
                    refine q_getf (pc := 106) rfl (by first | exact HR.B H hl isB1 A.1 | exact HR.X' H hl | exact HR.O H hl isB1 A.1 hp) rfl rfl ?_
                    refine q_iret (pc := 109) rfl (rfl) ?_
                    refine eqQ ?_ (kk _ _ H A sf.rf)
                    simp (disch := first | omega | assumption) only [o_told, plt, rg_in, rg_out, if_true, if_false, reduceIte]
                    (try all_goals ((repeat' split) <;> first | rfl | (exfalso; omega) | (congr 1; omega)))
                  · refine q_tsw (pc := 70) (t := 110) rfl (by decide) ?_
                    refine q_aload_n (pc := 110) rfl rfl rfl ?_
                    refine q_getf (pc := 111) rfl (by first | exact HR.B H hl isB1 A.1 | exact HR.X' H hl | exact HR.O H hl isB1 A.1 hp) rfl rfl ?_
                    refine q_iret (pc := 114) rfl (rfl) ?_
                    refine eqQ ?_ (kk _ _ H A sf.rf)
                    simp (disch := first | omega | assumption) only [o_told, plt, rg_in, rg_out, if_true, if_false, reduceIte]
                    (try all_goals ((repeat' split) <;> first | rfl | (exfalso; omega) | (congr 1; omega)))
                  · refine q_tsw (pc := 70) (t := 115) rfl (by decide) ?_
                    refine q_aload_n (pc := 115) rfl rfl rfl ?_
                    refine q_getf (pc := 116) rfl (by first | exact HR.B H hl isB1 A.1 | exact HR.X' H hl | exact HR.O H hl isB1 A.1 hp) rfl rfl ?_
                    refine q_iret (pc := 119) rfl (rfl) ?_
                    refine eqQ ?_ (kk _ _ H A sf.rf)
                    simp (disch := first | omega | assumption) only [o_told, plt, rg_in, rg_out, if_true, if_false, reduceIte]
                    (try all_goals ((repeat' split) <;> first | rfl | (exfalso; omega) | (congr 1; omega)))
                · refine q_astore_n (pc := 61) [_, _, _, _] rfl rfl (Nat.le_of_ble_eq_true rfl) rfl ?_
                  refine q_aload_n (pc := 62) rfl rfl rfl ?_
                  refine q_ifnonnullN (pc := 63) rfl ?_
                  refine q_bipush (pc := 66) rfl (-2) (by decide) ?_
                  refine q_iret (pc := 68) rfl (rfl) ?_
                  refine eqQ ?_ (kk _ _ H A sf.rf)
                  simp (disch := first | omega | assumption) only [o_told, plt, rg_in, rg_out, if_true, if_false, reduceIte]
                  (try all_goals ((repeat' split) <;> first | rfl | (exfalso; omega) | (congr 1; omega)))
            · first
              | (exfalso; omega)
              | exact (rg_no g (by first | exact h41 | exact h41.symm) (by decide)).elim
              | skip
                refine q_aload_n (pc := 44) rfl rfl rfl ?_
                refine q_getf (pc := 45) rfl (by first | exact HR.B H hl isB1 A.1 | exact HR.X' H hl | exact HR.O H hl isB1 A.1 hp) rfl rfl ?_
                refine q_iload_n (pc := 48) rfl rfl ?_
                refine q_callV (pc := 49) _ rfl rfl rfl (by first | exact HR.B H hl isB1 A.1 | exact HR.X' H hl | exact HR.O H hl isB1 A.1 hp) rfl (Nat.le_of_ble_eq_true rfl) (by omega) _ rfl ?_
                refine c_planOfX (by omega) H hl isB1 A.1 (fun c0 hc0 hx0 => ?_) (fun gc => ?_)
                · subst hx0
                  refine q_iret (pc := 52) rfl (rfl) ?_
                  refine eqQ ?_ (kk _ _ H A sf.rf)
                  simp (disch := first | omega | assumption) only [o_told, plt, rg_in, rg_out, if_true, if_false, reduceIte]
                  (try all_goals ((repeat' split) <;> first | rfl | (exfalso; omega) | (congr 1; omega)))
                · refine q_iret (pc := 52) rfl (rfl) ?_
                  refine eqQ ?_ (kk _ _ H A sf.rf)
                  simp (disch := first | omega | assumption) only [o_told, plt, rg_in, rg_out, if_true, if_false, reduceIte]
                  (try all_goals ((repeat' split) <;> first | rfl | (exfalso; omega) | (congr 1; omega)))
        · first
          | (exfalso; omega)
          | exact (rg_no g (by first | exact h14 | exact h14.symm) (by decide)).elim
          | skip
            refine q_iload_n (pc := 17) rfl rfl ?_
            refine q_callS (pc := 18) _ (by decide) rfl rfl rfl rfl (Nat.le_of_ble_eq_true rfl) (by omega) _ rfl ?_
            refine c_isCell (fun c0 hc0 hx0 => ?_) (fun gc => ?_)
            · subst hx0
              refine q_ifeq (pc := 21) rfl (fun z => absurd z (by decide)) (fun _ => ?_)
              refine q_aload_n (pc := 24) rfl rfl rfl ?_
              refine q_getf (pc := 25) rfl (by first | exact HR.B H hl isB1 A.1 | exact HR.X' H hl | exact HR.O H hl isB1 A.1 hp) rfl rfl ?_
              refine q_getf (pc := 28) rfl (by first | exact HR.B H hl isB1 A.1 | exact HR.X' H hl | exact HR.O H hl isB1 A.1 hp) rfl rfl ?_
              refine q_iload_n (pc := 31) rfl rfl ?_
              refine n_ild (pc := 32) rfl (by exact HR.am H hl isB1 A.1) rfl (by omega) (by omega) ?_
              refine q_goto (pc := 33) rfl ?_
              refine q_iret (pc := 38) rfl (rfl) ?_
              refine eqQ ?_ (kk _ _ H A sf.rf)
              simp (disch := first | omega | assumption) only [o_told, plt, rg_in, rg_out, if_true, if_false, reduceIte]
              (try all_goals ((repeat' split) <;> first | rfl | (exfalso; omega) | (congr 1; omega)))
            · refine q_ifeq (pc := 21) rfl (fun _ => ?_) (fun z => absurd (by decide) z)
              refine q_bipush (pc := 36) rfl (-2) (by decide) ?_
              refine q_iret (pc := 38) rfl (rfl) ?_
              refine eqQ ?_ (kk _ _ H A sf.rf)
              simp (disch := first | omega | assumption) only [o_told, plt, rg_in, rg_out, if_true, if_false, reduceIte]
              (try all_goals ((repeat' split) <;> first | rfl | (exfalso; omega) | (congr 1; omega)))
    · first
      | (exfalso; omega)
      | exact (rg_no g (by first | exact h1 | exact h1.symm) (by decide)).elim
      | skip
        refine q_aload_n (pc := 4) rfl rfl rfl ?_
        refine q_getf (pc := 5) rfl (by first | exact HR.B H hl isB1 A.1 | exact HR.X' H hl | exact HR.O H hl isB1 A.1 hp) rfl rfl ?_
        refine q_getf (pc := 8) rfl (by exact HR.B H hl isB1 A.1) rfl rfl ?_
        refine q_iret (pc := 11) rfl (rfl) ?_
        refine eqQ ?_ (kk _ _ H A sf.rf)
        simp (disch := first | omega | assumption) only [o_told, plt, rg_in, rg_out, if_true, if_false, reduceIte]
        (try all_goals ((repeat' split) <;> first | rfl | (exfalso; omega) | (congr 1; omega)))
  ·
    refine q_iload_n (pc := 0) rfl rfl ?_
    first | refine n_ifne (pc := 1) rfl (by omega) (fun h1 => ?_) (fun h1 => ?_) | refine q_ifne (pc := 1) rfl (fun h1 => ?_) (fun h1 => ?_)
    · first
      | (exfalso; omega)
      | exact (rg_no g (by first | exact h1 | exact h1.symm) (by decide)).elim
      | skip
        refine q_iload_n (pc := 12) rfl rfl ?_
        refine q_iconst (pc := 13) rfl (nI 1) (by decide) ?_
        first | refine n_icmpne (pc := 14) rfl (by omega) (by omega) (fun h14 => ?_) (fun h14 => ?_) | refine q_icmpne (pc := 14) rfl (fun h14 => ?_) (fun h14 => ?_)
        · first
          | (exfalso; omega)
          | exact (rg_no g (by first | exact h14 | exact h14.symm) (by decide)).elim
          | skip
            refine q_iload_n (pc := 39) rfl rfl ?_
            refine q_iconst (pc := 40) rfl (nI 2) (by decide) ?_
            first | refine n_icmpne (pc := 41) rfl (by omega) (by omega) (fun h41 => ?_) (fun h41 => ?_) | refine q_icmpne (pc := 41) rfl (fun h41 => ?_) (fun h41 => ?_)
            · first
              | (exfalso; omega)
              | exact (rg_no g (by first | exact h41 | exact h41.symm) (by decide)).elim
              | skip
                refine q_aload_n (pc := 53) rfl rfl rfl ?_
                refine q_getf (pc := 54) rfl (by first | exact HR.B H hl isB1 A.1 | exact HR.X' H hl | exact HR.O H hl isB1 A.1 hp) rfl rfl ?_
                refine q_iload_n (pc := 57) rfl rfl ?_
                refine q_callV (pc := 58) _ rfl rfl rfl (by first | exact HR.B H hl isB1 A.1 | exact HR.X' H hl | exact HR.O H hl isB1 A.1 hp) rfl (Nat.le_of_ble_eq_true rfl) (by omega) _ rfl ?_
                refine c_member H hl isB1 A.1 (fun p hp hpβ hxp => ?_) (fun gp => ?_) K4
                · subst hxp
                  refine q_astore_n (pc := 61) [_, _, _, _] rfl rfl (Nat.le_of_ble_eq_true rfl) rfl ?_
                  refine q_aload_n (pc := 62) rfl rfl rfl ?_
                  refine q_ifnonnull (pc := 63) rfl ?_
                  refine q_iload_n (pc := 69) rfl rfl ?_
                  skip
                  · refine q_tsw (pc := 70) (t := 120) rfl ((tsw_d g (by decide) (by decide)).trans rfl) ?_
                    refine q_bipush (pc := 120) rfl (-2) (by decide) ?_
                    refine q_iret (pc := 122) rfl (rfl) ?_
                    refine eqQ ?_ (kk _ _ H A sf.rf)
                    simp (disch := first | omega | assumption) only [o_told, plt, rg_in, rg_out, if_true, if_false, reduceIte]
                    (try all_goals ((repeat' split) <;> first | rfl | (exfalso; omega) | (congr 1; omega)))
                · refine q_astore_n (pc := 61) [_, _, _, _] rfl rfl (Nat.le_of_ble_eq_true rfl) rfl ?_
                  refine q_aload_n (pc := 62) rfl rfl rfl ?_
                  refine q_ifnonnullN (pc := 63) rfl ?_
                  refine q_bipush (pc := 66) rfl (-2) (by decide) ?_
                  refine q_iret (pc := 68) rfl (rfl) ?_
                  refine eqQ ?_ (kk _ _ H A sf.rf)
                  simp (disch := first | omega | assumption) only [o_told, plt, rg_in, rg_out, if_true, if_false, reduceIte]
                  (try all_goals ((repeat' split) <;> first | rfl | (exfalso; omega) | (congr 1; omega)))
            · first
              | (exfalso; omega)
              | exact (rg_no g (by first | exact h41 | exact h41.symm) (by decide)).elim
              | skip
                refine q_aload_n (pc := 44) rfl rfl rfl ?_
                refine q_getf (pc := 45) rfl (by first | exact HR.B H hl isB1 A.1 | exact HR.X' H hl | exact HR.O H hl isB1 A.1 hp) rfl rfl ?_
                refine q_iload_n (pc := 48) rfl rfl ?_
                refine q_callV (pc := 49) _ rfl rfl rfl (by first | exact HR.B H hl isB1 A.1 | exact HR.X' H hl | exact HR.O H hl isB1 A.1 hp) rfl (Nat.le_of_ble_eq_true rfl) (by omega) _ rfl ?_
                refine c_planOfX (by omega) H hl isB1 A.1 (fun c0 hc0 hx0 => ?_) (fun gc => ?_)
                · subst hx0
                  refine q_iret (pc := 52) rfl (rfl) ?_
                  refine eqQ ?_ (kk _ _ H A sf.rf)
                  simp (disch := first | omega | assumption) only [o_told, plt, rg_in, rg_out, if_true, if_false, reduceIte]
                  (try all_goals ((repeat' split) <;> first | rfl | (exfalso; omega) | (congr 1; omega)))
                · refine q_iret (pc := 52) rfl (rfl) ?_
                  refine eqQ ?_ (kk _ _ H A sf.rf)
                  simp (disch := first | omega | assumption) only [o_told, plt, rg_in, rg_out, if_true, if_false, reduceIte]
                  (try all_goals ((repeat' split) <;> first | rfl | (exfalso; omega) | (congr 1; omega)))
        · first
          | (exfalso; omega)
          | exact (rg_no g (by first | exact h14 | exact h14.symm) (by decide)).elim
          | skip
            refine q_iload_n (pc := 17) rfl rfl ?_
            refine q_callS (pc := 18) _ (by decide) rfl rfl rfl rfl (Nat.le_of_ble_eq_true rfl) (by omega) _ rfl ?_
            refine c_isCell (fun c0 hc0 hx0 => ?_) (fun gc => ?_)
            · subst hx0
              refine q_ifeq (pc := 21) rfl (fun z => absurd z (by decide)) (fun _ => ?_)
              refine q_aload_n (pc := 24) rfl rfl rfl ?_
              refine q_getf (pc := 25) rfl (by first | exact HR.B H hl isB1 A.1 | exact HR.X' H hl | exact HR.O H hl isB1 A.1 hp) rfl rfl ?_
              refine q_getf (pc := 28) rfl (by first | exact HR.B H hl isB1 A.1 | exact HR.X' H hl | exact HR.O H hl isB1 A.1 hp) rfl rfl ?_
              refine q_iload_n (pc := 31) rfl rfl ?_
              refine n_ild (pc := 32) rfl (by exact HR.am H hl isB1 A.1) rfl (by omega) (by omega) ?_
              refine q_goto (pc := 33) rfl ?_
              refine q_iret (pc := 38) rfl (rfl) ?_
              refine eqQ ?_ (kk _ _ H A sf.rf)
              simp (disch := first | omega | assumption) only [o_told, plt, rg_in, rg_out, if_true, if_false, reduceIte]
              (try all_goals ((repeat' split) <;> first | rfl | (exfalso; omega) | (congr 1; omega)))
            · refine q_ifeq (pc := 21) rfl (fun _ => ?_) (fun z => absurd (by decide) z)
              refine q_bipush (pc := 36) rfl (-2) (by decide) ?_
              refine q_iret (pc := 38) rfl (rfl) ?_
              refine eqQ ?_ (kk _ _ H A sf.rf)
              simp (disch := first | omega | assumption) only [o_told, plt, rg_in, rg_out, if_true, if_false, reduceIte]
              (try all_goals ((repeat' split) <;> first | rfl | (exfalso; omega) | (congr 1; omega)))
    · first
      | (exfalso; omega)
      | exact (rg_no g (by first | exact h1 | exact h1.symm) (by decide)).elim
      | skip
        refine q_aload_n (pc := 4) rfl rfl rfl ?_
        refine q_getf (pc := 5) rfl (by first | exact HR.B H hl isB1 A.1 | exact HR.X' H hl | exact HR.O H hl isB1 A.1 hp) rfl rfl ?_
        refine q_getf (pc := 8) rfl (by exact HR.B H hl isB1 A.1) rfl rfl ?_
        refine q_iret (pc := 11) rfl (rfl) ?_
        refine eqQ ?_ (kk _ _ H A sf.rf)
        simp (disch := first | omega | assumption) only [o_told, plt, rg_in, rg_out, if_true, if_false, reduceIte]
        (try all_goals ((repeat' split) <;> first | rfl | (exfalso; omega) | (congr 1; omega)))
theorem plt_c (β : Nat → Nat) (hβ : β 88 ≤ 4) (f w : Int32) : (w = nI 0 ∧ Hd (plt β f w = 89)) ∨ (∃ c, c < 36 ∧ w = nI 1 ∧ f = nI c ∧ Hd (plt β f w = c)) ∨ (∃ c, c < 36 ∧ w = nI 2 ∧ f = nI c ∧ Hd (plt β f w = 36 + c)) ∨ (∃ p, p < β 88 ∧ w = nI 3 ∧ f = nI p ∧ Hd (plt β f w = 72 + 4 * p + 1)) ∨ (∃ p, p < β 88 ∧ w = nI 4 ∧ f = nI p ∧ Hd (plt β f w = 72 + 4 * p + 2)) ∨ (∃ p, p < β 88 ∧ w = nI 5 ∧ f = nI p ∧ Hd (plt β f w = 72 + 4 * p)) ∨ (∃ p, p < β 88 ∧ w = nI 6 ∧ f = nI p ∧ Hd (plt β f w = 72 + 4 * p + 3)) ∨ Hd (plt β f w = 91):= by
  unfold Hd plt
  rcases rgc 7 (by decide) w with ⟨w, hw, rfl, e1⟩ | ⟨g, e1⟩
  · rw [e1.out]
    rcases w7 hw with rfl | rfl | rfl | rfl | rfl | rfl | rfl
    · exact Or.inl ⟨rfl, rfl⟩
    · rcases rgc 36 (by decide) f with ⟨c, hc, rfl, e2⟩ | ⟨g2, e2⟩
      · exact Or.inr (Or.inl ⟨c, hc, rfl, rfl, by rw [e2.out]; exact if_pos hc⟩)
      · exact Or.inr (Or.inr (Or.inr (Or.inr (Or.inr (Or.inr (Or.inr (by rw [e2.out]; rfl)))))))
    · rcases rgc 36 (by decide) f with ⟨c, hc, rfl, e2⟩ | ⟨g2, e2⟩
      · exact Or.inr (Or.inr (Or.inl ⟨c, hc, rfl, rfl, by rw [e2.out]; exact if_pos hc⟩))
      · exact Or.inr (Or.inr (Or.inr (Or.inr (Or.inr (Or.inr (Or.inr (by rw [e2.out]; rfl)))))))
    all_goals rcases rgc (β 88) (by omega) f with ⟨p, hp, rfl, e2⟩ | ⟨g2, e2⟩
    · exact Or.inr (Or.inr (Or.inr (Or.inl ⟨p, hp, rfl, rfl, by rw [e2.out]; exact if_pos hp⟩)))
    · exact Or.inr (Or.inr (Or.inr (Or.inr (Or.inr (Or.inr (Or.inr (by rw [e2.out]; exact if_neg (Nat.lt_irrefl _))))))))
    · exact Or.inr (Or.inr (Or.inr (Or.inr (Or.inl ⟨p, hp, rfl, rfl, by rw [e2.out]; exact if_pos hp⟩))))
    · exact Or.inr (Or.inr (Or.inr (Or.inr (Or.inr (Or.inr (Or.inr (by rw [e2.out]; exact if_neg (Nat.lt_irrefl _))))))))
    · exact Or.inr (Or.inr (Or.inr (Or.inr (Or.inr (Or.inl ⟨p, hp, rfl, rfl, by rw [e2.out]; exact if_pos hp⟩)))))
    · exact Or.inr (Or.inr (Or.inr (Or.inr (Or.inr (Or.inr (Or.inr (by rw [e2.out]; exact if_neg (Nat.lt_irrefl _))))))))
    · exact Or.inr (Or.inr (Or.inr (Or.inr (Or.inr (Or.inr (Or.inl ⟨p, hp, rfl, rfl, by rw [e2.out]; exact if_pos hp⟩))))))
    · exact Or.inr (Or.inr (Or.inr (Or.inr (Or.inr (Or.inr (Or.inr (by rw [e2.out]; exact if_neg (Nat.lt_irrefl _))))))))
  · refine Or.inr (Or.inr (Or.inr (Or.inr (Or.inr (Or.inr (Or.inr ?_))))))
    rw [e1.out]
    split
    · omega
    split
    · omega
    split
    · omega
    split <;> rfl
theorem bok_le {n j : Nat} (hk : bok β n) (hj : j < 90) : β j ≤ 9999 := by
  obtain ⟨h1, h2, h3, h4, h5⟩ := hk
  by_cases e : j < 72
  · have := h1 j e; omega
  · by_cases e2 : j < 88
    · obtain ⟨p, hp, z⟩ : ∃ p, p < 4 ∧ (j = 72 + 4 * p ∨ j = 72 + 4 * p + 1 ∨ j = 72 + 4 * p + 2 ∨ j = 72 + 4 * p + 3) := ⟨(j - 72) / 4, by omega, by omega⟩
      obtain ⟨g1, g2, g3, g4⟩ := h2 p hp
      rcases z with rfl | rfl | rfl | rfl <;> omega
    · by_cases e3 : j = 88
      · subst e3; omega
      · obtain rfl : j = 89 := by omega
        omega
/-- what a number may be at most, and one -/
def mst (w : Int32) : Nat := if rg 5 w = 0 then 1000 else if rg 5 w = 4 then 36 else 10
def o_set (β : Nat → Nat) (w f v : Int32) : Int32 := if rg 5 w < 5 ∧ rg (mst w) v < mst w then o_told β f w else -2
def n_set (β : Nat → Nat) (w f v : Int32) : Nat → Nat := if rg 5 w < 5 ∧ rg (mst w) v < mst w ∧ plt β f w < 91 then upN β (plt β f w) (rg (mst w) v) else β
theorem c_mostOf (hm : n < 5) (hq : Q (some (.int (nI (mst (nI n) - 1)))) h) : wc d 78 [.int (nI n)] h Q := by
  have z : n = 0 ∨ n = 1 ∨ n = 2 ∨ n = 3 ∨ n = 4 := by omega
  refine wc.go [_] rfl ?_
  refine q_iload_n (pc := 0) rfl rfl ?_
  rcases z with rfl | rfl | rfl | rfl | rfl
  · refine q_tsw (pc := 1) (t := 32) rfl (by decide) ?_
    refine q_sipush (pc := 32) rfl (nI 999) (by decide) ?_
    refine q_iret (pc := 35) rfl (rfl) ?_
    exact hq
  · refine q_tsw (pc := 1) (t := 36) rfl (by decide) ?_
    refine q_bipush (pc := 36) rfl (nI 9) (by decide) ?_
    refine q_iret (pc := 38) rfl (rfl) ?_
    exact hq
  · refine q_tsw (pc := 1) (t := 36) rfl (by decide) ?_
    refine q_bipush (pc := 36) rfl (nI 9) (by decide) ?_
    refine q_iret (pc := 38) rfl (rfl) ?_
    exact hq
  · refine q_tsw (pc := 1) (t := 39) rfl (by decide) ?_
    refine q_bipush (pc := 39) rfl (nI 9) (by decide) ?_
    refine q_iret (pc := 41) rfl (rfl) ?_
    exact hq
  · refine q_tsw (pc := 1) (t := 42) rfl (by decide) ?_
    refine q_bipush (pc := 42) rfl (nI 35) (by decide) ?_
    refine q_iret (pc := 44) rfl (rfl) ?_
    exact hq
end P28
