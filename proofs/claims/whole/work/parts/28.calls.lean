/-! ===== the class's calls: what is told, set ===== -/
def o_told (β : Nat → Nat) (f w : Int32) : Int32 := if rg 7 w = 0 then nI (β 89) else if rg 7 w = 1 then (if rg 36 f < 36 then nI (β (rg 36 f)) else -2) else if rg 7 w = 2 then (if rg 36 f < 36 then nI (β (36 + rg 36 f)) else -2) else if rg (β 88) f < β 88 then (if rg 7 w = 3 then nI (β (72 + 4 * rg (β 88) f + 1)) else if rg 7 w = 4 then nI (β (72 + 4 * rg (β 88) f + 2)) else if rg 7 w = 5 then nI (β (72 + 4 * rg (β 88) f)) else if rg 7 w = 6 then nI (β (72 + 4 * rg (β 88) f + 3)) else -2) else -2
section P28
variable {d k pc a i j c p b t n m part q : Nat} {v : Int} {L L' : mx_L} {st r : List Value} {P : mx_Pm} {h : mx_H} {s : mx_St} {Q : Option Value → mx_H → Prop} {x y w z u : Int32} {β κ : Nat → Nat} {C : Nat → Nat → Int32} {E : Nat → Nat → Nat} {ik tz : Nat} {tp : Nat → Nat} {σ : Nat → Int32} {sz : Nat → Nat} {cl : Nat → Nat → Int32}
theorem w7 {w : Nat} (h : w < 7) : w = 0 ∨ w = 1 ∨ w = 2 ∨ w = 3 ∨ w = 4 ∨ w = 5 ∨ w = 6 := by omega
theorem tsw_d {dd lo hi : Int} {offs : Array Int} {pc : Nat} {x : Int32} {n : Nat} (g : x < 0 ∨ nI n ≤ x) (hn : n < 2 ^ 31) (h1 : 0 ≤ lo ∧ hi < n) : mx_tsw dd lo hi offs pc x = mx_tg pc dd := by
  unfold mx_tsw
  rw [if_pos]
  rcases g with g | g
  · have := Int32.lt_iff_toInt_lt.mp g
    rw [show (0 : Int32).toInt = 0 by decide] at this
    exact Or.inl (by omega)
  · have := Int32.le_iff_toInt_le.mp g
    rw [nI_toInt hn] at this
    exact Or.inr (by omega)
theorem c_told (hd : 9 ≤ d) (H : HR P h s) (hl : 51 ≤ P.1) (A : CA P s β κ ik tp tz C E σ sz cl) (K : AOK P.2.1 β κ ik tp tz σ sz) (kk : ∀ h' s', HR P h' s' → CA P s' β κ ik tp tz C E σ sz cl → sf s s' cS → Q (some (.int (o_told β x y))) h') : wc d 80 [.ref 0, .int x, .int y] h Q := by
  have K4 := K.1.2.2.1
  have KK := K.1
  rcases rgc 7 (by decide) y with ⟨w, hw, rfl, e1⟩ | ⟨g, e1⟩
  ·
    refine q_iload_n (pc := 0) rfl rfl ?_
    first | refine n_ifne (pc := 1) rfl (by omega) (fun h1 => ?_) (fun h1 => ?_) | refine q_ifne (pc := 1) rfl (fun h1 => ?_) (fun h1 => ?_)
    · first
      | (exfalso; omega)
      | exact absurd h1 (nI_m1 (by omega))
      | exact absurd rfl h1
      | exact (rg_no g (by first | exact h1 | exact h1.symm) (by decide)).elim
      | skip
        refine q_iload_n (pc := 12) rfl rfl ?_
        refine q_iconst (pc := 13) rfl (nI 1) (by decide) ?_
        first | refine n_icmpne (pc := 14) rfl (by omega) (by omega) (fun h14 => ?_) (fun h14 => ?_) | refine q_icmpne (pc := 14) rfl (fun h14 => ?_) (fun h14 => ?_)
        · first
          | (exfalso; omega)
          | exact absurd h14 (nI_m1 (by omega))
          | exact absurd rfl h14
          | exact (rg_no g (by first | exact h14 | exact h14.symm) (by decide)).elim
          | skip
            refine q_iload_n (pc := 39) rfl rfl ?_
            refine q_iconst (pc := 40) rfl (nI 2) (by decide) ?_
            first | refine n_icmpne (pc := 41) rfl (by omega) (by omega) (fun h41 => ?_) (fun h41 => ?_) | refine q_icmpne (pc := 41) rfl (fun h41 => ?_) (fun h41 => ?_)
            · first
              | (exfalso; omega)
              | exact absurd h41 (nI_m1 (by omega))
              | exact absurd rfl h41
              | exact (rg_no g (by first | exact h41 | exact h41.symm) (by decide)).elim
              | skip
                refine q_aload_n (pc := 53) rfl rfl rfl ?_
                refine q_getf (pc := 54) rfl (by first | exact HR.B H hl isB1 A.1 | exact HR.X' H hl | exact HR.O H hl isB1 A.1 hp) rfl rfl ?_
                refine q_iload_n (pc := 57) rfl rfl ?_
                refine q_callV (pc := 58) _ rfl rfl rfl (by first | exact HR.B H hl isB1 A.1 | exact HR.X' H hl | exact HR.O H hl isB1 A.1 hp) rfl (Nat.le_of_ble_eq_true rfl) (by omega) _ rfl ?_
                refine c_member H hl isB1 A.1 (fun p hp hpβ hxp => ?_) (fun gp => ?_) K4
                · subst hxp
                  refine q_astore_n (pc := 61) [_, _, _, _] rfl rfl (Nat.le_of_ble_eq_true rfl) rfl ?_
                  refine q_aload_n (pc := 62) rfl rfl rfl ?_
                  refine q_ifnonnull (pc := 63) rfl ?_
                  refine q_iload_n (pc := 69) rfl rfl ?_
                  rcases w7 hw with rfl | rfl | rfl | rfl | rfl | rfl | rfl
                  · exfalso; omega
                  · exfalso; omega
                  · exfalso; omega
                  · refine q_tsw (pc := 70) (t := 100) rfl (by decide) ?_
                    refine q_aload_n (pc := 100) rfl rfl rfl ?_
                    refine q_getf (pc := 101) rfl (by first | exact HR.B H hl isB1 A.1 | exact HR.X' H hl | exact HR.O H hl isB1 A.1 hp) rfl rfl ?_
                    refine q_iret (pc := 104) rfl (rfl) ?_
                    refine eqQ ?_ (kk _ _ H A sf.rf)
                    simp (disch := first | omega | assumption) only [o_told, rg_in, rg_out, if_true, if_false, reduceIte]
                    (try all_goals ((repeat' split) <;> first | rfl | (exfalso; omega) | (congr 1; omega)))
                  · refine q_tsw (pc := 70) (t := 105) rfl (by decide) ?_
                    refine q_aload_n (pc := 105) rfl rfl rfl ?_
                    refine q_getf (pc := 106) rfl (by first | exact HR.B H hl isB1 A.1 | exact HR.X' H hl | exact HR.O H hl isB1 A.1 hp) rfl rfl ?_
                    refine q_iret (pc := 109) rfl (rfl) ?_
                    refine eqQ ?_ (kk _ _ H A sf.rf)
                    simp (disch := first | omega | assumption) only [o_told, rg_in, rg_out, if_true, if_false, reduceIte]
                    (try all_goals ((repeat' split) <;> first | rfl | (exfalso; omega) | (congr 1; omega)))
                  · refine q_tsw (pc := 70) (t := 110) rfl (by decide) ?_
                    refine q_aload_n (pc := 110) rfl rfl rfl ?_
                    refine q_getf (pc := 111) rfl (by first | exact HR.B H hl isB1 A.1 | exact HR.X' H hl | exact HR.O H hl isB1 A.1 hp) rfl rfl ?_
                    refine q_iret (pc := 114) rfl (rfl) ?_
                    refine eqQ ?_ (kk _ _ H A sf.rf)
                    simp (disch := first | omega | assumption) only [o_told, rg_in, rg_out, if_true, if_false, reduceIte]
                    (try all_goals ((repeat' split) <;> first | rfl | (exfalso; omega) | (congr 1; omega)))
                  · refine q_tsw (pc := 70) (t := 115) rfl (by decide) ?_
                    refine q_aload_n (pc := 115) rfl rfl rfl ?_
                    refine q_getf (pc := 116) rfl (by first | exact HR.B H hl isB1 A.1 | exact HR.X' H hl | exact HR.O H hl isB1 A.1 hp) rfl rfl ?_
                    refine q_iret (pc := 119) rfl (rfl) ?_
                    refine eqQ ?_ (kk _ _ H A sf.rf)
                    simp (disch := first | omega | assumption) only [o_told, rg_in, rg_out, if_true, if_false, reduceIte]
                    (try all_goals ((repeat' split) <;> first | rfl | (exfalso; omega) | (congr 1; omega)))
                · refine q_astore_n (pc := 61) [_, _, _, _] rfl rfl (Nat.le_of_ble_eq_true rfl) rfl ?_
                  refine q_aload_n (pc := 62) rfl rfl rfl ?_
                  refine q_ifnonnullN (pc := 63) rfl ?_
                  refine q_bipush (pc := 66) rfl (-2) (by decide) ?_
                  refine q_iret (pc := 68) rfl (rfl) ?_
                  refine eqQ ?_ (kk _ _ H A sf.rf)
                  simp (disch := first | omega | assumption) only [o_told, rg_in, rg_out, if_true, if_false, reduceIte]
                  (try all_goals ((repeat' split) <;> first | rfl | (exfalso; omega) | (congr 1; omega)))
            · first
              | (exfalso; omega)
              | exact absurd h41 (nI_m1 (by omega))
              | exact absurd rfl h41
              | exact (rg_no g (by first | exact h41 | exact h41.symm) (by decide)).elim
              | skip
                refine q_aload_n (pc := 44) rfl rfl rfl ?_
                refine q_getf (pc := 45) rfl (by first | exact HR.B H hl isB1 A.1 | exact HR.X' H hl | exact HR.O H hl isB1 A.1 hp) rfl rfl ?_
                refine q_iload_n (pc := 48) rfl rfl ?_
                refine q_callV (pc := 49) _ rfl rfl rfl (by first | exact HR.B H hl isB1 A.1 | exact HR.X' H hl | exact HR.O H hl isB1 A.1 hp) rfl (Nat.le_of_ble_eq_true rfl) (by omega) _ rfl ?_
                refine c_planOfX (by omega) H hl isB1 A.1 (fun c0 hc0 hx0 => ?_) (fun gc => ?_)
                · subst hx0
                  refine q_iret (pc := 52) rfl (rfl) ?_
                  refine eqQ ?_ (kk _ _ H A sf.rf)
                  simp (disch := first | omega | assumption) only [o_told, rg_in, rg_out, if_true, if_false, reduceIte]
                  (try all_goals ((repeat' split) <;> first | rfl | (exfalso; omega) | (congr 1; omega)))
                · refine q_iret (pc := 52) rfl (rfl) ?_
                  refine eqQ ?_ (kk _ _ H A sf.rf)
                  simp (disch := first | omega | assumption) only [o_told, rg_in, rg_out, if_true, if_false, reduceIte]
                  (try all_goals ((repeat' split) <;> first | rfl | (exfalso; omega) | (congr 1; omega)))
        · first
          | (exfalso; omega)
          | exact absurd h14 (nI_m1 (by omega))
          | exact absurd rfl h14
          | exact (rg_no g (by first | exact h14 | exact h14.symm) (by decide)).elim
          | skip
            refine q_iload_n (pc := 17) rfl rfl ?_
            refine q_callS (pc := 18) _ (by decide) rfl rfl rfl rfl (Nat.le_of_ble_eq_true rfl) (by omega) _ rfl ?_
            refine c_isCell (fun c0 hc0 hx0 => ?_) (fun gc => ?_)
            · subst hx0
              refine q_ifeq (pc := 21) rfl (fun z => absurd z (by decide)) (fun _ => ?_)
              refine q_aload_n (pc := 24) rfl rfl rfl ?_
              refine q_getf (pc := 25) rfl (by first | exact HR.B H hl isB1 A.1 | exact HR.X' H hl | exact HR.O H hl isB1 A.1 hp) rfl rfl ?_
              refine q_getf (pc := 28) rfl (by first | exact HR.B H hl isB1 A.1 | exact HR.X' H hl | exact HR.O H hl isB1 A.1 hp) rfl rfl ?_
              refine q_iload_n (pc := 31) rfl rfl ?_
              refine n_ild (pc := 32) rfl (by exact HR.am H hl isB1 A.1) rfl (by omega) (by omega) ?_
              refine q_goto (pc := 33) rfl ?_
              refine q_iret (pc := 38) rfl (rfl) ?_
              refine eqQ ?_ (kk _ _ H A sf.rf)
              simp (disch := first | omega | assumption) only [o_told, rg_in, rg_out, if_true, if_false, reduceIte]
              (try all_goals ((repeat' split) <;> first | rfl | (exfalso; omega) | (congr 1; omega)))
            · refine q_ifeq (pc := 21) rfl (fun _ => ?_) (fun z => absurd (by decide) z)
              refine q_bipush (pc := 36) rfl (-2) (by decide) ?_
              refine q_iret (pc := 38) rfl (rfl) ?_
              refine eqQ ?_ (kk _ _ H A sf.rf)
              simp (disch := first | omega | assumption) only [o_told, rg_in, rg_out, if_true, if_false, reduceIte]
              (try all_goals ((repeat' split) <;> first | rfl | (exfalso; omega) | (congr 1; omega)))
    · first
      | (exfalso; omega)
      | exact absurd h1 (nI_m1 (by omega))
      | exact absurd rfl h1
      | exact (rg_no g (by first | exact h1 | exact h1.symm) (by decide)).elim
      | skip
        refine q_aload_n (pc := 4) rfl rfl rfl ?_
        refine q_getf (pc := 5) rfl (by first | exact HR.B H hl isB1 A.1 | exact HR.X' H hl | exact HR.O H hl isB1 A.1 hp) rfl rfl ?_
        refine q_getf (pc := 8) rfl (by exact HR.B H hl isB1 A.1) rfl rfl ?_
        refine q_iret (pc := 11) rfl (rfl) ?_
        refine eqQ ?_ (kk _ _ H A sf.rf)
        simp (disch := first | omega | assumption) only [o_told, rg_in, rg_out, if_true, if_false, reduceIte]
        (try all_goals ((repeat' split) <;> first | rfl | (exfalso; omega) | (congr 1; omega)))
  ·
    refine q_iload_n (pc := 0) rfl rfl ?_
    first | refine n_ifne (pc := 1) rfl (by omega) (fun h1 => ?_) (fun h1 => ?_) | refine q_ifne (pc := 1) rfl (fun h1 => ?_) (fun h1 => ?_)
    · first
      | (exfalso; omega)
      | exact absurd h1 (nI_m1 (by omega))
      | exact absurd rfl h1
      | exact (rg_no g (by first | exact h1 | exact h1.symm) (by decide)).elim
      | skip
        refine q_iload_n (pc := 12) rfl rfl ?_
        refine q_iconst (pc := 13) rfl (nI 1) (by decide) ?_
        first | refine n_icmpne (pc := 14) rfl (by omega) (by omega) (fun h14 => ?_) (fun h14 => ?_) | refine q_icmpne (pc := 14) rfl (fun h14 => ?_) (fun h14 => ?_)
        · first
          | (exfalso; omega)
          | exact absurd h14 (nI_m1 (by omega))
          | exact absurd rfl h14
          | exact (rg_no g (by first | exact h14 | exact h14.symm) (by decide)).elim
          | skip
            refine q_iload_n (pc := 39) rfl rfl ?_
            refine q_iconst (pc := 40) rfl (nI 2) (by decide) ?_
            first | refine n_icmpne (pc := 41) rfl (by omega) (by omega) (fun h41 => ?_) (fun h41 => ?_) | refine q_icmpne (pc := 41) rfl (fun h41 => ?_) (fun h41 => ?_)
            · first
              | (exfalso; omega)
              | exact absurd h41 (nI_m1 (by omega))
              | exact absurd rfl h41
              | exact (rg_no g (by first | exact h41 | exact h41.symm) (by decide)).elim
              | skip
                refine q_aload_n (pc := 53) rfl rfl rfl ?_
                refine q_getf (pc := 54) rfl (by first | exact HR.B H hl isB1 A.1 | exact HR.X' H hl | exact HR.O H hl isB1 A.1 hp) rfl rfl ?_
                refine q_iload_n (pc := 57) rfl rfl ?_
                refine q_callV (pc := 58) _ rfl rfl rfl (by first | exact HR.B H hl isB1 A.1 | exact HR.X' H hl | exact HR.O H hl isB1 A.1 hp) rfl (Nat.le_of_ble_eq_true rfl) (by omega) _ rfl ?_
                refine c_member H hl isB1 A.1 (fun p hp hpβ hxp => ?_) (fun gp => ?_) K4
                · subst hxp
                  refine q_astore_n (pc := 61) [_, _, _, _] rfl rfl (Nat.le_of_ble_eq_true rfl) rfl ?_
                  refine q_aload_n (pc := 62) rfl rfl rfl ?_
                  refine q_ifnonnull (pc := 63) rfl ?_
                  refine q_iload_n (pc := 69) rfl rfl ?_
                  skip
                  · refine q_tsw (pc := 70) (t := 120) rfl ((tsw_d g (by decide) (by decide)).trans rfl) ?_
                    refine q_bipush (pc := 120) rfl (-2) (by decide) ?_
                    refine q_iret (pc := 122) rfl (rfl) ?_
                    refine eqQ ?_ (kk _ _ H A sf.rf)
                    simp (disch := first | omega | assumption) only [o_told, rg_in, rg_out, if_true, if_false, reduceIte]
                    (try all_goals ((repeat' split) <;> first | rfl | (exfalso; omega) | (congr 1; omega)))
                · refine q_astore_n (pc := 61) [_, _, _, _] rfl rfl (Nat.le_of_ble_eq_true rfl) rfl ?_
                  refine q_aload_n (pc := 62) rfl rfl rfl ?_
                  refine q_ifnonnullN (pc := 63) rfl ?_
                  refine q_bipush (pc := 66) rfl (-2) (by decide) ?_
                  refine q_iret (pc := 68) rfl (rfl) ?_
                  refine eqQ ?_ (kk _ _ H A sf.rf)
                  simp (disch := first | omega | assumption) only [o_told, rg_in, rg_out, if_true, if_false, reduceIte]
                  (try all_goals ((repeat' split) <;> first | rfl | (exfalso; omega) | (congr 1; omega)))
            · first
              | (exfalso; omega)
              | exact absurd h41 (nI_m1 (by omega))
              | exact absurd rfl h41
              | exact (rg_no g (by first | exact h41 | exact h41.symm) (by decide)).elim
              | skip
                refine q_aload_n (pc := 44) rfl rfl rfl ?_
                refine q_getf (pc := 45) rfl (by first | exact HR.B H hl isB1 A.1 | exact HR.X' H hl | exact HR.O H hl isB1 A.1 hp) rfl rfl ?_
                refine q_iload_n (pc := 48) rfl rfl ?_
                refine q_callV (pc := 49) _ rfl rfl rfl (by first | exact HR.B H hl isB1 A.1 | exact HR.X' H hl | exact HR.O H hl isB1 A.1 hp) rfl (Nat.le_of_ble_eq_true rfl) (by omega) _ rfl ?_
                refine c_planOfX (by omega) H hl isB1 A.1 (fun c0 hc0 hx0 => ?_) (fun gc => ?_)
                · subst hx0
                  refine q_iret (pc := 52) rfl (rfl) ?_
                  refine eqQ ?_ (kk _ _ H A sf.rf)
                  simp (disch := first | omega | assumption) only [o_told, rg_in, rg_out, if_true, if_false, reduceIte]
                  (try all_goals ((repeat' split) <;> first | rfl | (exfalso; omega) | (congr 1; omega)))
                · refine q_iret (pc := 52) rfl (rfl) ?_
                  refine eqQ ?_ (kk _ _ H A sf.rf)
                  simp (disch := first | omega | assumption) only [o_told, rg_in, rg_out, if_true, if_false, reduceIte]
                  (try all_goals ((repeat' split) <;> first | rfl | (exfalso; omega) | (congr 1; omega)))
        · first
          | (exfalso; omega)
          | exact absurd h14 (nI_m1 (by omega))
          | exact absurd rfl h14
          | exact (rg_no g (by first | exact h14 | exact h14.symm) (by decide)).elim
          | skip
            refine q_iload_n (pc := 17) rfl rfl ?_
            refine q_callS (pc := 18) _ (by decide) rfl rfl rfl rfl (Nat.le_of_ble_eq_true rfl) (by omega) _ rfl ?_
            refine c_isCell (fun c0 hc0 hx0 => ?_) (fun gc => ?_)
            · subst hx0
              refine q_ifeq (pc := 21) rfl (fun z => absurd z (by decide)) (fun _ => ?_)
              refine q_aload_n (pc := 24) rfl rfl rfl ?_
              refine q_getf (pc := 25) rfl (by first | exact HR.B H hl isB1 A.1 | exact HR.X' H hl | exact HR.O H hl isB1 A.1 hp) rfl rfl ?_
              refine q_getf (pc := 28) rfl (by first | exact HR.B H hl isB1 A.1 | exact HR.X' H hl | exact HR.O H hl isB1 A.1 hp) rfl rfl ?_
              refine q_iload_n (pc := 31) rfl rfl ?_
              refine n_ild (pc := 32) rfl (by exact HR.am H hl isB1 A.1) rfl (by omega) (by omega) ?_
              refine q_goto (pc := 33) rfl ?_
              refine q_iret (pc := 38) rfl (rfl) ?_
              refine eqQ ?_ (kk _ _ H A sf.rf)
              simp (disch := first | omega | assumption) only [o_told, rg_in, rg_out, if_true, if_false, reduceIte]
              (try all_goals ((repeat' split) <;> first | rfl | (exfalso; omega) | (congr 1; omega)))
            · refine q_ifeq (pc := 21) rfl (fun _ => ?_) (fun z => absurd (by decide) z)
              refine q_bipush (pc := 36) rfl (-2) (by decide) ?_
              refine q_iret (pc := 38) rfl (rfl) ?_
              refine eqQ ?_ (kk _ _ H A sf.rf)
              simp (disch := first | omega | assumption) only [o_told, rg_in, rg_out, if_true, if_false, reduceIte]
              (try all_goals ((repeat' split) <;> first | rfl | (exfalso; omega) | (congr 1; omega)))
    · first
      | (exfalso; omega)
      | exact absurd h1 (nI_m1 (by omega))
      | exact absurd rfl h1
      | exact (rg_no g (by first | exact h1 | exact h1.symm) (by decide)).elim
      | skip
        refine q_aload_n (pc := 4) rfl rfl rfl ?_
        refine q_getf (pc := 5) rfl (by first | exact HR.B H hl isB1 A.1 | exact HR.X' H hl | exact HR.O H hl isB1 A.1 hp) rfl rfl ?_
        refine q_getf (pc := 8) rfl (by exact HR.B H hl isB1 A.1) rfl rfl ?_
        refine q_iret (pc := 11) rfl (rfl) ?_
        refine eqQ ?_ (kk _ _ H A sf.rf)
        simp (disch := first | omega | assumption) only [o_told, rg_in, rg_out, if_true, if_false, reduceIte]
        (try all_goals ((repeat' split) <;> first | rfl | (exfalso; omega) | (congr 1; omega)))
end P28
