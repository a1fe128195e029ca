/-! ===== the class's calls: run, count, image, back, feed, taken ===== -/
section P32
variable {d k pc a i j c p b t n m part q : Nat} {v : Int} {L L' : mx_L} {st r : List Value} {P : mx_Pm} {h : mx_H} {s : mx_St} {Q : Option Value → mx_H → Prop} {x y w z u : Int32} {β κ : Nat → Nat} {C : Nat → Nat → Int32} {E : Nat → Nat → Nat} {ik tz : Nat} {tp : Nat → Nat} {σ : Nat → Int32} {sz : Nat → Nat} {cl : Nat → Nat → Int32}
def o_run (C : Nat → Nat → Int32) (E : Nat → Nat → Nat) (β : Nat → Nat) (x y z : Int32) : Int32 := if rg (β 88) x < β 88 ∧ rg 1000 y < 1000 then (if rg 4 z = 0 then nI (ngtF C E β (rg (β 88) x) (rg 1000 y)).2.1 else if rg 4 z = 1 then nI (ngtF C E β (rg (β 88) x) (rg 1000 y)).2.2 else if rg 4 z = 2 then nI (popN (wbs (ngtF C E β (rg (β 88) x) (rg 1000 y)).1)) else if rg 4 z = 3 then nI ((ngtF C E β (rg (β 88) x) (rg 1000 y)).1 (72 + 4 * rg (β 88) x + 2)) else -2) else -2
theorem th9 {P : mx_Pm} {s s' : mx_St} {S : Nat → Prop} (A : CA P s β κ ik tp tz C E σ sz cl) (f : sf s s' S) (hS : ∀ i, S i → (9 ≤ i ∧ i < 17) ∨ (33 ≤ i ∧ i < 42)) : CA P s' β κ ik tp tz C E σ sz cl ∧ sf s s' cS := ⟨A.fr f (fun i g => by have := hS i g; omega), f.mono (fun i g => Or.inl (by have := hS i g; omega))⟩
theorem c_run (hd : 20 ≤ d) (H : HR P h s) (hl : 51 ≤ P.1) (A : CA P s β κ ik tp tz C E σ sz cl) (K : AOK P.2.1 β κ ik tp tz σ sz) (kk : ∀ h' s', HR P h' s' → CA P s' β κ ik tp tz C E σ sz cl → sf s s' cS → Q (some (.int (o_run C E β x y z))) h') : wc d 88 [.ref 0, .int x, .int y, .int z] h Q := by
  have K4 := K.1.2.2.1
  have KK := K.1
  have K0 : 0 < P.2.1 := by have := K.1.2.2.2.2; omega
  have hT := A.2.2.2.2.2.1
  have hT6 := hT.2.1
  rcases rgc 1000 (by decide) y with ⟨w, hw, rfl, z1⟩ | ⟨g, z1⟩
  ·
    refine wc.go [_, _, _, _, _] rfl ?_
    refine q_aload_n (pc := 0) rfl rfl rfl ?_
    refine q_getf (pc := 1) rfl (by first | exact HR.X' H hl | exact HR.B H hl isB9 hβ | exact HR.O H hl isB9 hβ hp | exact HR.B H hl isB1 A.1 | exact HR.R H hl A.2.2.2.2.2.1.1 | exact HR.O H hl isB1 A.1 hp | exact HR.c H hl _ rfl) rfl rfl ?_
    refine q_aload_n (pc := 4) rfl rfl rfl ?_
    refine q_getf (pc := 5) rfl (by first | exact HR.X' H hl | exact HR.B H hl isB9 hβ | exact HR.O H hl isB9 hβ hp | exact HR.B H hl isB1 A.1 | exact HR.R H hl A.2.2.2.2.2.1.1 | exact HR.O H hl isB1 A.1 hp | exact HR.c H hl _ rfl) rfl rfl ?_
    refine q_callV (pc := 8) _ rfl rfl rfl (by first | exact HR.X' H hl | exact HR.B H hl isB9 hβ | exact HR.O H hl isB9 hβ hp | exact HR.B H hl isB1 A.1 | exact HR.R H hl A.2.2.2.2.2.1.1 | exact HR.O H hl isB1 A.1 hp | exact HR.c H hl _ rfl) rfl (Nat.le_of_ble_eq_true rfl) (by omega) _ rfl ?_
    refine c_become (by omega) hl H isB9 isB1 (by decide) A.1 ?_
    intro h s1 H hβ k0
    obtain ⟨A, k1⟩ := th9 A k0 (fun i g => Or.inl (by omega))
    have hT := A.2.2.2.2.2.1
    refine q_aload_n (pc := 11) rfl rfl rfl ?_
    refine q_getf (pc := 12) rfl (by first | exact HR.X' H hl | exact HR.B H hl isB9 hβ | exact HR.O H hl isB9 hβ hp | exact HR.B H hl isB1 A.1 | exact HR.R H hl A.2.2.2.2.2.1.1 | exact HR.O H hl isB1 A.1 hp | exact HR.c H hl _ rfl) rfl rfl ?_
    refine q_iload_n (pc := 15) rfl rfl ?_
    refine q_callV (pc := 16) _ rfl rfl rfl (by first | exact HR.X' H hl | exact HR.B H hl isB9 hβ | exact HR.O H hl isB9 hβ hp | exact HR.B H hl isB1 A.1 | exact HR.R H hl A.2.2.2.2.2.1.1 | exact HR.O H hl isB1 A.1 hp | exact HR.c H hl _ rfl) rfl (Nat.le_of_ble_eq_true rfl) (by omega) _ rfl ?_
    refine c_member H hl isB9 hβ (fun p hp hpβ hxp => ?_) (fun gp => ?_) K4
    · subst hxp
      have zp : Hd (rg (β 88) (nI p) = p) := rg_in hpβ (by omega)
      refine q_astore (pc := 19) [_, _, _, _, _] rfl rfl (Nat.le_of_ble_eq_true rfl) rfl ?_
      refine q_aload (pc := 21) rfl rfl rfl ?_
      refine q_ifnull (pc := 23) rfl ?_
      refine q_iload_n (pc := 26) rfl rfl ?_
      refine q_iflt (pc := 27) rfl (fun h27 => ?_) (fun h27 => ?_)
      · first | (exfalso; omega) | exact absurd h27 (nI_pos (by omega)) | exact absurd (nI_pos' (by omega)) h27
      · refine q_iload_n (pc := 30) rfl rfl ?_
        refine q_sipush (pc := 31) rfl (nI 999) (by decide) ?_
        first | refine n_icmple (pc := 34) rfl (by omega) (by omega) (fun h34 => ?_) (fun h34 => ?_) | refine q_icmple (pc := 34) rfl (fun h34 => ?_) (fun h34 => ?_)
        · refine q_aload_n (pc := 40) rfl rfl rfl ?_
          refine q_getf (pc := 41) rfl (by first | exact HR.X' H hl | exact HR.B H hl isB9 hβ | exact HR.O H hl isB9 hβ hp | exact HR.B H hl isB1 A.1 | exact HR.R H hl A.2.2.2.2.2.1.1 | exact HR.O H hl isB1 A.1 hp | exact HR.c H hl _ rfl) rfl rfl ?_
          refine q_aload_n (pc := 44) rfl rfl rfl ?_
          refine q_getf (pc := 45) rfl (by first | exact HR.X' H hl | exact HR.B H hl isB9 hβ | exact HR.O H hl isB9 hβ hp | exact HR.B H hl isB1 A.1 | exact HR.R H hl A.2.2.2.2.2.1.1 | exact HR.O H hl isB1 A.1 hp | exact HR.c H hl _ rfl) rfl rfl ?_
          refine q_aload (pc := 48) rfl rfl rfl ?_
          refine q_aload_n (pc := 50) rfl rfl rfl ?_
          refine q_getf (pc := 51) rfl (by first | exact HR.X' H hl | exact HR.B H hl isB9 hβ | exact HR.O H hl isB9 hβ hp | exact HR.B H hl isB1 A.1 | exact HR.R H hl A.2.2.2.2.2.1.1 | exact HR.O H hl isB1 A.1 hp | exact HR.c H hl _ rfl) rfl rfl ?_
          refine q_iload_n (pc := 54) rfl rfl ?_
          refine q_callV (pc := 55) _ rfl rfl rfl (by first | exact HR.X' H hl | exact HR.B H hl isB9 hβ | exact HR.O H hl isB9 hβ hp | exact HR.B H hl isB1 A.1 | exact HR.R H hl A.2.2.2.2.2.1.1 | exact HR.O H hl isB1 A.1 hp | exact HR.c H hl _ rfl) rfl (Nat.le_of_ble_eq_true rfl) (by omega) _ rfl ?_
          refine c_pass (by omega) H hl isB9 hβ hT KK hp (show w ≤ 999 by omega) ?_
          intro h s2 H hβ hT bk _ _ e0 e1 k2
          obtain ⟨A, k3⟩ := th9 A k2 (fun i g => by omega)
          refine q_iload_n (pc := 58) rfl rfl ?_
          rcases rgc 4 (by decide) z with ⟨w4, hw4, rfl, zw⟩ | ⟨g, zw⟩
          rcases (show w4 = 0 ∨ w4 = 1 ∨ w4 = 2 ∨ w4 = 3 by omega) with rfl | rfl | rfl | rfl
          · refine q_tsw (pc := 59) (t := 88) rfl (by decide) ?_
            refine q_aload_n (pc := 88) rfl rfl rfl ?_
            refine q_getf (pc := 89) rfl (by first | exact HR.X' H hl | exact HR.B H hl isB9 hβ | exact HR.O H hl isB9 hβ hp | exact HR.B H hl isB1 A.1 | exact HR.R H hl A.2.2.2.2.2.1.1 | exact HR.O H hl isB1 A.1 hp | exact HR.c H hl _ rfl) rfl rfl ?_
            refine q_getf (pc := 92) rfl (by first | exact HR.X' H hl | exact HR.B H hl isB9 hβ | exact HR.O H hl isB9 hβ hp | exact HR.B H hl isB1 A.1 | exact HR.R H hl A.2.2.2.2.2.1.1 | exact HR.O H hl isB1 A.1 hp | exact HR.c H hl _ rfl) rfl rfl ?_
            rw [e0]
            refine q_iret (pc := 95) rfl (rfl) ?_
            refine eqQ ?_ (kk _ _ H A (k1.tr k3))
            unfold o_run
            rw [zp.out, z1.out, if_pos (by omega), zw.out]
            rfl
          · refine q_tsw (pc := 59) (t := 96) rfl (by decide) ?_
            refine q_aload_n (pc := 96) rfl rfl rfl ?_
            refine q_getf (pc := 97) rfl (by first | exact HR.X' H hl | exact HR.B H hl isB9 hβ | exact HR.O H hl isB9 hβ hp | exact HR.B H hl isB1 A.1 | exact HR.R H hl A.2.2.2.2.2.1.1 | exact HR.O H hl isB1 A.1 hp | exact HR.c H hl _ rfl) rfl rfl ?_
            refine q_getf (pc := 100) rfl (by first | exact HR.X' H hl | exact HR.B H hl isB9 hβ | exact HR.O H hl isB9 hβ hp | exact HR.B H hl isB1 A.1 | exact HR.R H hl A.2.2.2.2.2.1.1 | exact HR.O H hl isB1 A.1 hp | exact HR.c H hl _ rfl) rfl rfl ?_
            rw [e1]
            refine q_iret (pc := 103) rfl (rfl) ?_
            refine eqQ ?_ (kk _ _ H A (k1.tr k3))
            unfold o_run
            rw [zp.out, z1.out, if_pos (by omega), zw.out]
            rfl
          · refine q_tsw (pc := 59) (t := 104) rfl (by decide) ?_
            refine q_aload_n (pc := 104) rfl rfl rfl ?_
            refine q_getf (pc := 105) rfl (by first | exact HR.X' H hl | exact HR.B H hl isB9 hβ | exact HR.O H hl isB9 hβ hp | exact HR.B H hl isB1 A.1 | exact HR.R H hl A.2.2.2.2.2.1.1 | exact HR.O H hl isB1 A.1 hp | exact HR.c H hl _ rfl) rfl rfl ?_
            refine q_callV (pc := 108) _ rfl rfl rfl (by first | exact HR.X' H hl | exact HR.B H hl isB9 hβ | exact HR.O H hl isB9 hβ hp | exact HR.B H hl isB1 A.1 | exact HR.R H hl A.2.2.2.2.2.1.1 | exact HR.O H hl isB1 A.1 hp | exact HR.c H hl _ rfl) rfl (Nat.le_of_ble_eq_true rfl) (by omega) _ rfl ?_
            refine c_wrongCells (by omega) H hl isB9 hβ bk.1 ?_
            refine q_iret (pc := 111) rfl (rfl) ?_
            refine eqQ ?_ (kk _ _ H A (k1.tr k3))
            unfold o_run
            rw [zp.out, z1.out, if_pos (by omega), zw.out]
            rfl
          · refine q_tsw (pc := 59) (t := 112) rfl (by decide) ?_
            refine q_aload (pc := 112) rfl rfl rfl ?_
            refine q_getf (pc := 114) rfl (by first | exact HR.X' H hl | exact HR.B H hl isB9 hβ | exact HR.O H hl isB9 hβ hp | exact HR.B H hl isB1 A.1 | exact HR.R H hl A.2.2.2.2.2.1.1 | exact HR.O H hl isB1 A.1 hp | exact HR.c H hl _ rfl) rfl rfl ?_
            refine q_iret (pc := 117) rfl (rfl) ?_
            refine eqQ ?_ (kk _ _ H A (k1.tr k3))
            unfold o_run
            rw [zp.out, z1.out, if_pos (by omega), zw.out]
            rfl
          · refine q_tsw (pc := 59) (t := 118) rfl ((tsw_d g (by decide) (by decide)).trans rfl) ?_
            refine q_bipush (pc := 118) rfl (-2) (by decide) ?_
            refine q_iret (pc := 120) rfl (rfl) ?_
            refine eqQ ?_ (kk _ _ H A (k1.tr k3))
            unfold o_run
            rw [zp.out, z1.out, if_pos (by omega), zw.out]
            rfl
        · first | (exfalso; omega) | exact absurd h34 (nI_pos (by omega)) | exact absurd (nI_pos' (by omega)) h34
    · have zp : Hd (rg (β 88) x = β 88) := rg_out gp
      refine q_astore (pc := 19) [_, _, _, _, _] rfl rfl (Nat.le_of_ble_eq_true rfl) rfl ?_
      refine q_aload (pc := 21) rfl rfl rfl ?_
      refine q_ifnullN (pc := 23) rfl ?_
      refine q_bipush (pc := 37) rfl (-2) (by decide) ?_
      refine q_iret (pc := 39) rfl (rfl) ?_
      refine eqQ ?_ (kk _ _ H A k1)
      unfold o_run
      rw [zp.out, if_neg (by omega)]
  ·
    refine wc.go [_, _, _, _, _] rfl ?_
    refine q_aload_n (pc := 0) rfl rfl rfl ?_
    refine q_getf (pc := 1) rfl (by first | exact HR.X' H hl | exact HR.B H hl isB9 hβ | exact HR.O H hl isB9 hβ hp | exact HR.B H hl isB1 A.1 | exact HR.R H hl A.2.2.2.2.2.1.1 | exact HR.O H hl isB1 A.1 hp | exact HR.c H hl _ rfl) rfl rfl ?_
    refine q_aload_n (pc := 4) rfl rfl rfl ?_
    refine q_getf (pc := 5) rfl (by first | exact HR.X' H hl | exact HR.B H hl isB9 hβ | exact HR.O H hl isB9 hβ hp | exact HR.B H hl isB1 A.1 | exact HR.R H hl A.2.2.2.2.2.1.1 | exact HR.O H hl isB1 A.1 hp | exact HR.c H hl _ rfl) rfl rfl ?_
    refine q_callV (pc := 8) _ rfl rfl rfl (by first | exact HR.X' H hl | exact HR.B H hl isB9 hβ | exact HR.O H hl isB9 hβ hp | exact HR.B H hl isB1 A.1 | exact HR.R H hl A.2.2.2.2.2.1.1 | exact HR.O H hl isB1 A.1 hp | exact HR.c H hl _ rfl) rfl (Nat.le_of_ble_eq_true rfl) (by omega) _ rfl ?_
    refine c_become (by omega) hl H isB9 isB1 (by decide) A.1 ?_
    intro h s1 H hβ k0
    obtain ⟨A, k1⟩ := th9 A k0 (fun i g => Or.inl (by omega))
    have hT := A.2.2.2.2.2.1
    refine q_aload_n (pc := 11) rfl rfl rfl ?_
    refine q_getf (pc := 12) rfl (by first | exact HR.X' H hl | exact HR.B H hl isB9 hβ | exact HR.O H hl isB9 hβ hp | exact HR.B H hl isB1 A.1 | exact HR.R H hl A.2.2.2.2.2.1.1 | exact HR.O H hl isB1 A.1 hp | exact HR.c H hl _ rfl) rfl rfl ?_
    refine q_iload_n (pc := 15) rfl rfl ?_
    refine q_callV (pc := 16) _ rfl rfl rfl (by first | exact HR.X' H hl | exact HR.B H hl isB9 hβ | exact HR.O H hl isB9 hβ hp | exact HR.B H hl isB1 A.1 | exact HR.R H hl A.2.2.2.2.2.1.1 | exact HR.O H hl isB1 A.1 hp | exact HR.c H hl _ rfl) rfl (Nat.le_of_ble_eq_true rfl) (by omega) _ rfl ?_
    refine c_member H hl isB9 hβ (fun p hp hpβ hxp => ?_) (fun gp => ?_) K4
    · subst hxp
      have zp : Hd (rg (β 88) (nI p) = p) := rg_in hpβ (by omega)
      refine q_astore (pc := 19) [_, _, _, _, _] rfl rfl (Nat.le_of_ble_eq_true rfl) rfl ?_
      refine q_aload (pc := 21) rfl rfl rfl ?_
      refine q_ifnull (pc := 23) rfl ?_
      refine q_iload_n (pc := 26) rfl rfl ?_
      refine q_iflt (pc := 27) rfl (fun h27 => ?_) (fun h27 => ?_)
      · first
        | (exfalso; omega (config := {splitDisjunctions := false}))
        | skip
          refine q_bipush (pc := 37) rfl (-2) (by decide) ?_
          refine q_iret (pc := 39) rfl (rfl) ?_
          refine eqQ ?_ (kk _ _ H A k1)
          unfold o_run
          rw [z1.out, if_neg (by omega)]
      · first
        | (exfalso; omega (config := {splitDisjunctions := false}))
        | skip
          refine q_iload_n (pc := 30) rfl rfl ?_
          refine q_sipush (pc := 31) rfl (nI 999) (by decide) ?_
          refine q_icmple (pc := 34) rfl (fun h34 => ?_) (fun h34 => ?_)
          · exact (z_out (m := 1000) g h27 h34 (by decide)).elim
          · first
            | (exfalso; omega (config := {splitDisjunctions := false}))
            | skip
              refine q_bipush (pc := 37) rfl (-2) (by decide) ?_
              refine q_iret (pc := 39) rfl (rfl) ?_
              refine eqQ ?_ (kk _ _ H A k1)
              unfold o_run
              rw [z1.out, if_neg (by omega)]
    · have zp : Hd (rg (β 88) x = β 88) := rg_out gp
      refine q_astore (pc := 19) [_, _, _, _, _] rfl rfl (Nat.le_of_ble_eq_true rfl) rfl ?_
      refine q_aload (pc := 21) rfl rfl rfl ?_
      refine q_ifnullN (pc := 23) rfl ?_
      refine q_bipush (pc := 37) rfl (-2) (by decide) ?_
      refine q_iret (pc := 39) rfl (rfl) ?_
      refine eqQ ?_ (kk _ _ H A k1)
      unfold o_run
      rw [z1.out, if_neg (by omega)]
def o_count (n tz : Nat) (β : Nat → Nat) (x : Int32) : Int32 := if rg 6 x = 0 then nI (β 88) else if rg 6 x = 1 then nI (popN (wbs β)) else if rg 6 x = 2 then nI (β 89) else if rg 6 x = 3 then nI n else if rg 6 x = 4 then nI tz else if rg 6 x = 5 then nI (β 90) else -2
theorem c_count (hd : 20 ≤ d) (H : HR P h s) (hl : 51 ≤ P.1) (A : CA P s β κ ik tp tz C E σ sz cl) (K : AOK P.2.1 β κ ik tp tz σ sz) (kk : ∀ h' s', HR P h' s' → CA P s' β κ ik tp tz C E σ sz cl → sf s s' cS → Q (some (.int (o_count P.2.1 tz β x))) h') : wc d 118 [.ref 0, .int x] h Q := by
  have K4 := K.1.2.2.1
  have KK := K.1
  have K0 : 0 < P.2.1 := by have := K.1.2.2.2.2; omega
  have hT := A.2.2.2.2.2.1
  have hT6 := hT.2.1
  refine wc.go [_, _] rfl ?_
  refine q_iload_n (pc := 0) rfl rfl ?_
  rcases rgc 6 (by decide) x with ⟨w, hw, rfl, z1⟩ | ⟨g, z1⟩
  rcases p6 hw with rfl | rfl | rfl | rfl | rfl | rfl
  · refine q_tsw (pc := 1) (t := 40) rfl (by decide) ?_
    refine q_aload_n (pc := 40) rfl rfl rfl ?_
    refine q_getf (pc := 41) rfl (by first | exact HR.X' H hl | exact HR.B H hl isB1 A.1 | exact HR.R H hl A.2.2.2.2.2.1.1 | exact HR.O H hl isB1 A.1 hp | exact HR.c H hl _ rfl) rfl rfl ?_
    refine q_getf (pc := 44) rfl (by first | exact HR.X' H hl | exact HR.B H hl isB1 A.1 | exact HR.R H hl A.2.2.2.2.2.1.1 | exact HR.O H hl isB1 A.1 hp | exact HR.c H hl _ rfl) rfl rfl ?_
    refine q_iret (pc := 47) rfl (rfl) ?_
    refine eqQ ?_ (kk _ _ H A sf.rf)
    unfold o_count
    rw [z1.out]
    rfl
  · refine q_tsw (pc := 1) (t := 48) rfl (by decide) ?_
    refine q_aload_n (pc := 48) rfl rfl rfl ?_
    refine q_getf (pc := 49) rfl (by first | exact HR.X' H hl | exact HR.B H hl isB1 A.1 | exact HR.R H hl A.2.2.2.2.2.1.1 | exact HR.O H hl isB1 A.1 hp | exact HR.c H hl _ rfl) rfl rfl ?_
    refine q_callV (pc := 52) _ rfl rfl rfl (by first | exact HR.X' H hl | exact HR.B H hl isB1 A.1 | exact HR.R H hl A.2.2.2.2.2.1.1 | exact HR.O H hl isB1 A.1 hp | exact HR.c H hl _ rfl) rfl (Nat.le_of_ble_eq_true rfl) (by omega) _ rfl ?_
    refine c_wrongCells (by omega) H hl isB1 A.1 KK.1 ?_
    refine q_iret (pc := 55) rfl (rfl) ?_
    refine eqQ ?_ (kk _ _ H A sf.rf)
    unfold o_count
    rw [z1.out]
    rfl
  · refine q_tsw (pc := 1) (t := 56) rfl (by decide) ?_
    refine q_aload_n (pc := 56) rfl rfl rfl ?_
    refine q_getf (pc := 57) rfl (by first | exact HR.X' H hl | exact HR.B H hl isB1 A.1 | exact HR.R H hl A.2.2.2.2.2.1.1 | exact HR.O H hl isB1 A.1 hp | exact HR.c H hl _ rfl) rfl rfl ?_
    refine q_getf (pc := 60) rfl (by first | exact HR.X' H hl | exact HR.B H hl isB1 A.1 | exact HR.R H hl A.2.2.2.2.2.1.1 | exact HR.O H hl isB1 A.1 hp | exact HR.c H hl _ rfl) rfl rfl ?_
    refine q_iret (pc := 63) rfl (rfl) ?_
    refine eqQ ?_ (kk _ _ H A sf.rf)
    unfold o_count
    rw [z1.out]
    rfl
  · refine q_tsw (pc := 1) (t := 64) rfl (by decide) ?_
    refine q_aload_n (pc := 64) rfl rfl rfl ?_
    refine q_getf (pc := 65) rfl (by first | exact HR.X' H hl | exact HR.B H hl isB1 A.1 | exact HR.R H hl A.2.2.2.2.2.1.1 | exact HR.O H hl isB1 A.1 hp | exact HR.c H hl _ rfl) rfl rfl ?_
    refine q_getf (pc := 68) rfl (by first | exact HR.X' H hl | exact HR.B H hl isB1 A.1 | exact HR.R H hl A.2.2.2.2.2.1.1 | exact HR.O H hl isB1 A.1 hp | exact HR.c H hl _ rfl) rfl rfl ?_
    refine q_iret (pc := 71) rfl (rfl) ?_
    refine eqQ ?_ (kk _ _ H A sf.rf)
    unfold o_count
    rw [z1.out]
    rfl
  · refine q_tsw (pc := 1) (t := 72) rfl (by decide) ?_
    refine q_aload_n (pc := 72) rfl rfl rfl ?_
    refine q_getf (pc := 73) rfl (by first | exact HR.X' H hl | exact HR.B H hl isB1 A.1 | exact HR.R H hl A.2.2.2.2.2.1.1 | exact HR.O H hl isB1 A.1 hp | exact HR.c H hl _ rfl) rfl rfl ?_
    refine q_getf (pc := 76) rfl (by first | exact HR.X' H hl | exact HR.B H hl isB1 A.1 | exact HR.R H hl A.2.2.2.2.2.1.1 | exact HR.O H hl isB1 A.1 hp | exact HR.c H hl _ rfl) rfl rfl ?_
    rw [A.2.2.2.2.1]
    refine q_iret (pc := 79) rfl (rfl) ?_
    refine eqQ ?_ (kk _ _ H A sf.rf)
    unfold o_count
    rw [z1.out]
    rfl
  · refine q_tsw (pc := 1) (t := 80) rfl (by decide) ?_
    refine q_aload_n (pc := 80) rfl rfl rfl ?_
    refine q_getf (pc := 81) rfl (by first | exact HR.X' H hl | exact HR.B H hl isB1 A.1 | exact HR.R H hl A.2.2.2.2.2.1.1 | exact HR.O H hl isB1 A.1 hp | exact HR.c H hl _ rfl) rfl rfl ?_
    refine q_getf (pc := 84) rfl (by first | exact HR.X' H hl | exact HR.B H hl isB1 A.1 | exact HR.R H hl A.2.2.2.2.2.1.1 | exact HR.O H hl isB1 A.1 hp | exact HR.c H hl _ rfl) rfl rfl ?_
    refine q_iret (pc := 87) rfl (rfl) ?_
    refine eqQ ?_ (kk _ _ H A sf.rf)
    unfold o_count
    rw [z1.out]
    rfl
  · refine q_tsw (pc := 1) (t := 88) rfl ((tsw_d g (by decide) (by decide)).trans rfl) ?_
    refine q_bipush (pc := 88) rfl (-2) (by decide) ?_
    refine q_iret (pc := 90) rfl (rfl) ?_
    refine eqQ ?_ (kk _ _ H A sf.rf)
    unfold o_count
    rw [z1.out]
    rfl
theorem CA.img {P : mx_Pm} {s s' : mx_St} (A : CA P s β κ ik tp tz C E σ sz cl) (f : sf s s' (fun i => 17 ≤ i ∧ i < 25)) (hb : BT s' 17 β) : CA P (stv s' 0 3 (nI 1)) β β 1 tp tz C E σ sz cl ∧ sf s (stv s' 0 3 (nI 1)) cS := by
  have f2 : sf s (stv s' 0 3 (nI 1)) (fun i => i = 0 ∨ (17 ≤ i ∧ i < 25)) := (f.mono (fun i g => Or.inr g)).st (Or.inl rfl)
  have f3 : sf s' (stv s' 0 3 (nI 1)) (fun i => i = 0) := sf.rf.st (by rfl)
  obtain ⟨h1, h2, h3, h4, h5, h6, h7⟩ := A
  have e : ∀ i, ¬ (i = 0 ∨ (17 ≤ i ∧ i < 25)) → stv s' 0 3 (nI 1) i = s i := fun i hi => f2 i hi
  refine ⟨⟨h1.fr f2 (fun i g1 g2 z => by omega), hb.fr f3 (fun i g1 g2 z => by omega), stv_a, fun i hi => (congrFun (e 26 (by omega)) i).trans (h4 i hi), (congrFun (e 25 (by omega)) 1).trans h5, h6.fr f2 (fun i z => by omega), fun q hq => ?_⟩, f2.mono (fun i z => Or.inl (by omega))⟩
  obtain ⟨g1, g2, g3⟩ := h7 q hq
  exact ⟨(congrFun (e _ (by omega)) _).trans g1, (congrFun (e _ (by omega)) _).trans g2, fun i hi => (congrFun (e _ (by omega)) _).trans (g3 i hi)⟩
theorem c_image (hd : 20 ≤ d) (H : HR P h s) (hl : 51 ≤ P.1) (A : CA P s β κ ik tp tz C E σ sz cl) (K : AOK P.2.1 β κ ik tp tz σ sz) (kk : ∀ h' s', HR P h' s' → CA P s' β β 1 tp tz C E σ sz cl → AOK P.2.1 β β 1 tp tz σ sz → sf s s' cS → Q (some (.int (nI (β 88)))) h') : wc d 116 [.ref 0] h Q := by
  have K4 := K.1.2.2.1
  have KK := K.1
  have K0 : 0 < P.2.1 := by have := K.1.2.2.2.2; omega
  have hT := A.2.2.2.2.2.1
  have hT6 := hT.2.1
  refine wc.go [_] rfl ?_
  refine q_aload_n (pc := 0) rfl rfl rfl ?_
  refine q_getf (pc := 1) rfl (by first | exact HR.X' H hl | exact HR.B H hl isB17 hb | exact HR.c H hl _ rfl) rfl rfl ?_
  refine q_aload_n (pc := 4) rfl rfl rfl ?_
  refine q_getf (pc := 5) rfl (by first | exact HR.X' H hl | exact HR.B H hl isB17 hb | exact HR.c H hl _ rfl) rfl rfl ?_
  refine q_callV (pc := 8) _ rfl rfl rfl (by first | exact HR.X' H hl | exact HR.B H hl isB17 hb | exact HR.c H hl _ rfl) rfl (Nat.le_of_ble_eq_true rfl) (by omega) _ rfl ?_
  refine c_become (by omega) hl H isB17 isB1 (by decide) A.1 ?_
  intro h s1 H hb k0
  refine q_aload_n (pc := 11) rfl rfl rfl ?_
  refine q_iconst (pc := 12) rfl (nI 1) (by decide) ?_
  refine r_pf2 (pc := 13) (i := 3) rfl H hl rfl rfl rfl rfl (Nat.le_of_ble_eq_true rfl) rfl rfl ?_
  intro h H
  obtain ⟨A2, k2⟩ := A.img k0 hb
  have hb := A2.2.1
  refine q_aload_n (pc := 16) rfl rfl rfl ?_
  refine q_getf (pc := 17) rfl (by first | exact HR.X' H hl | exact HR.B H hl isB17 hb | exact HR.c H hl _ rfl) rfl rfl ?_
  refine q_getf (pc := 20) rfl (by first | exact HR.X' H hl | exact HR.B H hl isB17 hb | exact HR.c H hl _ rfl) rfl rfl ?_
  refine q_iret (pc := 23) rfl (rfl) ?_
  exact kk _ _ H A2 ⟨K.1, K.2.1, K.1, K.2.1, Nat.le_refl _, K.2.2.2.2.2⟩ k2
def o_back (ik : Nat) (κ : Nat → Nat) : Int32 := if ik = 0 then -3 else nI (κ 88)
def n_back (ik : Nat) (β κ : Nat → Nat) : Nat → Nat := if ik = 0 then β else κ
theorem c_back (hd : 20 ≤ d) (H : HR P h s) (hl : 51 ≤ P.1) (A : CA P s β κ ik tp tz C E σ sz cl) (K : AOK P.2.1 β κ ik tp tz σ sz) (kk : ∀ h' s' β', β' = n_back ik β κ → HR P h' s' → CA P s' β' κ ik tp tz C E σ sz cl → AOK P.2.1 β' κ ik tp tz σ sz → sf s s' cS → Q (some (.int (o_back ik κ))) h') : wc d 117 [.ref 0] h Q := by
  have K4 := K.1.2.2.1
  have KK := K.1
  have K0 : 0 < P.2.1 := by have := K.1.2.2.2.2; omega
  have hT := A.2.2.2.2.2.1
  have hT6 := hT.2.1
  have hi := K.2.2.2.2.1
  unfold o_back n_back at kk
  refine wc.go [_] rfl ?_
  refine q_aload_n (pc := 0) rfl rfl rfl ?_
  refine q_getf (pc := 1) rfl (by first | exact HR.X H hl A.2.2.1 | exact HR.X' H hl | exact HR.B H hl isB1 hb | exact HR.c H hl _ rfl) rfl rfl ?_
  first | refine n_ifne (pc := 4) rfl (by omega) (fun h4 => ?_) (fun h4 => ?_) | refine q_ifne (pc := 4) rfl (fun h4 => ?_) (fun h4 => ?_)
  · first
    | (exfalso; omega (config := {splitDisjunctions := false}))
    | exact absurd rfl h4
    | skip
      refine q_aload_n (pc := 10) rfl rfl rfl ?_
      refine q_getf (pc := 11) rfl (by first | exact HR.X H hl A.2.2.1 | exact HR.X' H hl | exact HR.B H hl isB1 hb | exact HR.c H hl _ rfl) rfl rfl ?_
      refine q_aload_n (pc := 14) rfl rfl rfl ?_
      refine q_getf (pc := 15) rfl (by first | exact HR.X H hl A.2.2.1 | exact HR.X' H hl | exact HR.B H hl isB1 hb | exact HR.c H hl _ rfl) rfl rfl ?_
      refine q_callV (pc := 18) _ rfl rfl rfl (by first | exact HR.X H hl A.2.2.1 | exact HR.X' H hl | exact HR.B H hl isB1 hb | exact HR.c H hl _ rfl) rfl (Nat.le_of_ble_eq_true rfl) (by omega) _ rfl ?_
      refine c_become (by omega) hl H isB1 isB17 (by decide) A.2.1 ?_
      intro h s1 H hb k0
      have A := A.now k0 (fun i g => by omega) hb
      refine q_aload_n (pc := 21) rfl rfl rfl ?_
      refine q_getf (pc := 22) rfl (by first | exact HR.X H hl A.2.2.1 | exact HR.X' H hl | exact HR.B H hl isB1 hb | exact HR.c H hl _ rfl) rfl rfl ?_
      refine q_getf (pc := 25) rfl (by first | exact HR.X H hl A.2.2.1 | exact HR.X' H hl | exact HR.B H hl isB1 hb | exact HR.c H hl _ rfl) rfl rfl ?_
      refine q_iret (pc := 28) rfl (rfl) ?_
      rw [if_neg (by omega), if_neg (by omega)] at kk
      exact kk _ _ _ rfl H A ⟨K.2.2.1, K.2.2.2.1, K.2.2⟩ (cS_now k0 (fun i g => by omega))
  · first
    | (exfalso; omega (config := {splitDisjunctions := false}))
    | exact absurd rfl h4
    | skip
      refine q_bipush (pc := 7) rfl (-3) (by decide) ?_
      refine q_iret (pc := 9) rfl (rfl) ?_
      rw [if_pos (by omega), if_pos (by omega)] at kk
      exact kk _ _ _ rfl H A K sf.rf
def o_feed (tz : Nat) (x : Int32) : Int32 := if rg 256 x < 256 then (if tz < 160 then nI (tz + 1) else -4) else -2
def n_feedT (tp : Nat → Nat) (tz : Nat) (x : Int32) : Nat → Nat := if rg 256 x < 256 ∧ tz < 160 then upN tp tz (rg 256 x) else tp
def n_feedZ (tz : Nat) (x : Int32) : Nat := if rg 256 x < 256 ∧ tz < 160 then tz + 1 else tz
theorem CA.tape {P : mx_Pm} {s : mx_St} {w : Nat} (A : CA P s β κ ik tp tz C E σ sz cl) : CA P (stv (stv s 26 tz (nI w)) 25 1 (nI (tz + 1))) β κ ik (upN tp tz w) (tz + 1) C E σ sz cl ∧ sf s (stv (stv s 26 tz (nI w)) 25 1 (nI (tz + 1))) cS := by
  have f2 : sf s (stv (stv s 26 tz (nI w)) 25 1 (nI (tz + 1))) (fun i => i = 25 ∨ i = 26) := (sf.rf.st (by omega)).st (by omega)
  obtain ⟨h1, h2, h3, h4, h5, h6, h7⟩ := A
  have e : ∀ i, ¬ (i = 25 ∨ i = 26) → (stv (stv s 26 tz (nI w)) 25 1 (nI (tz + 1))) i = s i := fun i hi => f2 i hi
  refine ⟨⟨h1.fr f2 (fun i g1 g2 z => by omega), h2.fr f2 (fun i g1 g2 z => by omega), (congrFun (e 0 (by omega)) 3).trans h3, fun i hi => ?_, stv_a, h6.fr f2 (fun i z => by omega), fun q hq => ?_⟩, f2.mono (fun i z => Or.inl (by omega))⟩
  · rw [stv_n (by decide)]
    by_cases g : i = tz
    · subst g
      rw [stv_a, upN_s]
    · rw [stv_o g, upN_n g]
      exact h4 i (by omega)
  obtain ⟨g1, g2, g3⟩ := h7 q hq
  exact ⟨(congrFun (e _ (by omega)) _).trans g1, (congrFun (e _ (by omega)) _).trans g2, fun i hi => (congrFun (e _ (by omega)) _).trans (g3 i hi)⟩
theorem HR.rd {P : mx_Pm} {h : mx_H} {s : mx_St} (H : HR P h s) (hl : 51 ≤ P.1) (hz : s 25 1 = nI tz) : h.2.2 25 = .inr (3, [.ref 26, .int (nI tz), .ref 27, .ref 28, .int (s 25 4), .int (s 25 5), .ref 29, .int (s 25 7), .ref 30, .int (s 25 9)]) := by
  rw [← hz]
  exact HR.c H hl _ rfl
theorem c_take (H : HR P h s) (hl : 51 ≤ P.1) (A : s 25 1 = nI tz) (h160 : tz ≤ 160) (hy : tz < 160 → ∀ h', HR P h' (stv (stv s 26 tz x) 25 1 (nI (tz + 1))) → Q (some (.int (nI (tz + 1)))) h') (hf : tz = 160 → Q (some (.int (-4))) h) : wc d 19 [.ref 25, .int x] h Q := by
  refine wc.go [_, _] rfl ?_
  refine q_aload_n (pc := 0) rfl rfl rfl ?_
  refine q_getf (pc := 1) rfl (by first | exact HR.rd H hl A | exact HR.rd H hl A2) rfl rfl ?_
  refine q_iflt (pc := 4) rfl (fun h4 => ?_) (fun h4 => ?_)
  · first | (exfalso; omega) | exact absurd h4 (nI_pos (by omega)) | exact absurd (nI_pos' (by omega)) h4
  · refine q_aload_n (pc := 7) rfl rfl rfl ?_
    refine q_getf (pc := 8) rfl (by first | exact HR.rd H hl A | exact HR.rd H hl A2) rfl rfl ?_
    refine q_sipush (pc := 11) rfl (nI 160) (by decide) ?_
    first | refine n_icmplt (pc := 14) rfl (by omega) (by omega) (fun h14 => ?_) (fun h14 => ?_) | refine q_icmplt (pc := 14) rfl (fun h14 => ?_) (fun h14 => ?_)
    · first
      | (exfalso; omega (config := {splitDisjunctions := false}))
      | skip
        refine q_aload_n (pc := 20) rfl rfl rfl ?_
        refine q_getf (pc := 21) rfl (by first | exact HR.rd H hl A | exact HR.rd H hl A2) rfl rfl ?_
        refine q_aload_n (pc := 24) rfl rfl rfl ?_
        refine q_getf (pc := 25) rfl (by first | exact HR.rd H hl A | exact HR.rd H hl A2) rfl rfl ?_
        refine q_iload_n (pc := 28) rfl rfl ?_
        refine r_ist2 (pc := 29) rfl H hl rfl (fun _ => rfl) rfl (by omega) (by omega) ?_
        intro h H
        have A2 : stv s 26 tz x 25 1 = nI tz := (congrFun (stv_n (by decide)) _).trans A
        refine q_aload_n (pc := 30) rfl rfl rfl ?_
        refine q_dup (pc := 31) rfl rfl ?_
        refine q_getf (pc := 32) rfl (by first | exact HR.rd H hl A | exact HR.rd H hl A2) rfl rfl ?_
        refine q_iconst (pc := 35) rfl (nI 1) (by decide) ?_
        first | refine n_iadd (pc := 36) rfl ?_ | refine q_iadd (pc := 36) rfl ?_
        refine r_pf2 (pc := 37) (i := 1) rfl H hl rfl rfl rfl rfl (Nat.le_of_ble_eq_true rfl) rfl rfl ?_
        intro h H
        have A2 : stv (stv s 26 tz x) 25 1 (nI (tz + 1)) 25 1 = nI (tz + 1) := stv_a
        refine q_aload_n (pc := 40) rfl rfl rfl ?_
        refine q_getf (pc := 41) rfl (by first | exact HR.rd H hl A | exact HR.rd H hl A2) rfl rfl ?_
        refine q_iret (pc := 44) rfl (rfl) ?_
        exact hy (by omega) _ H
    · first
      | (exfalso; omega (config := {splitDisjunctions := false}))
      | skip
        refine q_bipush (pc := 17) rfl (-4) (by decide) ?_
        refine q_iret (pc := 19) rfl (rfl) ?_
        exact hf (by omega)
theorem c_feed (hd : 20 ≤ d) (H : HR P h s) (hl : 51 ≤ P.1) (A : CA P s β κ ik tp tz C E σ sz cl) (K : AOK P.2.1 β κ ik tp tz σ sz) (kk : ∀ h' s' tp' tz', tp' = n_feedT tp tz x → tz' = n_feedZ tz x → HR P h' s' → CA P s' β κ ik tp' tz' C E σ sz cl → AOK P.2.1 β κ ik tp' tz' σ sz → sf s s' cS → Q (some (.int (o_feed tz x))) h') : wc d 82 [.ref 0, .int x] h Q := by
  have K4 := K.1.2.2.1
  have KK := K.1
  have K0 : 0 < P.2.1 := by have := K.1.2.2.2.2; omega
  have hT := A.2.2.2.2.2.1
  have hT6 := hT.2.1
  obtain ⟨a1, a2, a3, a4, a5, a6, a7, a8⟩ := K
  unfold o_feed n_feedT n_feedZ at kk
  rcases rgc 256 (by decide) x with ⟨w, hw, rfl, z1⟩ | ⟨g, z1⟩
  · rw [z1.out] at kk
    refine wc.go [_, _] rfl ?_
    refine q_iload_n (pc := 0) rfl rfl ?_
    refine q_iflt (pc := 1) rfl (fun h1 => ?_) (fun h1 => ?_)
    · first | (exfalso; omega) | exact absurd h1 (nI_pos (by omega)) | exact absurd (nI_pos' (by omega)) h1
    · refine q_iload_n (pc := 4) rfl rfl ?_
      refine q_sipush (pc := 5) rfl (nI 255) (by decide) ?_
      first | refine n_icmple (pc := 8) rfl (by omega) (by omega) (fun h8 => ?_) (fun h8 => ?_) | refine q_icmple (pc := 8) rfl (fun h8 => ?_) (fun h8 => ?_)
      · refine q_aload_n (pc := 16) rfl rfl rfl ?_
        refine q_getf (pc := 17) rfl (by first | exact HR.X' H hl | exact HR.B H hl isB1 A.1 | exact HR.R H hl A.2.2.2.2.2.1.1 | exact HR.O H hl isB1 A.1 hp | exact HR.c H hl _ rfl) rfl rfl ?_
        refine q_iload_n (pc := 20) rfl rfl ?_
        refine q_callV (pc := 21) _ rfl rfl rfl (by first | exact HR.X' H hl | exact HR.B H hl isB1 A.1 | exact HR.R H hl A.2.2.2.2.2.1.1 | exact HR.O H hl isB1 A.1 hp | exact HR.c H hl _ rfl) rfl (Nat.le_of_ble_eq_true rfl) (by omega) _ rfl ?_
        refine c_take H hl A.2.2.2.2.1 a6 (fun h160 h H => ?_) (fun h160 => ?_)
        · refine q_iret (pc := 24) rfl (rfl) ?_
          first
          | (rw [if_neg (by omega), if_neg (by omega)] at kk
             rw [if_pos (by omega), if_neg (by omega)] at kk
             exact kk _ _ _ _ rfl rfl H A ⟨a1, a2, a3, a4, a5, a6, a7, a8⟩ sf.rf)
          | (rw [if_pos (by omega), if_pos (by omega)] at kk
             rw [if_pos (by omega), if_pos (by omega)] at kk
             exact kk _ _ _ _ rfl rfl H (A.tape (w := w)).1 ⟨a1, a2, a3, a4, a5, by omega, fun i hi => by unfold upN; split; omega; exact a7 i (by omega), a8⟩ (A.tape (w := w)).2)
        · refine q_iret (pc := 24) rfl (rfl) ?_
          first
          | (rw [if_neg (by omega), if_neg (by omega)] at kk
             rw [if_pos (by omega), if_neg (by omega)] at kk
             exact kk _ _ _ _ rfl rfl H A ⟨a1, a2, a3, a4, a5, a6, a7, a8⟩ sf.rf)
          | (rw [if_pos (by omega), if_pos (by omega)] at kk
             rw [if_pos (by omega), if_pos (by omega)] at kk
             exact kk _ _ _ _ rfl rfl H (A.tape (w := w)).1 ⟨a1, a2, a3, a4, a5, by omega, fun i hi => by unfold upN; split; omega; exact a7 i (by omega), a8⟩ (A.tape (w := w)).2)
      · first | (exfalso; omega) | exact absurd h8 (nI_pos (by omega)) | exact absurd (nI_pos' (by omega)) h8
  · rw [z1.out] at kk
    refine wc.go [_, _] rfl ?_
    refine q_iload_n (pc := 0) rfl rfl ?_
    refine q_iflt (pc := 1) rfl (fun h1 => ?_) (fun h1 => ?_)
    · first
      | (exfalso; omega (config := {splitDisjunctions := false}))
      | skip
        refine q_bipush (pc := 11) rfl (-2) (by decide) ?_
        refine q_goto (pc := 13) rfl ?_
        refine q_iret (pc := 24) rfl (rfl) ?_
        rw [if_neg (by omega), if_neg (by omega), if_neg (by omega)] at kk
        exact kk _ _ _ _ rfl rfl H A ⟨a1, a2, a3, a4, a5, a6, a7, a8⟩ sf.rf
    · first
      | (exfalso; omega (config := {splitDisjunctions := false}))
      | skip
        refine q_iload_n (pc := 4) rfl rfl ?_
        refine q_sipush (pc := 5) rfl (nI 255) (by decide) ?_
        refine q_icmple (pc := 8) rfl (fun h8 => ?_) (fun h8 => ?_)
        · exact (z_out (m := 256) g h1 h8 (by decide)).elim
        · first
          | (exfalso; omega (config := {splitDisjunctions := false}))
          | skip
            refine q_bipush (pc := 11) rfl (-2) (by decide) ?_
            refine q_goto (pc := 13) rfl ?_
            refine q_iret (pc := 24) rfl (rfl) ?_
            rw [if_neg (by omega), if_neg (by omega), if_neg (by omega)] at kk
            exact kk _ _ _ _ rfl rfl H A ⟨a1, a2, a3, a4, a5, a6, a7, a8⟩ sf.rf
def abN (kind : Nat) : Nat := if kind = 1 ∨ kind = 2 ∨ kind = 5 then 0 else if kind = 3 then 1 else if kind = 4 then 2 else 6
def oc6 (m : Nat) : Int32 := if m < 6 then nI m else -1
def chN : Nat → Nat → Nat → Nat
  | 0, kind, _ => kind
  | n + 1, kind, k => if kind = k ∨ kind = 6 then kind else chN n (abN kind) k
abbrev tkc (kind k : Nat) : Prop := k = kind ∨ k = 0 ∨ (kind = 3 ∧ k = 1) ∨ (kind = 4 ∧ k = 2)
theorem tkc_ch : ∀ kind, kind < 6 → ∀ k, k < 6 → (chN 6 kind k = k ↔ tkc kind k) := by decide
theorem abN_le {kind : Nat} (h : kind < 6) : abN kind < 6 ∨ abN kind = 6 := by unfold abN; (repeat' split) <;> omega
theorem c_above {kc : Nat} (hk : kc < 6) (hq : Q (some (.int (oc6 (abN kc)))) h) : wc d 124 [.int (nI kc)] h Q := by
  rcases p6 hk with rfl | rfl | rfl | rfl | rfl | rfl
  ·
    refine wc.go [_] rfl ?_
    refine q_iload_n (pc := 0) rfl rfl ?_
    
    · refine q_tsw (pc := 1) (t := 42) rfl (by decide) ?_
      refine q_iconst (pc := 42) rfl (-1) (by decide) ?_
      refine q_iret (pc := 43) rfl (rfl) ?_
      exact hq
  ·
    refine wc.go [_] rfl ?_
    refine q_iload_n (pc := 0) rfl rfl ?_
    
    · refine q_tsw (pc := 1) (t := 36) rfl (by decide) ?_
      refine q_iconst (pc := 36) rfl (nI 0) (by decide) ?_
      refine q_iret (pc := 37) rfl (rfl) ?_
      exact hq
  ·
    refine wc.go [_] rfl ?_
    refine q_iload_n (pc := 0) rfl rfl ?_
    
    · refine q_tsw (pc := 1) (t := 36) rfl (by decide) ?_
      refine q_iconst (pc := 36) rfl (nI 0) (by decide) ?_
      refine q_iret (pc := 37) rfl (rfl) ?_
      exact hq
  ·
    refine wc.go [_] rfl ?_
    refine q_iload_n (pc := 0) rfl rfl ?_
    
    · refine q_tsw (pc := 1) (t := 38) rfl (by decide) ?_
      refine q_iconst (pc := 38) rfl (nI 1) (by decide) ?_
      refine q_iret (pc := 39) rfl (rfl) ?_
      exact hq
  ·
    refine wc.go [_] rfl ?_
    refine q_iload_n (pc := 0) rfl rfl ?_
    
    · refine q_tsw (pc := 1) (t := 40) rfl (by decide) ?_
      refine q_iconst (pc := 40) rfl (nI 2) (by decide) ?_
      refine q_iret (pc := 41) rfl (rfl) ?_
      exact hq
  ·
    refine wc.go [_] rfl ?_
    refine q_iload_n (pc := 0) rfl rfl ?_
    
    · refine q_tsw (pc := 1) (t := 36) rfl (by decide) ?_
      refine q_iconst (pc := 36) rfl (nI 0) (by decide) ?_
      refine q_iret (pc := 37) rfl (rfl) ?_
      exact hq
theorem oc6_n {m : Nat} (h : m ≤ 6) (e : oc6 m = -1) : m = 6 := by
  unfold oc6 at e
  split at e
  · exact absurd e (nI_m1 (by omega))
  · omega
theorem oc6_k {m w : Nat} (h : m ≤ 6) (hw : w < 6) (e : oc6 m = nI w) : m = w := by
  unfold oc6 at e
  split at e
  · exact x_eq e (by omega) (by omega)
  · exact absurd e.symm (nI_m1 (by omega))
theorem c_takenL (hd : 20 ≤ d) (H : HR P h s) (hl : 51 ≤ P.1) (hβ : BT s 1 β) (hk9 : β (72 + 4 * p + 1) ≤ 9) (hp : p < 4) {w R : Nat} (hw : w < 6) (ht : R = w → Q (some (.int (nI (β (72 + 4 * p + 1))))) h) (hf : R ≠ w → Q (some (.int (-13))) h) (n i kc : Nat) (hi : i + n = 6) (hkc : kc ≤ 6) (hr : chN n kc w = R) (x : Int32) : wq d 123 38 [some (.ref 0), some (.int x), some (.int (nI w)), some (.ref (1 + 4 + p)), some (.int (oc6 kc)), some (.int (nI i))] [] h Q := by
  match n, hi, hr with
  | 0, hi, hr =>
    have hr2 : kc = R := hr
    rw [← hr2] at ht hf
    refine q_iload (pc := 38) rfl rfl ?_
    refine q_bipush (pc := 40) rfl (nI 6) (by decide) ?_
    first | refine n_icmpge (pc := 42) rfl (by omega) (by omega) (fun h42 => ?_) (fun h42 => ?_) | refine q_icmpge (pc := 42) rfl (fun h42 => ?_) (fun h42 => ?_)
    · refine q_iload (pc := 70) rfl rfl ?_
      refine q_iload_n (pc := 72) rfl rfl ?_
      refine q_icmpne (pc := 73) rfl (fun h73 => ?_) (fun h73 => ?_)
      · 
        first
        | (exfalso; omega (config := {splitDisjunctions := false}))
        | exact absurd rfl h73
        | skip
          refine q_bipush (pc := 83) rfl (-13) (by decide) ?_
          refine q_iret (pc := 85) rfl (rfl) ?_
          first | exact ht (oc6_k hkc hw h73) | exact hf (fun e => h73 (by rw [e, oc6, if_pos hw]))
      · 
        first
        | (exfalso; omega (config := {splitDisjunctions := false}))
        | exact absurd rfl h73
        | skip
          refine q_aload_n (pc := 76) rfl rfl rfl ?_
          refine q_getf (pc := 77) rfl (by first | exact HR.O H hl isB1 hβ hp) rfl rfl ?_
          refine q_goto (pc := 80) rfl ?_
          refine q_iret (pc := 85) rfl (rfl) ?_
          first | exact ht (oc6_k hkc hw h73) | exact hf (fun e => h73 (by rw [e, oc6, if_pos hw]))
    · first | (exfalso; omega) | exact absurd h42 (nI_pos (by omega)) | exact absurd (nI_pos' (by omega)) h42
  | n + 1, hi, hr =>
    unfold chN at hr
    refine q_iload (pc := 38) rfl rfl ?_
    refine q_bipush (pc := 40) rfl (nI 6) (by decide) ?_
    first | refine n_icmpge (pc := 42) rfl (by omega) (by omega) (fun h42 => ?_) (fun h42 => ?_) | refine q_icmpge (pc := 42) rfl (fun h42 => ?_) (fun h42 => ?_)
    · first | (exfalso; omega) | exact absurd h42 (nI_pos (by omega)) | exact absurd (nI_pos' (by omega)) h42
    · refine q_iload (pc := 45) rfl rfl ?_
      refine q_iload_n (pc := 47) rfl rfl ?_
      refine q_icmpeq (pc := 48) rfl (fun h48 => ?_) (fun h48 => ?_)
      · have h48 := oc6_k hkc hw h48
        rw [if_pos (Or.inl h48)] at hr
        rw [← hr] at ht hf
        first
        | (exfalso; omega (config := {splitDisjunctions := false}))
        | exact absurd rfl h48
        | skip
          refine q_iload (pc := 70) rfl rfl ?_
          refine q_iload_n (pc := 72) rfl rfl ?_
          refine q_icmpne (pc := 73) rfl (fun h73 => ?_) (fun h73 => ?_)
          · first
            | (exfalso; omega (config := {splitDisjunctions := false}))
            | exact absurd rfl h73
            | skip
              refine q_bipush (pc := 83) rfl (-13) (by decide) ?_
              refine q_iret (pc := 85) rfl (rfl) ?_
              first | exact ht (oc6_k hkc hw h73) | exact hf (fun e => h73 (by rw [e, oc6, if_pos hw]))
          · first
            | (exfalso; omega (config := {splitDisjunctions := false}))
            | exact absurd rfl h73
            | skip
              refine q_aload_n (pc := 76) rfl rfl rfl ?_
              refine q_getf (pc := 77) rfl (by first | exact HR.O H hl isB1 hβ hp) rfl rfl ?_
              refine q_goto (pc := 80) rfl ?_
              refine q_iret (pc := 85) rfl (rfl) ?_
              first | exact ht (oc6_k hkc hw h73) | exact hf (fun e => h73 (by rw [e, oc6, if_pos hw]))
      · have h48 : kc ≠ w := fun e => h48 (by rw [e, oc6, if_pos hw])
        first
        | (exfalso; omega (config := {splitDisjunctions := false}))
        | exact absurd rfl h48
        | skip
          refine q_iload (pc := 51) rfl rfl ?_
          refine q_iconst (pc := 53) rfl (-1) (by decide) ?_
          refine q_icmpeq (pc := 54) rfl (fun h54 => ?_) (fun h54 => ?_)
          · have h54 := oc6_n hkc h54
            rw [if_pos (Or.inr h54)] at hr
            rw [← hr] at ht hf
            first
            | (exfalso; omega (config := {splitDisjunctions := false}))
            | exact absurd rfl h54
            | skip
              refine q_iload (pc := 70) rfl rfl ?_
              refine q_iload_n (pc := 72) rfl rfl ?_
              refine q_icmpne (pc := 73) rfl (fun h73 => ?_) (fun h73 => ?_)
              · first
                | (exfalso; omega (config := {splitDisjunctions := false}))
                | exact absurd rfl h73
                | skip
                  refine q_bipush (pc := 83) rfl (-13) (by decide) ?_
                  refine q_iret (pc := 85) rfl (rfl) ?_
                  first | exact ht (oc6_k hkc hw h73) | exact hf (fun e => h73 (by rw [e, oc6, if_pos hw]))
              · first
                | (exfalso; omega (config := {splitDisjunctions := false}))
                | exact absurd rfl h73
                | skip
                  refine q_aload_n (pc := 76) rfl rfl rfl ?_
                  refine q_getf (pc := 77) rfl (by first | exact HR.O H hl isB1 hβ hp) rfl rfl ?_
                  refine q_goto (pc := 80) rfl ?_
                  refine q_iret (pc := 85) rfl (rfl) ?_
                  first | exact ht (oc6_k hkc hw h73) | exact hf (fun e => h73 (by rw [e, oc6, if_pos hw]))
          · have h54 : kc ≠ 6 := fun e => h54 (by rw [e]; rfl)
            rw [if_neg (by omega)] at hr
            rw [show oc6 kc = nI kc from if_pos (by omega)]
            first
            | (exfalso; omega (config := {splitDisjunctions := false}))
            | exact absurd rfl h54
            | skip
              refine q_iload (pc := 57) rfl rfl ?_
              refine q_callS (pc := 59) _ (by decide) rfl rfl rfl rfl (Nat.le_of_ble_eq_true rfl) (by omega) _ rfl ?_
              refine c_above (by omega) ?_
              refine q_istore (pc := 62) [_, _, _, _, _, _] rfl (Nat.le_of_ble_eq_true rfl) rfl ?_
              first | refine n_iinc (pc := 64) rfl [_, _, _, _, _, _] 1 (by decide) rfl rfl ?_ | refine q_iinc (pc := 64) [_, _, _, _, _, _] (1) rfl rfl (by decide) rfl ?_
              refine q_goto (pc := 67) rfl ?_
              exact c_takenL hd H hl hβ hk9 hp hw ht hf n (i + 1) (abN kc) (by omega) (by have := abN_le (show kc < 6 by omega); omega) hr x
termination_by n
def o_taken (β : Nat → Nat) (x y : Int32) : Int32 := if rg 6 y < 6 then (if rg (β 88) x < β 88 then (if tkc (β (72 + 4 * rg (β 88) x)) (rg 6 y) then nI (β (72 + 4 * rg (β 88) x + 1)) else -13) else -11) else -2
theorem c_taken (hd : 20 ≤ d) (H : HR P h s) (hl : 51 ≤ P.1) (A : CA P s β κ ik tp tz C E σ sz cl) (K : AOK P.2.1 β κ ik tp tz σ sz) (kk : ∀ h' s', HR P h' s' → CA P s' β κ ik tp tz C E σ sz cl → sf s s' cS → Q (some (.int (o_taken β x y))) h') : wc d 123 [.ref 0, .int x, .int y] h Q := by
  have K4 := K.1.2.2.1
  have KK := K.1
  have K0 : 0 < P.2.1 := by have := K.1.2.2.2.2; omega
  have hT := A.2.2.2.2.2.1
  have hT6 := hT.2.1
  rcases rgc 6 (by decide) y with ⟨w, hw, rfl, z1⟩ | ⟨g, z1⟩
  ·
    refine wc.go [_, _, _, _, _, _] rfl ?_
    refine q_iload_n (pc := 0) rfl rfl ?_
    refine q_iflt (pc := 1) rfl (fun h1 => ?_) (fun h1 => ?_)
    · first | (exfalso; omega) | exact absurd h1 (nI_pos (by omega)) | exact absurd (nI_pos' (by omega)) h1
    · refine q_iload_n (pc := 4) rfl rfl ?_
      refine q_bipush (pc := 5) rfl (nI 6) (by decide) ?_
      first | refine n_icmplt (pc := 7) rfl (by omega) (by omega) (fun h7 => ?_) (fun h7 => ?_) | refine q_icmplt (pc := 7) rfl (fun h7 => ?_) (fun h7 => ?_)
      · refine q_aload_n (pc := 13) rfl rfl rfl ?_
        refine q_getf (pc := 14) rfl (by first | exact HR.X' H hl | exact HR.B H hl isB1 A.1 | exact HR.R H hl A.2.2.2.2.2.1.1 | exact HR.O H hl isB1 A.1 hp | exact HR.c H hl _ rfl) rfl rfl ?_
        refine q_iload_n (pc := 17) rfl rfl ?_
        refine q_callV (pc := 18) _ rfl rfl rfl (by first | exact HR.X' H hl | exact HR.B H hl isB1 A.1 | exact HR.R H hl A.2.2.2.2.2.1.1 | exact HR.O H hl isB1 A.1 hp | exact HR.c H hl _ rfl) rfl (Nat.le_of_ble_eq_true rfl) (by omega) _ rfl ?_
        refine c_member H hl isB1 A.1 (fun p hp hpβ hxp => ?_) (fun gp => ?_) K4
        · subst hxp
          have zp : Hd (rg (β 88) (nI p) = p) := rg_in hpβ (by omega)
          refine q_astore_n (pc := 21) [_, _, _, _, _, _] rfl rfl (Nat.le_of_ble_eq_true rfl) rfl ?_
          refine q_aload_n (pc := 22) rfl rfl rfl ?_
          refine q_ifnonnull (pc := 23) rfl ?_
          refine q_aload_n (pc := 29) rfl rfl rfl ?_
          refine q_getf (pc := 30) rfl (by first | exact HR.X' H hl | exact HR.B H hl isB1 A.1 | exact HR.R H hl A.2.2.2.2.2.1.1 | exact HR.O H hl isB1 A.1 hp | exact HR.c H hl _ rfl) rfl rfl ?_
          refine q_istore (pc := 33) [_, _, _, _, _, _] rfl (Nat.le_of_ble_eq_true rfl) rfl ?_
          refine q_iconst (pc := 35) rfl (nI 0) (by decide) ?_
          refine q_istore (pc := 36) [_, _, _, _, _, _] rfl (Nat.le_of_ble_eq_true rfl) rfl ?_
          have kp := KK.2.1 p hp
          refine cast (congrArg (fun z => wq d 123 38 [some (.ref 0), some (.int (nI p)), some (.int (nI w)), some (.ref (1 + 4 + p)), some (.int z), some (.int (nI 0))] [] h Q) (show oc6 (β (72 + 4 * p)) = nI (β (72 + 4 * p)) from if_pos (by omega))) ?_
          refine c_takenL hd H hl A.1 kp.2.1 hp hw (R := chN 6 (β (72 + 4 * p)) w) (fun e => ?_) (fun e => ?_) 6 0 _ (by omega) (by omega) rfl _
          · refine eqQ ?_ (kk _ _ H A sf.rf)
            unfold o_taken
            rw [z1.out, zp.out, if_pos hw, if_pos (by omega), if_pos ((tkc_ch _ (by omega) _ hw).mp e)]
          · refine eqQ ?_ (kk _ _ H A sf.rf)
            unfold o_taken
            rw [z1.out, zp.out, if_pos hw, if_pos (by omega), if_neg (fun z => e ((tkc_ch _ (by omega) _ hw).mpr z))]
        · have zp : Hd (rg (β 88) x = β 88) := rg_out gp
          refine q_astore_n (pc := 21) [_, _, _, _, _, _] rfl rfl (Nat.le_of_ble_eq_true rfl) rfl ?_
          refine q_aload_n (pc := 22) rfl rfl rfl ?_
          refine q_ifnonnullN (pc := 23) rfl ?_
          refine q_bipush (pc := 26) rfl (-11) (by decide) ?_
          refine q_iret (pc := 28) rfl (rfl) ?_
          refine eqQ ?_ (kk _ _ H A sf.rf)
          unfold o_taken
          rw [z1.out, zp.out, if_pos hw, if_neg (by omega)]
      · first | (exfalso; omega) | exact absurd h7 (nI_pos (by omega)) | exact absurd (nI_pos' (by omega)) h7
  ·
    refine wc.go [_, _, _, _, _, _] rfl ?_
    refine q_iload_n (pc := 0) rfl rfl ?_
    refine q_iflt (pc := 1) rfl (fun h1 => ?_) (fun h1 => ?_)
    · first
      | (exfalso; omega (config := {splitDisjunctions := false}))
      | skip
        refine q_bipush (pc := 10) rfl (-2) (by decide) ?_
        refine q_iret (pc := 12) rfl (rfl) ?_
        refine eqQ ?_ (kk _ _ H A sf.rf)
        unfold o_taken
        rw [z1.out, if_neg (by omega)]
    · first
      | (exfalso; omega (config := {splitDisjunctions := false}))
      | skip
        refine q_iload_n (pc := 4) rfl rfl ?_
        refine q_bipush (pc := 5) rfl (nI 6) (by decide) ?_
        refine q_icmplt (pc := 7) rfl (fun h7 => ?_) (fun h7 => ?_)
        · exact (g.elim h1 (fun z => (Int32.not_lt.mpr z) h7)).elim
        · first
          | (exfalso; omega (config := {splitDisjunctions := false}))
          | skip
            refine q_bipush (pc := 10) rfl (-2) (by decide) ?_
            refine q_iret (pc := 12) rfl (rfl) ?_
            refine eqQ ?_ (kk _ _ H A sf.rf)
            unfold o_taken
            rw [z1.out, if_neg (by omega)]
end P32
