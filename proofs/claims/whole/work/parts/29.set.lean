/-! ===== the class's calls: set ===== -/
section P29
variable {d k pc a i j c p b t n m part q : Nat} {v : Int} {L L' : mx_L} {st r : List Value} {P : mx_Pm} {h : mx_H} {s : mx_St} {Q : Option Value → mx_H → Prop} {x y w z u : Int32} {β κ : Nat → Nat} {C : Nat → Nat → Int32} {E : Nat → Nat → Nat} {ik tz : Nat} {tp : Nat → Nat} {σ : Nat → Int32} {sz : Nat → Nat} {cl : Nat → Nat → Int32}
theorem AOK.bk (K : AOK n β κ ik tp tz σ sz) {β' : Nat → Nat} (h1 : bok β' n) (h2 : β' 89 ≤ 999) : AOK n β' κ ik tp tz σ sz := ⟨h1, h2, K.2.2⟩
/-- one number is put within its bound -/
def pltb (n j : Nat) : Nat := if j < 72 then 9 else if j = 89 then 999 else if j = 90 then n - 1 else if j = 88 then 4 else if j % 4 = 0 then 5 else if j % 4 = 1 then 9 else if j % 4 = 2 then 35 else 9999
theorem AOK.up (K : AOK n β κ ik tp tz σ sz) {v0 : Nat} (hv : v0 ≤ pltb n j) (hn : 0 < n) : AOK n (upN β j v0) κ ik tp tz σ sz := by
  obtain ⟨⟨h1, h2, h3, h4, h5⟩, h6, K⟩ := K
  unfold pltb at hv
  refine ⟨⟨fun i hi => ?_, fun q hq => ?_, ?_, ?_, ?_⟩, ?_, K⟩
  · have := h1 i hi
    unfold upN
    split
    · subst_vars
      rw [if_pos hi] at hv
      exact hv
    · exact this
  · obtain ⟨g1, g2, g3, g4⟩ := h2 q hq
    unfold upN
    refine ⟨?_, ?_, ?_, ?_⟩ <;> split <;> (try assumption) <;> subst_vars <;> (revert hv; (repeat' split) <;> intro hv <;> omega)
  · unfold upN; split <;> (try assumption); subst_vars; revert hv; (repeat' split) <;> intro hv <;> omega
  · unfold upN; split <;> (try (omega; done)); subst_vars; revert hv; (repeat' split) <;> intro hv <;> omega
  · unfold upN; split <;> (try assumption); subst_vars; revert hv; (repeat' split) <;> intro hv <;> omega
  · unfold upN; split <;> (try assumption); subst_vars; revert hv; (repeat' split) <;> intro hv <;> omega
theorem z_out (g : z < 0 ∨ nI m ≤ z) (h1 : ¬ z < 0) (h2 : z ≤ nI (m - 1)) (hm : 0 < m ∧ m < 2 ^ 31) : False := by
  obtain ⟨j, hj, rfl⟩ := x_of h1
  have := x_le h2 hj (by omega)
  exact x_out (by omega) hm.2 g
theorem o_set0 (h : plt β y x = 91 ∨ 5 ≤ rg 7 x) : o_set β x y z = -2 ∧ n_set β x y z = β := by
  rcases h with h | h
  · unfold o_set n_set o_told
    rw [h]
    refine ⟨?_, if_neg (fun g => by omega)⟩
    split <;> rfl
  · have : rg 5 x = 5 := by
      rcases rgc 5 (by decide) x with ⟨w, hw, rfl, e1⟩ | ⟨g, e1⟩
      · rw [rg_in (by omega) (by decide)] at h; omega
      · exact e1
    unfold o_set n_set
    rw [this, if_neg (fun g => by omega), if_neg (fun g => by omega)]
    exact ⟨rfl, rfl⟩
theorem o_set1 (h : rg (mst x) z = mst x) : o_set β x y z = -2 ∧ n_set β x y z = β := by
  unfold o_set n_set
  rw [h, if_neg (fun g => by omega), if_neg (fun g => by omega)]
  exact ⟨rfl, rfl⟩
theorem o_set2 {w v0 J M : Nat} (hw : w < 5) (hM : mst (nI w) = M) (hv : v0 < M) (hM2 : M ≤ 1000) (he : plt β y (nI w) = J) (hJ : J < 91) : o_set β (nI w) y (nI v0) = nI (β J) ∧ n_set β (nI w) y (nI v0) = upN β J v0 := by
  unfold o_set n_set o_told
  rw [hM, rg_in hv (by omega), rg_in hw (by decide), he, if_pos ⟨hw, hv⟩, if_pos hJ, if_pos ⟨hw, hv, hJ⟩]
  exact ⟨rfl, rfl⟩
set_option maxHeartbeats 8000000 in
theorem c_set (hd : 10 ≤ d) (H : HR P h s) (hl : 51 ≤ P.1) (A : CA P s β κ ik tp tz C E σ sz cl) (K : AOK P.2.1 β κ ik tp tz σ sz) (kk : ∀ h' s' β', β' = n_set β x y z → HR P h' s' → CA P s' β' κ ik tp tz C E σ sz cl → AOK P.2.1 β' κ ik tp tz σ sz → sf s s' cS → Q (some (.int (o_set β x y z))) h') : wc d 77 [.ref 0, .int x, .int y, .int z] h Q := by
  have K4 := K.1.2.2.1
  have KK := K.1
  have K0 : 0 < P.2.1 := by have := K.1.2.2.2.2; omega
  have hc1 : ∀ {i}, (1 ≤ i ∧ i < 9) → cS i := fun g => Or.inl (by omega)
  rcases plt_c β K4 y x with ⟨rfl, e⟩ | ⟨c, hc, rfl, rfl, e⟩ | ⟨c, hc, rfl, rfl, e⟩ | ⟨p, hpβ, rfl, rfl, e⟩ | ⟨p, hpβ, rfl, rfl, e⟩ | ⟨p, hpβ, rfl, rfl, e⟩ | ⟨p, hpβ, rfl, rfl, e⟩ | e
  · have hJ := bok_le KK (show 89 < 90 by omega)
    have eM : Hd (mst (nI 0) = 1000) := by unfold Hd; decide
    rcases rgc 1000 (by decide) z with ⟨v0, hv0, rfl, ez⟩ | ⟨gz, ez⟩
    · obtain ⟨q1, q2⟩ := o_set2 (y := y) (show 0 < 5 by decide) eM.out hv0 (by decide) e.out (by omega)
      have KU := K.up (j := 89) (v0 := v0) (by simp only [pltb]; (repeat' split) <;> omega) K0
      refine q_aload_n (pc := 0) rfl rfl rfl ?_
      refine q_iload_n (pc := 1) rfl rfl ?_
      refine q_iload_n (pc := 2) rfl rfl ?_
      refine q_callV (pc := 3) _ rfl rfl rfl (by first | exact HR.X' H hl | exact HR.B H hl isB1 A.1 | exact HR.O H hl isB1 A.1 hp) rfl (Nat.le_of_ble_eq_true rfl) (by omega) _ rfl ?_
      refine c_told (by omega) H hl A K ?_
      intro h s1 H A k1
      rw [o_told, e.out, if_pos (by omega)]
      refine q_istore (pc := 6) [_, _, _, _, _, _] rfl (Nat.le_of_ble_eq_true rfl) rfl ?_
      refine q_iload (pc := 8) rfl rfl ?_
      refine q_iflt (pc := 10) rfl (fun h10 => ?_) (fun h10 => ?_)
      · first
        | (exfalso; omega (config := {splitDisjunctions := false}))
        | exact absurd h10 (nI_pos (by omega))
        | skip
          refine q_bipush (pc := 30) rfl (-2) (by decide) ?_
          refine q_iret (pc := 32) rfl (rfl) ?_
          fail
      · first
        | (exfalso; omega (config := {splitDisjunctions := false}))
        | exact absurd h10 (nI_pos (by omega))
        | skip
          refine q_iload_n (pc := 13) rfl rfl ?_
          refine q_iconst (pc := 14) rfl (nI 4) (by decide) ?_
          first | refine n_icmpgt (pc := 15) rfl (by omega) (by omega) (fun h15 => ?_) (fun h15 => ?_) | refine q_icmpgt (pc := 15) rfl (fun h15 => ?_) (fun h15 => ?_)
          · first
            | (exfalso; omega (config := {splitDisjunctions := false}))
            | skip
              refine q_bipush (pc := 30) rfl (-2) (by decide) ?_
              refine q_iret (pc := 32) rfl (rfl) ?_
              fail
          · first
            | (exfalso; omega (config := {splitDisjunctions := false}))
            | skip
              refine q_iload_n (pc := 18) rfl rfl ?_
              refine q_iflt (pc := 19) rfl (fun h19 => ?_) (fun h19 => ?_)
              · first
                | (exfalso; omega (config := {splitDisjunctions := false}))
                | exact absurd h19 (nI_pos (by omega))
                | skip
                  refine q_bipush (pc := 30) rfl (-2) (by decide) ?_
                  refine q_iret (pc := 32) rfl (rfl) ?_
                  fail
              · first
                | (exfalso; omega (config := {splitDisjunctions := false}))
                | exact absurd h19 (nI_pos (by omega))
                | skip
                  refine q_iload_n (pc := 22) rfl rfl ?_
                  refine q_iload_n (pc := 23) rfl rfl ?_
                  refine q_callS (pc := 24) _ (by decide) rfl rfl rfl rfl (Nat.le_of_ble_eq_true rfl) (by omega) _ rfl ?_
                  refine c_mostOf (by decide) ?_
                  rw [eM.out]
                  first | refine n_icmple (pc := 27) rfl (by omega) (by omega) (fun h27 => ?_) (fun h27 => ?_) | refine q_icmple (pc := 27) rfl (fun h27 => ?_) (fun h27 => ?_)
                  · first
                    | (exfalso; omega (config := {splitDisjunctions := false}))
                    | skip
                      refine q_aload_n (pc := 33) rfl rfl rfl ?_
                      refine q_getf (pc := 34) rfl (by first | exact HR.X' H hl | exact HR.B H hl isB1 A.1 | exact HR.O H hl isB1 A.1 hp) rfl rfl ?_
                      refine q_iload_n (pc := 37) rfl rfl ?_
                      refine q_callV (pc := 38) _ rfl rfl rfl (by first | exact HR.X' H hl | exact HR.B H hl isB1 A.1 | exact HR.O H hl isB1 A.1 hp) rfl (Nat.le_of_ble_eq_true rfl) (by omega) _ rfl ?_
                      refine c_member H hl isB1 A.1 (fun p hp hpβ hxp => ?_) (fun gp => ?_) K4
                      · refine q_astore (pc := 41) [_, _, _, _, _, _] rfl rfl (Nat.le_of_ble_eq_true rfl) rfl ?_
                        refine q_iload_n (pc := 43) rfl rfl ?_
                        first | refine n_ifne (pc := 44) rfl (by omega) (fun h44 => ?_) (fun h44 => ?_) | refine q_ifne (pc := 44) rfl (fun h44 => ?_) (fun h44 => ?_)
                        · first
                          | (exfalso; omega (config := {splitDisjunctions := false}))
                          | exact absurd rfl h44
                          | skip
                            refine q_iload_n (pc := 58) rfl rfl ?_
                            refine q_iconst (pc := 59) rfl (nI 1) (by decide) ?_
                            first | refine n_icmpne (pc := 60) rfl (by omega) (by omega) (fun h60 => ?_) (fun h60 => ?_) | refine q_icmpne (pc := 60) rfl (fun h60 => ?_) (fun h60 => ?_)
                            · first
                              | (exfalso; omega (config := {splitDisjunctions := false}))
                              | exact absurd rfl h60
                              | skip
                                refine q_iload_n (pc := 83) rfl rfl ?_
                                refine q_iconst (pc := 84) rfl (nI 2) (by decide) ?_
                                first | refine n_icmpne (pc := 85) rfl (by omega) (by omega) (fun h85 => ?_) (fun h85 => ?_) | refine q_icmpne (pc := 85) rfl (fun h85 => ?_) (fun h85 => ?_)
                                · first
                                  | (exfalso; omega (config := {splitDisjunctions := false}))
                                  | exact absurd rfl h85
                                  | skip
                                    refine q_iload_n (pc := 108) rfl rfl ?_
                                    refine q_iconst (pc := 109) rfl (nI 3) (by decide) ?_
                                    first | refine n_icmpne (pc := 110) rfl (by omega) (by omega) (fun h110 => ?_) (fun h110 => ?_) | refine q_icmpne (pc := 110) rfl (fun h110 => ?_) (fun h110 => ?_)
                                    · first
                                      | (exfalso; omega (config := {splitDisjunctions := false}))
                                      | exact absurd rfl h110
                                      | skip
                                        refine q_iload_n (pc := 127) rfl rfl ?_
                                        refine q_iconst (pc := 128) rfl (nI 4) (by decide) ?_
                                        first | refine n_icmpne (pc := 129) rfl (by omega) (by omega) (fun h129 => ?_) (fun h129 => ?_) | refine q_icmpne (pc := 129) rfl (fun h129 => ?_) (fun h129 => ?_)
                                        · first
                                          | (exfalso; omega (config := {splitDisjunctions := false}))
                                          | exact absurd rfl h129
                                          | skip
                                            refine q_iload (pc := 143) rfl rfl ?_
                                            refine q_iret (pc := 145) rfl (rfl) ?_
                                            rw [q1] at kk
                                            exact kk _ _ _ q2.symm H (A.now (S := fun i => 1 ≤ i ∧ i < 9) (sf.rf.st (by omega)) (fun i g => Or.inl (by omega)) hβ) KU (k1.tr ((sf.rf (S := fun i => 1 ≤ i ∧ i < 9)).st (by omega) |>.mono (fun i g => hc1 g)))
                                        · first
                                          | (exfalso; omega (config := {splitDisjunctions := false}))
                                          | exact absurd rfl h129
                                          | skip
                                            refine q_aload (pc := 132) rfl rfl rfl ?_
                                            refine q_ifnull (pc := 134) rfl ?_
                                            refine q_aload (pc := 137) rfl rfl rfl ?_
                                            refine q_iload_n (pc := 139) rfl rfl ?_
                                            refine r_pf2 (pc := 140) (i := 2) rfl H hl (okO isB1 hp) (ecO isB1 hp _) rfl rfl (Nat.le_of_ble_eq_true rfl) rfl (ecO isB1 hp _) ?_
                                            intro h H
                                            refine q_iload (pc := 143) rfl rfl ?_
                                            refine q_iret (pc := 145) rfl (rfl) ?_
                                            rw [q1] at kk
                                            exact kk _ _ _ q2.symm H (A.now (S := fun i => 1 ≤ i ∧ i < 9) (sf.rf.st (by omega)) (fun i g => Or.inl (by omega)) hβ) KU (k1.tr ((sf.rf (S := fun i => 1 ≤ i ∧ i < 9)).st (by omega) |>.mono (fun i g => hc1 g)))
                                    · first
                                      | (exfalso; omega (config := {splitDisjunctions := false}))
                                      | exact absurd rfl h110
                                      | skip
                                        refine q_aload (pc := 113) rfl rfl rfl ?_
                                        refine q_ifnull (pc := 115) rfl ?_
                                        refine q_aload (pc := 118) rfl rfl rfl ?_
                                        refine q_iload_n (pc := 120) rfl rfl ?_
                                        refine r_pf2 (pc := 121) (i := 1) rfl H hl (okO isB1 hp) (ecO isB1 hp _) rfl rfl (Nat.le_of_ble_eq_true rfl) rfl (ecO isB1 hp _) ?_
                                        intro h H
                                        refine q_goto (pc := 124) rfl ?_
                                        refine q_iload (pc := 143) rfl rfl ?_
                                        refine q_iret (pc := 145) rfl (rfl) ?_
                                        rw [q1] at kk
                                        exact kk _ _ _ q2.symm H (A.now (S := fun i => 1 ≤ i ∧ i < 9) (sf.rf.st (by omega)) (fun i g => Or.inl (by omega)) hβ) KU (k1.tr ((sf.rf (S := fun i => 1 ≤ i ∧ i < 9)).st (by omega) |>.mono (fun i g => hc1 g)))
                                · first
                                  | (exfalso; omega (config := {splitDisjunctions := false}))
                                  | exact absurd rfl h85
                                  | skip
                                    refine q_iload_n (pc := 88) rfl rfl ?_
                                    refine q_callS (pc := 89) _ (by decide) rfl rfl rfl rfl (Nat.le_of_ble_eq_true rfl) (by omega) _ rfl ?_
                                    refine c_isCell (fun c0 hc0 hx0 => ?_) (fun gc => ?_)
                                    · refine q_ifeq (pc := 92) rfl (fun z => absurd z (by decide)) (fun _ => ?_)
                                      refine q_aload_n (pc := 95) rfl rfl rfl ?_
                                      refine q_getf (pc := 96) rfl (by first | exact HR.X' H hl | exact HR.B H hl isB1 A.1 | exact HR.O H hl isB1 A.1 hp) rfl rfl ?_
                                      refine q_getf (pc := 99) rfl (by first | exact HR.X' H hl | exact HR.B H hl isB1 A.1 | exact HR.O H hl isB1 A.1 hp) rfl rfl ?_
                                      refine q_iload_n (pc := 102) rfl rfl ?_
                                      refine q_iload_n (pc := 103) rfl rfl ?_
                                      refine r_ist2 (pc := 104) rfl H hl (okB2 isB1) (ecB2 isB1) rfl (by omega) (by omega) ?_
                                      intro h H
                                      refine q_goto (pc := 105) rfl ?_
                                      refine q_iload (pc := 143) rfl rfl ?_
                                      refine q_iret (pc := 145) rfl (rfl) ?_
                                      rw [q1] at kk
                                      exact kk _ _ _ q2.symm H (A.now (S := fun i => 1 ≤ i ∧ i < 9) (sf.rf.st (by omega)) (fun i g => Or.inl (by omega)) hβ) KU (k1.tr ((sf.rf (S := fun i => 1 ≤ i ∧ i < 9)).st (by omega) |>.mono (fun i g => hc1 g)))
                                    · refine q_ifeq (pc := 92) rfl (fun _ => ?_) (fun z => absurd (by decide) z)
                                      refine q_iload_n (pc := 108) rfl rfl ?_
                                      refine q_iconst (pc := 109) rfl (nI 3) (by decide) ?_
                                      first | refine n_icmpne (pc := 110) rfl (by omega) (by omega) (fun h110 => ?_) (fun h110 => ?_) | refine q_icmpne (pc := 110) rfl (fun h110 => ?_) (fun h110 => ?_)
                                      · first
                                        | (exfalso; omega (config := {splitDisjunctions := false}))
                                        | exact absurd rfl h110
                                        | skip
                                          refine q_iload_n (pc := 127) rfl rfl ?_
                                          refine q_iconst (pc := 128) rfl (nI 4) (by decide) ?_
                                          first | refine n_icmpne (pc := 129) rfl (by omega) (by omega) (fun h129 => ?_) (fun h129 => ?_) | refine q_icmpne (pc := 129) rfl (fun h129 => ?_) (fun h129 => ?_)
                                          · first
                                            | (exfalso; omega (config := {splitDisjunctions := false}))
                                            | exact absurd rfl h129
                                            | skip
                                              refine q_iload (pc := 143) rfl rfl ?_
                                              refine q_iret (pc := 145) rfl (rfl) ?_
                                              rw [q1] at kk
                                              exact kk _ _ _ q2.symm H (A.now (S := fun i => 1 ≤ i ∧ i < 9) (sf.rf.st (by omega)) (fun i g => Or.inl (by omega)) hβ) KU (k1.tr ((sf.rf (S := fun i => 1 ≤ i ∧ i < 9)).st (by omega) |>.mono (fun i g => hc1 g)))
                                          · first
                                            | (exfalso; omega (config := {splitDisjunctions := false}))
                                            | exact absurd rfl h129
                                            | skip
                                              refine q_aload (pc := 132) rfl rfl rfl ?_
                                              refine q_ifnull (pc := 134) rfl ?_
                                              refine q_aload (pc := 137) rfl rfl rfl ?_
                                              refine q_iload_n (pc := 139) rfl rfl ?_
                                              refine r_pf2 (pc := 140) (i := 2) rfl H hl (okO isB1 hp) (ecO isB1 hp _) rfl rfl (Nat.le_of_ble_eq_true rfl) rfl (ecO isB1 hp _) ?_
                                              intro h H
                                              refine q_iload (pc := 143) rfl rfl ?_
                                              refine q_iret (pc := 145) rfl (rfl) ?_
                                              rw [q1] at kk
                                              exact kk _ _ _ q2.symm H (A.now (S := fun i => 1 ≤ i ∧ i < 9) (sf.rf.st (by omega)) (fun i g => Or.inl (by omega)) hβ) KU (k1.tr ((sf.rf (S := fun i => 1 ≤ i ∧ i < 9)).st (by omega) |>.mono (fun i g => hc1 g)))
                                      · first
                                        | (exfalso; omega (config := {splitDisjunctions := false}))
                                        | exact absurd rfl h110
                                        | skip
                                          refine q_aload (pc := 113) rfl rfl rfl ?_
                                          refine q_ifnull (pc := 115) rfl ?_
                                          refine q_aload (pc := 118) rfl rfl rfl ?_
                                          refine q_iload_n (pc := 120) rfl rfl ?_
                                          refine r_pf2 (pc := 121) (i := 1) rfl H hl (okO isB1 hp) (ecO isB1 hp _) rfl rfl (Nat.le_of_ble_eq_true rfl) rfl (ecO isB1 hp _) ?_
                                          intro h H
                                          refine q_goto (pc := 124) rfl ?_
                                          refine q_iload (pc := 143) rfl rfl ?_
                                          refine q_iret (pc := 145) rfl (rfl) ?_
                                          rw [q1] at kk
                                          exact kk _ _ _ q2.symm H (A.now (S := fun i => 1 ≤ i ∧ i < 9) (sf.rf.st (by omega)) (fun i g => Or.inl (by omega)) hβ) KU (k1.tr ((sf.rf (S := fun i => 1 ≤ i ∧ i < 9)).st (by omega) |>.mono (fun i g => hc1 g)))
                            · first
                              | (exfalso; omega (config := {splitDisjunctions := false}))
                              | exact absurd rfl h60
                              | skip
                                refine q_iload_n (pc := 63) rfl rfl ?_
                                refine q_callS (pc := 64) _ (by decide) rfl rfl rfl rfl (Nat.le_of_ble_eq_true rfl) (by omega) _ rfl ?_
                                refine c_isCell (fun c0 hc0 hx0 => ?_) (fun gc => ?_)
                                · refine q_ifeq (pc := 67) rfl (fun z => absurd z (by decide)) (fun _ => ?_)
                                  refine q_aload_n (pc := 70) rfl rfl rfl ?_
                                  refine q_getf (pc := 71) rfl (by first | exact HR.X' H hl | exact HR.B H hl isB1 A.1 | exact HR.O H hl isB1 A.1 hp) rfl rfl ?_
                                  refine q_getf (pc := 74) rfl (by first | exact HR.X' H hl | exact HR.B H hl isB1 A.1 | exact HR.O H hl isB1 A.1 hp) rfl rfl ?_
                                  refine q_iload_n (pc := 77) rfl rfl ?_
                                  refine q_iload_n (pc := 78) rfl rfl ?_
                                  refine r_ist2 (pc := 79) rfl H hl (okB1 isB1) (ecB1 isB1) rfl (by omega) (by omega) ?_
                                  intro h H
                                  refine q_goto (pc := 80) rfl ?_
                                  refine q_iload (pc := 143) rfl rfl ?_
                                  refine q_iret (pc := 145) rfl (rfl) ?_
                                  rw [q1] at kk
                                  exact kk _ _ _ q2.symm H (A.now (S := fun i => 1 ≤ i ∧ i < 9) (sf.rf.st (by omega)) (fun i g => Or.inl (by omega)) hβ) KU (k1.tr ((sf.rf (S := fun i => 1 ≤ i ∧ i < 9)).st (by omega) |>.mono (fun i g => hc1 g)))
                                · refine q_ifeq (pc := 67) rfl (fun _ => ?_) (fun z => absurd (by decide) z)
                                  refine q_iload_n (pc := 83) rfl rfl ?_
                                  refine q_iconst (pc := 84) rfl (nI 2) (by decide) ?_
                                  first | refine n_icmpne (pc := 85) rfl (by omega) (by omega) (fun h85 => ?_) (fun h85 => ?_) | refine q_icmpne (pc := 85) rfl (fun h85 => ?_) (fun h85 => ?_)
                                  · first
                                    | (exfalso; omega (config := {splitDisjunctions := false}))
                                    | exact absurd rfl h85
                                    | skip
                                      refine q_iload_n (pc := 108) rfl rfl ?_
                                      refine q_iconst (pc := 109) rfl (nI 3) (by decide) ?_
                                      first | refine n_icmpne (pc := 110) rfl (by omega) (by omega) (fun h110 => ?_) (fun h110 => ?_) | refine q_icmpne (pc := 110) rfl (fun h110 => ?_) (fun h110 => ?_)
                                      · first
                                        | (exfalso; omega (config := {splitDisjunctions := false}))
                                        | exact absurd rfl h110
                                        | skip
                                          refine q_iload_n (pc := 127) rfl rfl ?_
                                          refine q_iconst (pc := 128) rfl (nI 4) (by decide) ?_
                                          first | refine n_icmpne (pc := 129) rfl (by omega) (by omega) (fun h129 => ?_) (fun h129 => ?_) | refine q_icmpne (pc := 129) rfl (fun h129 => ?_) (fun h129 => ?_)
                                          · first
                                            | (exfalso; omega (config := {splitDisjunctions := false}))
                                            | exact absurd rfl h129
                                            | skip
                                              refine q_iload (pc := 143) rfl rfl ?_
                                              refine q_iret (pc := 145) rfl (rfl) ?_
                                              rw [q1] at kk
                                              exact kk _ _ _ q2.symm H (A.now (S := fun i => 1 ≤ i ∧ i < 9) (sf.rf.st (by omega)) (fun i g => Or.inl (by omega)) hβ) KU (k1.tr ((sf.rf (S := fun i => 1 ≤ i ∧ i < 9)).st (by omega) |>.mono (fun i g => hc1 g)))
                                          · first
                                            | (exfalso; omega (config := {splitDisjunctions := false}))
                                            | exact absurd rfl h129
                                            | skip
                                              refine q_aload (pc := 132) rfl rfl rfl ?_
                                              refine q_ifnull (pc := 134) rfl ?_
                                              refine q_aload (pc := 137) rfl rfl rfl ?_
                                              refine q_iload_n (pc := 139) rfl rfl ?_
                                              refine r_pf2 (pc := 140) (i := 2) rfl H hl (okO isB1 hp) (ecO isB1 hp _) rfl rfl (Nat.le_of_ble_eq_true rfl) rfl (ecO isB1 hp _) ?_
                                              intro h H
                                              refine q_iload (pc := 143) rfl rfl ?_
                                              refine q_iret (pc := 145) rfl (rfl) ?_
                                              rw [q1] at kk
                                              exact kk _ _ _ q2.symm H (A.now (S := fun i => 1 ≤ i ∧ i < 9) (sf.rf.st (by omega)) (fun i g => Or.inl (by omega)) hβ) KU (k1.tr ((sf.rf (S := fun i => 1 ≤ i ∧ i < 9)).st (by omega) |>.mono (fun i g => hc1 g)))
                                      · first
                                        | (exfalso; omega (config := {splitDisjunctions := false}))
                                        | exact absurd rfl h110
                                        | skip
                                          refine q_aload (pc := 113) rfl rfl rfl ?_
                                          refine q_ifnull (pc := 115) rfl ?_
                                          refine q_aload (pc := 118) rfl rfl rfl ?_
                                          refine q_iload_n (pc := 120) rfl rfl ?_
                                          refine r_pf2 (pc := 121) (i := 1) rfl H hl (okO isB1 hp) (ecO isB1 hp _) rfl rfl (Nat.le_of_ble_eq_true rfl) rfl (ecO isB1 hp _) ?_
                                          intro h H
                                          refine q_goto (pc := 124) rfl ?_
                                          refine q_iload (pc := 143) rfl rfl ?_
                                          refine q_iret (pc := 145) rfl (rfl) ?_
                                          rw [q1] at kk
                                          exact kk _ _ _ q2.symm H (A.now (S := fun i => 1 ≤ i ∧ i < 9) (sf.rf.st (by omega)) (fun i g => Or.inl (by omega)) hβ) KU (k1.tr ((sf.rf (S := fun i => 1 ≤ i ∧ i < 9)).st (by omega) |>.mono (fun i g => hc1 g)))
                                  · first
                                    | (exfalso; omega (config := {splitDisjunctions := false}))
                                    | exact absurd rfl h85
                                    | skip
                                      refine q_iload_n (pc := 88) rfl rfl ?_
                                      refine q_callS (pc := 89) _ (by decide) rfl rfl rfl rfl (Nat.le_of_ble_eq_true rfl) (by omega) _ rfl ?_
                                      refine c_isCell (fun c0 hc0 hx0 => ?_) (fun gc => ?_)
                                      · refine q_ifeq (pc := 92) rfl (fun z => absurd z (by decide)) (fun _ => ?_)
                                        refine q_aload_n (pc := 95) rfl rfl rfl ?_
                                        refine q_getf (pc := 96) rfl (by first | exact HR.X' H hl | exact HR.B H hl isB1 A.1 | exact HR.O H hl isB1 A.1 hp) rfl rfl ?_
                                        refine q_getf (pc := 99) rfl (by first | exact HR.X' H hl | exact HR.B H hl isB1 A.1 | exact HR.O H hl isB1 A.1 hp) rfl rfl ?_
                                        refine q_iload_n (pc := 102) rfl rfl ?_
                                        refine q_iload_n (pc := 103) rfl rfl ?_
                                        refine r_ist2 (pc := 104) rfl H hl (okB2 isB1) (ecB2 isB1) rfl (by omega) (by omega) ?_
                                        intro h H
                                        refine q_goto (pc := 105) rfl ?_
                                        refine q_iload (pc := 143) rfl rfl ?_
                                        refine q_iret (pc := 145) rfl (rfl) ?_
                                        rw [q1] at kk
                                        exact kk _ _ _ q2.symm H (A.now (S := fun i => 1 ≤ i ∧ i < 9) (sf.rf.st (by omega)) (fun i g => Or.inl (by omega)) hβ) KU (k1.tr ((sf.rf (S := fun i => 1 ≤ i ∧ i < 9)).st (by omega) |>.mono (fun i g => hc1 g)))
                                      · refine q_ifeq (pc := 92) rfl (fun _ => ?_) (fun z => absurd (by decide) z)
                                        refine q_iload_n (pc := 108) rfl rfl ?_
                                        refine q_iconst (pc := 109) rfl (nI 3) (by decide) ?_
                                        first | refine n_icmpne (pc := 110) rfl (by omega) (by omega) (fun h110 => ?_) (fun h110 => ?_) | refine q_icmpne (pc := 110) rfl (fun h110 => ?_) (fun h110 => ?_)
                                        · first
                                          | (exfalso; omega (config := {splitDisjunctions := false}))
                                          | exact absurd rfl h110
                                          | skip
                                            refine q_iload_n (pc := 127) rfl rfl ?_
                                            refine q_iconst (pc := 128) rfl (nI 4) (by decide) ?_
                                            first | refine n_icmpne (pc := 129) rfl (by omega) (by omega) (fun h129 => ?_) (fun h129 => ?_) | refine q_icmpne (pc := 129) rfl (fun h129 => ?_) (fun h129 => ?_)
                                            · first
                                              | (exfalso; omega (config := {splitDisjunctions := false}))
                                              | exact absurd rfl h129
                                              | skip
                                                refine q_iload (pc := 143) rfl rfl ?_
                                                refine q_iret (pc := 145) rfl (rfl) ?_
                                                rw [q1] at kk
                                                exact kk _ _ _ q2.symm H (A.now (S := fun i => 1 ≤ i ∧ i < 9) (sf.rf.st (by omega)) (fun i g => Or.inl (by omega)) hβ) KU (k1.tr ((sf.rf (S := fun i => 1 ≤ i ∧ i < 9)).st (by omega) |>.mono (fun i g => hc1 g)))
                                            · first
                                              | (exfalso; omega (config := {splitDisjunctions := false}))
                                              | exact absurd rfl h129
                                              | skip
                                                refine q_aload (pc := 132) rfl rfl rfl ?_
                                                refine q_ifnull (pc := 134) rfl ?_
                                                refine q_aload (pc := 137) rfl rfl rfl ?_
                                                refine q_iload_n (pc := 139) rfl rfl ?_
                                                refine r_pf2 (pc := 140) (i := 2) rfl H hl (okO isB1 hp) (ecO isB1 hp _) rfl rfl (Nat.le_of_ble_eq_true rfl) rfl (ecO isB1 hp _) ?_
                                                intro h H
                                                refine q_iload (pc := 143) rfl rfl ?_
                                                refine q_iret (pc := 145) rfl (rfl) ?_
                                                rw [q1] at kk
                                                exact kk _ _ _ q2.symm H (A.now (S := fun i => 1 ≤ i ∧ i < 9) (sf.rf.st (by omega)) (fun i g => Or.inl (by omega)) hβ) KU (k1.tr ((sf.rf (S := fun i => 1 ≤ i ∧ i < 9)).st (by omega) |>.mono (fun i g => hc1 g)))
                                        · first
                                          | (exfalso; omega (config := {splitDisjunctions := false}))
                                          | exact absurd rfl h110
                                          | skip
                                            refine q_aload (pc := 113) rfl rfl rfl ?_
                                            refine q_ifnull (pc := 115) rfl ?_
                                            refine q_aload (pc := 118) rfl rfl rfl ?_
                                            refine q_iload_n (pc := 120) rfl rfl ?_
                                            refine r_pf2 (pc := 121) (i := 1) rfl H hl (okO isB1 hp) (ecO isB1 hp _) rfl rfl (Nat.le_of_ble_eq_true rfl) rfl (ecO isB1 hp _) ?_
                                            intro h H
                                            refine q_goto (pc := 124) rfl ?_
                                            refine q_iload (pc := 143) rfl rfl ?_
                                            refine q_iret (pc := 145) rfl (rfl) ?_
                                            rw [q1] at kk
                                            exact kk _ _ _ q2.symm H (A.now (S := fun i => 1 ≤ i ∧ i < 9) (sf.rf.st (by omega)) (fun i g => Or.inl (by omega)) hβ) KU (k1.tr ((sf.rf (S := fun i => 1 ≤ i ∧ i < 9)).st (by omega) |>.mono (fun i g => hc1 g)))
                        · first
                          | (exfalso; omega (config := {splitDisjunctions := false}))
                          | exact absurd rfl h44
                          | skip
                            refine q_aload_n (pc := 47) rfl rfl rfl ?_
                            refine q_getf (pc := 48) rfl (by first | exact HR.X' H hl | exact HR.B H hl isB1 A.1 | exact HR.O H hl isB1 A.1 hp) rfl rfl ?_
                            refine q_iload_n (pc := 51) rfl rfl ?_
                            refine r_pf2 (pc := 52) (i := 4) rfl H hl (okB isB1) (ecB isB1 _) rfl rfl (Nat.le_of_ble_eq_true rfl) rfl (ecB isB1 _) ?_
                            intro h H
                            have hβ := BT.pt (v := v0) (c := 1) (i := 4) A.1 (Or.inr (Or.inr (Or.inr ⟨rfl, by decide, by decide, rfl⟩)))
                            refine q_goto (pc := 55) rfl ?_
                            refine q_iload (pc := 143) rfl rfl ?_
                            refine q_iret (pc := 145) rfl (rfl) ?_
                            rw [q1] at kk
                            exact kk _ _ _ q2.symm H (A.now (S := fun i => 1 ≤ i ∧ i < 9) (sf.rf.st (by omega)) (fun i g => Or.inl (by omega)) hβ) KU (k1.tr ((sf.rf (S := fun i => 1 ≤ i ∧ i < 9)).st (by omega) |>.mono (fun i g => hc1 g)))
                      · refine q_astore (pc := 41) [_, _, _, _, _, _] rfl rfl (Nat.le_of_ble_eq_true rfl) rfl ?_
                        refine q_iload_n (pc := 43) rfl rfl ?_
                        first | refine n_ifne (pc := 44) rfl (by omega) (fun h44 => ?_) (fun h44 => ?_) | refine q_ifne (pc := 44) rfl (fun h44 => ?_) (fun h44 => ?_)
                        · first
                          | (exfalso; omega (config := {splitDisjunctions := false}))
                          | exact absurd rfl h44
                          | skip
                            refine q_iload_n (pc := 58) rfl rfl ?_
                            refine q_iconst (pc := 59) rfl (nI 1) (by decide) ?_
                            first | refine n_icmpne (pc := 60) rfl (by omega) (by omega) (fun h60 => ?_) (fun h60 => ?_) | refine q_icmpne (pc := 60) rfl (fun h60 => ?_) (fun h60 => ?_)
                            · first
                              | (exfalso; omega (config := {splitDisjunctions := false}))
                              | exact absurd rfl h60
                              | skip
                                refine q_iload_n (pc := 83) rfl rfl ?_
                                refine q_iconst (pc := 84) rfl (nI 2) (by decide) ?_
                                first | refine n_icmpne (pc := 85) rfl (by omega) (by omega) (fun h85 => ?_) (fun h85 => ?_) | refine q_icmpne (pc := 85) rfl (fun h85 => ?_) (fun h85 => ?_)
                                · first
                                  | (exfalso; omega (config := {splitDisjunctions := false}))
                                  | exact absurd rfl h85
                                  | skip
                                    refine q_iload_n (pc := 108) rfl rfl ?_
                                    refine q_iconst (pc := 109) rfl (nI 3) (by decide) ?_
                                    first | refine n_icmpne (pc := 110) rfl (by omega) (by omega) (fun h110 => ?_) (fun h110 => ?_) | refine q_icmpne (pc := 110) rfl (fun h110 => ?_) (fun h110 => ?_)
                                    · first
                                      | (exfalso; omega (config := {splitDisjunctions := false}))
                                      | exact absurd rfl h110
                                      | skip
                                        refine q_iload_n (pc := 127) rfl rfl ?_
                                        refine q_iconst (pc := 128) rfl (nI 4) (by decide) ?_
                                        first | refine n_icmpne (pc := 129) rfl (by omega) (by omega) (fun h129 => ?_) (fun h129 => ?_) | refine q_icmpne (pc := 129) rfl (fun h129 => ?_) (fun h129 => ?_)
                                        · first
                                          | (exfalso; omega (config := {splitDisjunctions := false}))
                                          | exact absurd rfl h129
                                          | skip
                                            refine q_iload (pc := 143) rfl rfl ?_
                                            refine q_iret (pc := 145) rfl (rfl) ?_
                                            rw [q1] at kk
                                            exact kk _ _ _ q2.symm H (A.now (S := fun i => 1 ≤ i ∧ i < 9) (sf.rf.st (by omega)) (fun i g => Or.inl (by omega)) hβ) KU (k1.tr ((sf.rf (S := fun i => 1 ≤ i ∧ i < 9)).st (by omega) |>.mono (fun i g => hc1 g)))
                                        · first
                                          | (exfalso; omega (config := {splitDisjunctions := false}))
                                          | exact absurd rfl h129
                                          | skip
                                            refine q_aload (pc := 132) rfl rfl rfl ?_
                                            refine q_ifnullN (pc := 134) rfl ?_
                                            refine q_iload (pc := 143) rfl rfl ?_
                                            refine q_iret (pc := 145) rfl (rfl) ?_
                                            rw [q1] at kk
                                            exact kk _ _ _ q2.symm H (A.now (S := fun i => 1 ≤ i ∧ i < 9) (sf.rf.st (by omega)) (fun i g => Or.inl (by omega)) hβ) KU (k1.tr ((sf.rf (S := fun i => 1 ≤ i ∧ i < 9)).st (by omega) |>.mono (fun i g => hc1 g)))
                                    · first
                                      | (exfalso; omega (config := {splitDisjunctions := false}))
                                      | exact absurd rfl h110
                                      | skip
                                        refine q_aload (pc := 113) rfl rfl rfl ?_
                                        refine q_ifnullN (pc := 115) rfl ?_
                                        refine q_iload_n (pc := 127) rfl rfl ?_
                                        refine q_iconst (pc := 128) rfl (nI 4) (by decide) ?_
                                        first | refine n_icmpne (pc := 129) rfl (by omega) (by omega) (fun h129 => ?_) (fun h129 => ?_) | refine q_icmpne (pc := 129) rfl (fun h129 => ?_) (fun h129 => ?_)
                                        · first
                                          | (exfalso; omega (config := {splitDisjunctions := false}))
                                          | exact absurd rfl h129
                                          | skip
                                            refine q_iload (pc := 143) rfl rfl ?_
                                            refine q_iret (pc := 145) rfl (rfl) ?_
                                            rw [q1] at kk
                                            exact kk _ _ _ q2.symm H (A.now (S := fun i => 1 ≤ i ∧ i < 9) (sf.rf.st (by omega)) (fun i g => Or.inl (by omega)) hβ) KU (k1.tr ((sf.rf (S := fun i => 1 ≤ i ∧ i < 9)).st (by omega) |>.mono (fun i g => hc1 g)))
                                        · first
                                          | (exfalso; omega (config := {splitDisjunctions := false}))
                                          | exact absurd rfl h129
                                          | skip
                                            refine q_aload (pc := 132) rfl rfl rfl ?_
                                            refine q_ifnullN (pc := 134) rfl ?_
                                            refine q_iload (pc := 143) rfl rfl ?_
                                            refine q_iret (pc := 145) rfl (rfl) ?_
                                            rw [q1] at kk
                                            exact kk _ _ _ q2.symm H (A.now (S := fun i => 1 ≤ i ∧ i < 9) (sf.rf.st (by omega)) (fun i g => Or.inl (by omega)) hβ) KU (k1.tr ((sf.rf (S := fun i => 1 ≤ i ∧ i < 9)).st (by omega) |>.mono (fun i g => hc1 g)))
                                · first
                                  | (exfalso; omega (config := {splitDisjunctions := false}))
                                  | exact absurd rfl h85
                                  | skip
                                    refine q_iload_n (pc := 88) rfl rfl ?_
                                    refine q_callS (pc := 89) _ (by decide) rfl rfl rfl rfl (Nat.le_of_ble_eq_true rfl) (by omega) _ rfl ?_
                                    refine c_isCell (fun c0 hc0 hx0 => ?_) (fun gc => ?_)
                                    · refine q_ifeq (pc := 92) rfl (fun z => absurd z (by decide)) (fun _ => ?_)
                                      refine q_aload_n (pc := 95) rfl rfl rfl ?_
                                      refine q_getf (pc := 96) rfl (by first | exact HR.X' H hl | exact HR.B H hl isB1 A.1 | exact HR.O H hl isB1 A.1 hp) rfl rfl ?_
                                      refine q_getf (pc := 99) rfl (by first | exact HR.X' H hl | exact HR.B H hl isB1 A.1 | exact HR.O H hl isB1 A.1 hp) rfl rfl ?_
                                      refine q_iload_n (pc := 102) rfl rfl ?_
                                      refine q_iload_n (pc := 103) rfl rfl ?_
                                      refine r_ist2 (pc := 104) rfl H hl (okB2 isB1) (ecB2 isB1) rfl (by omega) (by omega) ?_
                                      intro h H
                                      refine q_goto (pc := 105) rfl ?_
                                      refine q_iload (pc := 143) rfl rfl ?_
                                      refine q_iret (pc := 145) rfl (rfl) ?_
                                      rw [q1] at kk
                                      exact kk _ _ _ q2.symm H (A.now (S := fun i => 1 ≤ i ∧ i < 9) (sf.rf.st (by omega)) (fun i g => Or.inl (by omega)) hβ) KU (k1.tr ((sf.rf (S := fun i => 1 ≤ i ∧ i < 9)).st (by omega) |>.mono (fun i g => hc1 g)))
                                    · refine q_ifeq (pc := 92) rfl (fun _ => ?_) (fun z => absurd (by decide) z)
                                      refine q_iload_n (pc := 108) rfl rfl ?_
                                      refine q_iconst (pc := 109) rfl (nI 3) (by decide) ?_
                                      first | refine n_icmpne (pc := 110) rfl (by omega) (by omega) (fun h110 => ?_) (fun h110 => ?_) | refine q_icmpne (pc := 110) rfl (fun h110 => ?_) (fun h110 => ?_)
                                      · first
                                        | (exfalso; omega (config := {splitDisjunctions := false}))
                                        | exact absurd rfl h110
                                        | skip
                                          refine q_iload_n (pc := 127) rfl rfl ?_
                                          refine q_iconst (pc := 128) rfl (nI 4) (by decide) ?_
                                          first | refine n_icmpne (pc := 129) rfl (by omega) (by omega) (fun h129 => ?_) (fun h129 => ?_) | refine q_icmpne (pc := 129) rfl (fun h129 => ?_) (fun h129 => ?_)
                                          · first
                                            | (exfalso; omega (config := {splitDisjunctions := false}))
                                            | exact absurd rfl h129
                                            | skip
                                              refine q_iload (pc := 143) rfl rfl ?_
                                              refine q_iret (pc := 145) rfl (rfl) ?_
                                              rw [q1] at kk
                                              exact kk _ _ _ q2.symm H (A.now (S := fun i => 1 ≤ i ∧ i < 9) (sf.rf.st (by omega)) (fun i g => Or.inl (by omega)) hβ) KU (k1.tr ((sf.rf (S := fun i => 1 ≤ i ∧ i < 9)).st (by omega) |>.mono (fun i g => hc1 g)))
                                          · first
                                            | (exfalso; omega (config := {splitDisjunctions := false}))
                                            | exact absurd rfl h129
                                            | skip
                                              refine q_aload (pc := 132) rfl rfl rfl ?_
                                              refine q_ifnullN (pc := 134) rfl ?_
                                              refine q_iload (pc := 143) rfl rfl ?_
                                              refine q_iret (pc := 145) rfl (rfl) ?_
                                              rw [q1] at kk
                                              exact kk _ _ _ q2.symm H (A.now (S := fun i => 1 ≤ i ∧ i < 9) (sf.rf.st (by omega)) (fun i g => Or.inl (by omega)) hβ) KU (k1.tr ((sf.rf (S := fun i => 1 ≤ i ∧ i < 9)).st (by omega) |>.mono (fun i g => hc1 g)))
                                      · first
                                        | (exfalso; omega (config := {splitDisjunctions := false}))
                                        | exact absurd rfl h110
                                        | skip
                                          refine q_aload (pc := 113) rfl rfl rfl ?_
                                          refine q_ifnullN (pc := 115) rfl ?_
                                          refine q_iload_n (pc := 127) rfl rfl ?_
                                          refine q_iconst (pc := 128) rfl (nI 4) (by decide) ?_
                                          first | refine n_icmpne (pc := 129) rfl (by omega) (by omega) (fun h129 => ?_) (fun h129 => ?_) | refine q_icmpne (pc := 129) rfl (fun h129 => ?_) (fun h129 => ?_)
                                          · first
                                            | (exfalso; omega (config := {splitDisjunctions := false}))
                                            | exact absurd rfl h129
                                            | skip
                                              refine q_iload (pc := 143) rfl rfl ?_
                                              refine q_iret (pc := 145) rfl (rfl) ?_
                                              rw [q1] at kk
                                              exact kk _ _ _ q2.symm H (A.now (S := fun i => 1 ≤ i ∧ i < 9) (sf.rf.st (by omega)) (fun i g => Or.inl (by omega)) hβ) KU (k1.tr ((sf.rf (S := fun i => 1 ≤ i ∧ i < 9)).st (by omega) |>.mono (fun i g => hc1 g)))
                                          · first
                                            | (exfalso; omega (config := {splitDisjunctions := false}))
                                            | exact absurd rfl h129
                                            | skip
                                              refine q_aload (pc := 132) rfl rfl rfl ?_
                                              refine q_ifnullN (pc := 134) rfl ?_
                                              refine q_iload (pc := 143) rfl rfl ?_
                                              refine q_iret (pc := 145) rfl (rfl) ?_
                                              rw [q1] at kk
                                              exact kk _ _ _ q2.symm H (A.now (S := fun i => 1 ≤ i ∧ i < 9) (sf.rf.st (by omega)) (fun i g => Or.inl (by omega)) hβ) KU (k1.tr ((sf.rf (S := fun i => 1 ≤ i ∧ i < 9)).st (by omega) |>.mono (fun i g => hc1 g)))
                            · first
                              | (exfalso; omega (config := {splitDisjunctions := false}))
                              | exact absurd rfl h60
                              | skip
                                refine q_iload_n (pc := 63) rfl rfl ?_
                                refine q_callS (pc := 64) _ (by decide) rfl rfl rfl rfl (Nat.le_of_ble_eq_true rfl) (by omega) _ rfl ?_
                                refine c_isCell (fun c0 hc0 hx0 => ?_) (fun gc => ?_)
                                · refine q_ifeq (pc := 67) rfl (fun z => absurd z (by decide)) (fun _ => ?_)
                                  refine q_aload_n (pc := 70) rfl rfl rfl ?_
                                  refine q_getf (pc := 71) rfl (by first | exact HR.X' H hl | exact HR.B H hl isB1 A.1 | exact HR.O H hl isB1 A.1 hp) rfl rfl ?_
                                  refine q_getf (pc := 74) rfl (by first | exact HR.X' H hl | exact HR.B H hl isB1 A.1 | exact HR.O H hl isB1 A.1 hp) rfl rfl ?_
                                  refine q_iload_n (pc := 77) rfl rfl ?_
                                  refine q_iload_n (pc := 78) rfl rfl ?_
                                  refine r_ist2 (pc := 79) rfl H hl (okB1 isB1) (ecB1 isB1) rfl (by omega) (by omega) ?_
                                  intro h H
                                  refine q_goto (pc := 80) rfl ?_
                                  refine q_iload (pc := 143) rfl rfl ?_
                                  refine q_iret (pc := 145) rfl (rfl) ?_
                                  rw [q1] at kk
                                  exact kk _ _ _ q2.symm H (A.now (S := fun i => 1 ≤ i ∧ i < 9) (sf.rf.st (by omega)) (fun i g => Or.inl (by omega)) hβ) KU (k1.tr ((sf.rf (S := fun i => 1 ≤ i ∧ i < 9)).st (by omega) |>.mono (fun i g => hc1 g)))
                                · refine q_ifeq (pc := 67) rfl (fun _ => ?_) (fun z => absurd (by decide) z)
                                  refine q_iload_n (pc := 83) rfl rfl ?_
                                  refine q_iconst (pc := 84) rfl (nI 2) (by decide) ?_
                                  first | refine n_icmpne (pc := 85) rfl (by omega) (by omega) (fun h85 => ?_) (fun h85 => ?_) | refine q_icmpne (pc := 85) rfl (fun h85 => ?_) (fun h85 => ?_)
                                  · first
                                    | (exfalso; omega (config := {splitDisjunctions := false}))
                                    | exact absurd rfl h85
                                    | skip
                                      refine q_iload_n (pc := 108) rfl rfl ?_
                                      refine q_iconst (pc := 109) rfl (nI 3) (by decide) ?_
                                      first | refine n_icmpne (pc := 110) rfl (by omega) (by omega) (fun h110 => ?_) (fun h110 => ?_) | refine q_icmpne (pc := 110) rfl (fun h110 => ?_) (fun h110 => ?_)
                                      · first
                                        | (exfalso; omega (config := {splitDisjunctions := false}))
                                        | exact absurd rfl h110
                                        | skip
                                          refine q_iload_n (pc := 127) rfl rfl ?_
                                          refine q_iconst (pc := 128) rfl (nI 4) (by decide) ?_
                                          first | refine n_icmpne (pc := 129) rfl (by omega) (by omega) (fun h129 => ?_) (fun h129 => ?_) | refine q_icmpne (pc := 129) rfl (fun h129 => ?_) (fun h129 => ?_)
                                          · first
                                            | (exfalso; omega (config := {splitDisjunctions := false}))
                                            | exact absurd rfl h129
                                            | skip
                                              refine q_iload (pc := 143) rfl rfl ?_
                                              refine q_iret (pc := 145) rfl (rfl) ?_
                                              rw [q1] at kk
                                              exact kk _ _ _ q2.symm H (A.now (S := fun i => 1 ≤ i ∧ i < 9) (sf.rf.st (by omega)) (fun i g => Or.inl (by omega)) hβ) KU (k1.tr ((sf.rf (S := fun i => 1 ≤ i ∧ i < 9)).st (by omega) |>.mono (fun i g => hc1 g)))
                                          · first
                                            | (exfalso; omega (config := {splitDisjunctions := false}))
                                            | exact absurd rfl h129
                                            | skip
                                              refine q_aload (pc := 132) rfl rfl rfl ?_
                                              refine q_ifnullN (pc := 134) rfl ?_
                                              refine q_iload (pc := 143) rfl rfl ?_
                                              refine q_iret (pc := 145) rfl (rfl) ?_
                                              rw [q1] at kk
                                              exact kk _ _ _ q2.symm H (A.now (S := fun i => 1 ≤ i ∧ i < 9) (sf.rf.st (by omega)) (fun i g => Or.inl (by omega)) hβ) KU (k1.tr ((sf.rf (S := fun i => 1 ≤ i ∧ i < 9)).st (by omega) |>.mono (fun i g => hc1 g)))
                                      · first
                                        | (exfalso; omega (config := {splitDisjunctions := false}))
                                        | exact absurd rfl h110
                                        | skip
                                          refine q_aload (pc := 113) rfl rfl rfl ?_
                                          refine q_ifnullN (pc := 115) rfl ?_
                                          refine q_iload_n (pc := 127) rfl rfl ?_
                                          refine q_iconst (pc := 128) rfl (nI 4) (by decide) ?_
                                          first | refine n_icmpne (pc := 129) rfl (by omega) (by omega) (fun h129 => ?_) (fun h129 => ?_) | refine q_icmpne (pc := 129) rfl (fun h129 => ?_) (fun h129 => ?_)
                                          · first
                                            | (exfalso; omega (config := {splitDisjunctions := false}))
                                            | exact absurd rfl h129
                                            | skip
                                              refine q_iload (pc := 143) rfl rfl ?_
                                              refine q_iret (pc := 145) rfl (rfl) ?_
                                              rw [q1] at kk
                                              exact kk _ _ _ q2.symm H (A.now (S := fun i => 1 ≤ i ∧ i < 9) (sf.rf.st (by omega)) (fun i g => Or.inl (by omega)) hβ) KU (k1.tr ((sf.rf (S := fun i => 1 ≤ i ∧ i < 9)).st (by omega) |>.mono (fun i g => hc1 g)))
                                          · first
                                            | (exfalso; omega (config := {splitDisjunctions := false}))
                                            | exact absurd rfl h129
                                            | skip
                                              refine q_aload (pc := 132) rfl rfl rfl ?_
                                              refine q_ifnullN (pc := 134) rfl ?_
                                              refine q_iload (pc := 143) rfl rfl ?_
                                              refine q_iret (pc := 145) rfl (rfl) ?_
                                              rw [q1] at kk
                                              exact kk _ _ _ q2.symm H (A.now (S := fun i => 1 ≤ i ∧ i < 9) (sf.rf.st (by omega)) (fun i g => Or.inl (by omega)) hβ) KU (k1.tr ((sf.rf (S := fun i => 1 ≤ i ∧ i < 9)).st (by omega) |>.mono (fun i g => hc1 g)))
                                  · first
                                    | (exfalso; omega (config := {splitDisjunctions := false}))
                                    | exact absurd rfl h85
                                    | skip
                                      refine q_iload_n (pc := 88) rfl rfl ?_
                                      refine q_callS (pc := 89) _ (by decide) rfl rfl rfl rfl (Nat.le_of_ble_eq_true rfl) (by omega) _ rfl ?_
                                      refine c_isCell (fun c0 hc0 hx0 => ?_) (fun gc => ?_)
                                      · refine q_ifeq (pc := 92) rfl (fun z => absurd z (by decide)) (fun _ => ?_)
                                        refine q_aload_n (pc := 95) rfl rfl rfl ?_
                                        refine q_getf (pc := 96) rfl (by first | exact HR.X' H hl | exact HR.B H hl isB1 A.1 | exact HR.O H hl isB1 A.1 hp) rfl rfl ?_
                                        refine q_getf (pc := 99) rfl (by first | exact HR.X' H hl | exact HR.B H hl isB1 A.1 | exact HR.O H hl isB1 A.1 hp) rfl rfl ?_
                                        refine q_iload_n (pc := 102) rfl rfl ?_
                                        refine q_iload_n (pc := 103) rfl rfl ?_
                                        refine r_ist2 (pc := 104) rfl H hl (okB2 isB1) (ecB2 isB1) rfl (by omega) (by omega) ?_
                                        intro h H
                                        refine q_goto (pc := 105) rfl ?_
                                        refine q_iload (pc := 143) rfl rfl ?_
                                        refine q_iret (pc := 145) rfl (rfl) ?_
                                        rw [q1] at kk
                                        exact kk _ _ _ q2.symm H (A.now (S := fun i => 1 ≤ i ∧ i < 9) (sf.rf.st (by omega)) (fun i g => Or.inl (by omega)) hβ) KU (k1.tr ((sf.rf (S := fun i => 1 ≤ i ∧ i < 9)).st (by omega) |>.mono (fun i g => hc1 g)))
                                      · refine q_ifeq (pc := 92) rfl (fun _ => ?_) (fun z => absurd (by decide) z)
                                        refine q_iload_n (pc := 108) rfl rfl ?_
                                        refine q_iconst (pc := 109) rfl (nI 3) (by decide) ?_
                                        first | refine n_icmpne (pc := 110) rfl (by omega) (by omega) (fun h110 => ?_) (fun h110 => ?_) | refine q_icmpne (pc := 110) rfl (fun h110 => ?_) (fun h110 => ?_)
                                        · first
                                          | (exfalso; omega (config := {splitDisjunctions := false}))
                                          | exact absurd rfl h110
                                          | skip
                                            refine q_iload_n (pc := 127) rfl rfl ?_
                                            refine q_iconst (pc := 128) rfl (nI 4) (by decide) ?_
                                            first | refine n_icmpne (pc := 129) rfl (by omega) (by omega) (fun h129 => ?_) (fun h129 => ?_) | refine q_icmpne (pc := 129) rfl (fun h129 => ?_) (fun h129 => ?_)
                                            · first
                                              | (exfalso; omega (config := {splitDisjunctions := false}))
                                              | exact absurd rfl h129
                                              | skip
                                                refine q_iload (pc := 143) rfl rfl ?_
                                                refine q_iret (pc := 145) rfl (rfl) ?_
                                                rw [q1] at kk
                                                exact kk _ _ _ q2.symm H (A.now (S := fun i => 1 ≤ i ∧ i < 9) (sf.rf.st (by omega)) (fun i g => Or.inl (by omega)) hβ) KU (k1.tr ((sf.rf (S := fun i => 1 ≤ i ∧ i < 9)).st (by omega) |>.mono (fun i g => hc1 g)))
                                            · first
                                              | (exfalso; omega (config := {splitDisjunctions := false}))
                                              | exact absurd rfl h129
                                              | skip
                                                refine q_aload (pc := 132) rfl rfl rfl ?_
                                                refine q_ifnullN (pc := 134) rfl ?_
                                                refine q_iload (pc := 143) rfl rfl ?_
                                                refine q_iret (pc := 145) rfl (rfl) ?_
                                                rw [q1] at kk
                                                exact kk _ _ _ q2.symm H (A.now (S := fun i => 1 ≤ i ∧ i < 9) (sf.rf.st (by omega)) (fun i g => Or.inl (by omega)) hβ) KU (k1.tr ((sf.rf (S := fun i => 1 ≤ i ∧ i < 9)).st (by omega) |>.mono (fun i g => hc1 g)))
                                        · first
                                          | (exfalso; omega (config := {splitDisjunctions := false}))
                                          | exact absurd rfl h110
                                          | skip
                                            refine q_aload (pc := 113) rfl rfl rfl ?_
                                            refine q_ifnullN (pc := 115) rfl ?_
                                            refine q_iload_n (pc := 127) rfl rfl ?_
                                            refine q_iconst (pc := 128) rfl (nI 4) (by decide) ?_
                                            first | refine n_icmpne (pc := 129) rfl (by omega) (by omega) (fun h129 => ?_) (fun h129 => ?_) | refine q_icmpne (pc := 129) rfl (fun h129 => ?_) (fun h129 => ?_)
                                            · first
                                              | (exfalso; omega (config := {splitDisjunctions := false}))
                                              | exact absurd rfl h129
                                              | skip
                                                refine q_iload (pc := 143) rfl rfl ?_
                                                refine q_iret (pc := 145) rfl (rfl) ?_
                                                rw [q1] at kk
                                                exact kk _ _ _ q2.symm H (A.now (S := fun i => 1 ≤ i ∧ i < 9) (sf.rf.st (by omega)) (fun i g => Or.inl (by omega)) hβ) KU (k1.tr ((sf.rf (S := fun i => 1 ≤ i ∧ i < 9)).st (by omega) |>.mono (fun i g => hc1 g)))
                                            · first
                                              | (exfalso; omega (config := {splitDisjunctions := false}))
                                              | exact absurd rfl h129
                                              | skip
                                                refine q_aload (pc := 132) rfl rfl rfl ?_
                                                refine q_ifnullN (pc := 134) rfl ?_
                                                refine q_iload (pc := 143) rfl rfl ?_
                                                refine q_iret (pc := 145) rfl (rfl) ?_
                                                rw [q1] at kk
                                                exact kk _ _ _ q2.symm H (A.now (S := fun i => 1 ≤ i ∧ i < 9) (sf.rf.st (by omega)) (fun i g => Or.inl (by omega)) hβ) KU (k1.tr ((sf.rf (S := fun i => 1 ≤ i ∧ i < 9)).st (by omega) |>.mono (fun i g => hc1 g)))
                        · first
                          | (exfalso; omega (config := {splitDisjunctions := false}))
                          | exact absurd rfl h44
                          | skip
                            refine q_aload_n (pc := 47) rfl rfl rfl ?_
                            refine q_getf (pc := 48) rfl (by first | exact HR.X' H hl | exact HR.B H hl isB1 A.1 | exact HR.O H hl isB1 A.1 hp) rfl rfl ?_
                            refine q_iload_n (pc := 51) rfl rfl ?_
                            refine r_pf2 (pc := 52) (i := 4) rfl H hl (okB isB1) (ecB isB1 _) rfl rfl (Nat.le_of_ble_eq_true rfl) rfl (ecB isB1 _) ?_
                            intro h H
                            have hβ := BT.pt (v := v0) (c := 1) (i := 4) A.1 (Or.inr (Or.inr (Or.inr ⟨rfl, by decide, by decide, rfl⟩)))
                            refine q_goto (pc := 55) rfl ?_
                            refine q_iload (pc := 143) rfl rfl ?_
                            refine q_iret (pc := 145) rfl (rfl) ?_
                            rw [q1] at kk
                            exact kk _ _ _ q2.symm H (A.now (S := fun i => 1 ≤ i ∧ i < 9) (sf.rf.st (by omega)) (fun i g => Or.inl (by omega)) hβ) KU (k1.tr ((sf.rf (S := fun i => 1 ≤ i ∧ i < 9)).st (by omega) |>.mono (fun i g => hc1 g)))
                  · first
                    | (exfalso; omega (config := {splitDisjunctions := false}))
                    | skip
                      refine q_bipush (pc := 30) rfl (-2) (by decide) ?_
                      refine q_iret (pc := 32) rfl (rfl) ?_
                      fail
    · obtain ⟨q1, q2⟩ := o_set1 (β := β) (x := nI 0) (y := y) (z := z) (by rw [eM.out]; exact ez)
      rw [q1] at kk
      refine q_aload_n (pc := 0) rfl rfl rfl ?_
      refine q_iload_n (pc := 1) rfl rfl ?_
      refine q_iload_n (pc := 2) rfl rfl ?_
      refine q_callV (pc := 3) _ rfl rfl rfl (by exact HR.X' H hl) rfl (Nat.le_of_ble_eq_true rfl) (by omega) _ rfl ?_
      refine c_told (by omega) H hl A K ?_
      intro h s1 H A k1
      rw [o_told, e.out, if_pos (by omega)]
      refine q_istore (pc := 6) [_, _, _, _, _, _] rfl (Nat.le_of_ble_eq_true rfl) rfl ?_
      refine q_iload (pc := 8) rfl rfl ?_
      refine q_iflt (pc := 10) rfl (fun h10 => ?_) (fun h10 => ?_)
      · first
        | (exfalso; omega (config := {splitDisjunctions := false}))
        | exact absurd h10 (nI_pos (by omega))
        | skip
          refine q_bipush (pc := 30) rfl (-2) (by decide) ?_
          refine q_iret (pc := 32) rfl (rfl) ?_
          exact kk _ _ _ q2.symm H A K k1
      · first
        | (exfalso; omega (config := {splitDisjunctions := false}))
        | exact absurd h10 (nI_pos (by omega))
        | skip
          refine q_iload_n (pc := 13) rfl rfl ?_
          refine q_iconst (pc := 14) rfl (nI 4) (by decide) ?_
          first | refine n_icmpgt (pc := 15) rfl (by omega) (by omega) (fun h15 => ?_) (fun h15 => ?_) | refine q_icmpgt (pc := 15) rfl (fun h15 => ?_) (fun h15 => ?_)
          · first
            | (exfalso; omega (config := {splitDisjunctions := false}))
            | skip
              refine q_bipush (pc := 30) rfl (-2) (by decide) ?_
              refine q_iret (pc := 32) rfl (rfl) ?_
              exact kk _ _ _ q2.symm H A K k1
          · first
            | (exfalso; omega (config := {splitDisjunctions := false}))
            | skip
              refine q_iload_n (pc := 18) rfl rfl ?_
              refine q_iflt (pc := 19) rfl (fun h19 => ?_) (fun h19 => ?_)
              · first
                | (exfalso; omega (config := {splitDisjunctions := false}))
                | skip
                  refine q_bipush (pc := 30) rfl (-2) (by decide) ?_
                  refine q_iret (pc := 32) rfl (rfl) ?_
                  exact kk _ _ _ q2.symm H A K k1
              · first
                | (exfalso; omega (config := {splitDisjunctions := false}))
                | skip
                  refine q_iload_n (pc := 22) rfl rfl ?_
                  refine q_iload_n (pc := 23) rfl rfl ?_
                  refine q_callS (pc := 24) _ (by decide) rfl rfl rfl rfl (Nat.le_of_ble_eq_true rfl) (by omega) _ rfl ?_
                  refine c_mostOf (by decide) ?_
                  rw [eM.out]
                  refine q_icmple (pc := 27) rfl (fun h27 => ?_) (fun h27 => ?_)
                  · exact (z_out gz h19 h27 (by decide)).elim
                  · first
                    | (exfalso; omega (config := {splitDisjunctions := false}))
                    | skip
                      refine q_bipush (pc := 30) rfl (-2) (by decide) ?_
                      refine q_iret (pc := 32) rfl (rfl) ?_
                      exact kk _ _ _ q2.symm H A K k1
  · have hJ := bok_le KK (show c < 90 by omega)
    have eM : Hd (mst (nI 1) = 10) := by unfold Hd; decide
    rcases rgc 10 (by decide) z with ⟨v0, hv0, rfl, ez⟩ | ⟨gz, ez⟩
    · obtain ⟨q1, q2⟩ := o_set2 (y := nI c) (show 1 < 5 by decide) eM.out hv0 (by decide) e.out (by omega)
      have KU := K.up (j := c) (v0 := v0) (by simp only [pltb]; (repeat' split) <;> omega) K0
      refine q_aload_n (pc := 0) rfl rfl rfl ?_
      refine q_iload_n (pc := 1) rfl rfl ?_
      refine q_iload_n (pc := 2) rfl rfl ?_
      refine q_callV (pc := 3) _ rfl rfl rfl (by first | exact HR.X' H hl | exact HR.B H hl isB1 A.1 | exact HR.O H hl isB1 A.1 hp) rfl (Nat.le_of_ble_eq_true rfl) (by omega) _ rfl ?_
      refine c_told (by omega) H hl A K ?_
      intro h s1 H A k1
      rw [o_told, e.out, if_pos (by omega)]
      refine q_istore (pc := 6) [_, _, _, _, _, _] rfl (Nat.le_of_ble_eq_true rfl) rfl ?_
      refine q_iload (pc := 8) rfl rfl ?_
      refine q_iflt (pc := 10) rfl (fun h10 => ?_) (fun h10 => ?_)
      · first
        | (exfalso; omega (config := {splitDisjunctions := false}))
        | exact absurd h10 (nI_pos (by omega))
        | skip
          refine q_bipush (pc := 30) rfl (-2) (by decide) ?_
          refine q_iret (pc := 32) rfl (rfl) ?_
          fail
      · first
        | (exfalso; omega (config := {splitDisjunctions := false}))
        | exact absurd h10 (nI_pos (by omega))
        | skip
          refine q_iload_n (pc := 13) rfl rfl ?_
          refine q_iconst (pc := 14) rfl (nI 4) (by decide) ?_
          first | refine n_icmpgt (pc := 15) rfl (by omega) (by omega) (fun h15 => ?_) (fun h15 => ?_) | refine q_icmpgt (pc := 15) rfl (fun h15 => ?_) (fun h15 => ?_)
          · first
            | (exfalso; omega (config := {splitDisjunctions := false}))
            | skip
              refine q_bipush (pc := 30) rfl (-2) (by decide) ?_
              refine q_iret (pc := 32) rfl (rfl) ?_
              fail
          · first
            | (exfalso; omega (config := {splitDisjunctions := false}))
            | skip
              refine q_iload_n (pc := 18) rfl rfl ?_
              refine q_iflt (pc := 19) rfl (fun h19 => ?_) (fun h19 => ?_)
              · first
                | (exfalso; omega (config := {splitDisjunctions := false}))
                | exact absurd h19 (nI_pos (by omega))
                | skip
                  refine q_bipush (pc := 30) rfl (-2) (by decide) ?_
                  refine q_iret (pc := 32) rfl (rfl) ?_
                  fail
              · first
                | (exfalso; omega (config := {splitDisjunctions := false}))
                | exact absurd h19 (nI_pos (by omega))
                | skip
                  refine q_iload_n (pc := 22) rfl rfl ?_
                  refine q_iload_n (pc := 23) rfl rfl ?_
                  refine q_callS (pc := 24) _ (by decide) rfl rfl rfl rfl (Nat.le_of_ble_eq_true rfl) (by omega) _ rfl ?_
                  refine c_mostOf (by decide) ?_
                  rw [eM.out]
                  first | refine n_icmple (pc := 27) rfl (by omega) (by omega) (fun h27 => ?_) (fun h27 => ?_) | refine q_icmple (pc := 27) rfl (fun h27 => ?_) (fun h27 => ?_)
                  · first
                    | (exfalso; omega (config := {splitDisjunctions := false}))
                    | skip
                      refine q_aload_n (pc := 33) rfl rfl rfl ?_
                      refine q_getf (pc := 34) rfl (by first | exact HR.X' H hl | exact HR.B H hl isB1 A.1 | exact HR.O H hl isB1 A.1 hp) rfl rfl ?_
                      refine q_iload_n (pc := 37) rfl rfl ?_
                      refine q_callV (pc := 38) _ rfl rfl rfl (by first | exact HR.X' H hl | exact HR.B H hl isB1 A.1 | exact HR.O H hl isB1 A.1 hp) rfl (Nat.le_of_ble_eq_true rfl) (by omega) _ rfl ?_
                      refine c_member H hl isB1 A.1 (fun p hp hpβ hxp => ?_) (fun gp => ?_) K4
                      · refine q_astore (pc := 41) [_, _, _, _, _, _] rfl rfl (Nat.le_of_ble_eq_true rfl) rfl ?_
                        refine q_iload_n (pc := 43) rfl rfl ?_
                        first | refine n_ifne (pc := 44) rfl (by omega) (fun h44 => ?_) (fun h44 => ?_) | refine q_ifne (pc := 44) rfl (fun h44 => ?_) (fun h44 => ?_)
                        · first
                          | (exfalso; omega (config := {splitDisjunctions := false}))
                          | exact absurd rfl h44
                          | skip
                            refine q_iload_n (pc := 58) rfl rfl ?_
                            refine q_iconst (pc := 59) rfl (nI 1) (by decide) ?_
                            first | refine n_icmpne (pc := 60) rfl (by omega) (by omega) (fun h60 => ?_) (fun h60 => ?_) | refine q_icmpne (pc := 60) rfl (fun h60 => ?_) (fun h60 => ?_)
                            · first
                              | (exfalso; omega (config := {splitDisjunctions := false}))
                              | exact absurd rfl h60
                              | skip
                                refine q_iload_n (pc := 83) rfl rfl ?_
                                refine q_iconst (pc := 84) rfl (nI 2) (by decide) ?_
                                first | refine n_icmpne (pc := 85) rfl (by omega) (by omega) (fun h85 => ?_) (fun h85 => ?_) | refine q_icmpne (pc := 85) rfl (fun h85 => ?_) (fun h85 => ?_)
                                · first
                                  | (exfalso; omega (config := {splitDisjunctions := false}))
                                  | exact absurd rfl h85
                                  | skip
                                    refine q_iload_n (pc := 108) rfl rfl ?_
                                    refine q_iconst (pc := 109) rfl (nI 3) (by decide) ?_
                                    first | refine n_icmpne (pc := 110) rfl (by omega) (by omega) (fun h110 => ?_) (fun h110 => ?_) | refine q_icmpne (pc := 110) rfl (fun h110 => ?_) (fun h110 => ?_)
                                    · first
                                      | (exfalso; omega (config := {splitDisjunctions := false}))
                                      | exact absurd rfl h110
                                      | skip
                                        refine q_iload_n (pc := 127) rfl rfl ?_
                                        refine q_iconst (pc := 128) rfl (nI 4) (by decide) ?_
                                        first | refine n_icmpne (pc := 129) rfl (by omega) (by omega) (fun h129 => ?_) (fun h129 => ?_) | refine q_icmpne (pc := 129) rfl (fun h129 => ?_) (fun h129 => ?_)
                                        · first
                                          | (exfalso; omega (config := {splitDisjunctions := false}))
                                          | exact absurd rfl h129
                                          | skip
                                            refine q_iload (pc := 143) rfl rfl ?_
                                            refine q_iret (pc := 145) rfl (rfl) ?_
                                            rw [q1] at kk
                                            exact kk _ _ _ q2.symm H (A.now (S := fun i => 1 ≤ i ∧ i < 9) (sf.rf.st (by omega)) (fun i g => Or.inl (by omega)) hβ) KU (k1.tr ((sf.rf (S := fun i => 1 ≤ i ∧ i < 9)).st (by omega) |>.mono (fun i g => hc1 g)))
                                        · first
                                          | (exfalso; omega (config := {splitDisjunctions := false}))
                                          | exact absurd rfl h129
                                          | skip
                                            refine q_aload (pc := 132) rfl rfl rfl ?_
                                            refine q_ifnull (pc := 134) rfl ?_
                                            refine q_aload (pc := 137) rfl rfl rfl ?_
                                            refine q_iload_n (pc := 139) rfl rfl ?_
                                            refine r_pf2 (pc := 140) (i := 2) rfl H hl (okO isB1 hp) (ecO isB1 hp _) rfl rfl (Nat.le_of_ble_eq_true rfl) rfl (ecO isB1 hp _) ?_
                                            intro h H
                                            refine q_iload (pc := 143) rfl rfl ?_
                                            refine q_iret (pc := 145) rfl (rfl) ?_
                                            rw [q1] at kk
                                            exact kk _ _ _ q2.symm H (A.now (S := fun i => 1 ≤ i ∧ i < 9) (sf.rf.st (by omega)) (fun i g => Or.inl (by omega)) hβ) KU (k1.tr ((sf.rf (S := fun i => 1 ≤ i ∧ i < 9)).st (by omega) |>.mono (fun i g => hc1 g)))
                                    · first
                                      | (exfalso; omega (config := {splitDisjunctions := false}))
                                      | exact absurd rfl h110
                                      | skip
                                        refine q_aload (pc := 113) rfl rfl rfl ?_
                                        refine q_ifnull (pc := 115) rfl ?_
                                        refine q_aload (pc := 118) rfl rfl rfl ?_
                                        refine q_iload_n (pc := 120) rfl rfl ?_
                                        refine r_pf2 (pc := 121) (i := 1) rfl H hl (okO isB1 hp) (ecO isB1 hp _) rfl rfl (Nat.le_of_ble_eq_true rfl) rfl (ecO isB1 hp _) ?_
                                        intro h H
                                        refine q_goto (pc := 124) rfl ?_
                                        refine q_iload (pc := 143) rfl rfl ?_
                                        refine q_iret (pc := 145) rfl (rfl) ?_
                                        rw [q1] at kk
                                        exact kk _ _ _ q2.symm H (A.now (S := fun i => 1 ≤ i ∧ i < 9) (sf.rf.st (by omega)) (fun i g => Or.inl (by omega)) hβ) KU (k1.tr ((sf.rf (S := fun i => 1 ≤ i ∧ i < 9)).st (by omega) |>.mono (fun i g => hc1 g)))
                                · first
                                  | (exfalso; omega (config := {splitDisjunctions := false}))
                                  | exact absurd rfl h85
                                  | skip
                                    refine q_iload_n (pc := 88) rfl rfl ?_
                                    refine q_callS (pc := 89) _ (by decide) rfl rfl rfl rfl (Nat.le_of_ble_eq_true rfl) (by omega) _ rfl ?_
                                    refine c_isCell (fun c0 hc0 hx0 => ?_) (fun gc => ?_)
                                    · refine q_ifeq (pc := 92) rfl (fun z => absurd z (by decide)) (fun _ => ?_)
                                      refine q_aload_n (pc := 95) rfl rfl rfl ?_
                                      refine q_getf (pc := 96) rfl (by first | exact HR.X' H hl | exact HR.B H hl isB1 A.1 | exact HR.O H hl isB1 A.1 hp) rfl rfl ?_
                                      refine q_getf (pc := 99) rfl (by first | exact HR.X' H hl | exact HR.B H hl isB1 A.1 | exact HR.O H hl isB1 A.1 hp) rfl rfl ?_
                                      refine q_iload_n (pc := 102) rfl rfl ?_
                                      refine q_iload_n (pc := 103) rfl rfl ?_
                                      refine r_ist2 (pc := 104) rfl H hl (okB2 isB1) (ecB2 isB1) rfl (by omega) (by omega) ?_
                                      intro h H
                                      refine q_goto (pc := 105) rfl ?_
                                      refine q_iload (pc := 143) rfl rfl ?_
                                      refine q_iret (pc := 145) rfl (rfl) ?_
                                      rw [q1] at kk
                                      exact kk _ _ _ q2.symm H (A.now (S := fun i => 1 ≤ i ∧ i < 9) (sf.rf.st (by omega)) (fun i g => Or.inl (by omega)) hβ) KU (k1.tr ((sf.rf (S := fun i => 1 ≤ i ∧ i < 9)).st (by omega) |>.mono (fun i g => hc1 g)))
                                    · refine q_ifeq (pc := 92) rfl (fun _ => ?_) (fun z => absurd (by decide) z)
                                      refine q_iload_n (pc := 108) rfl rfl ?_
                                      refine q_iconst (pc := 109) rfl (nI 3) (by decide) ?_
                                      first | refine n_icmpne (pc := 110) rfl (by omega) (by omega) (fun h110 => ?_) (fun h110 => ?_) | refine q_icmpne (pc := 110) rfl (fun h110 => ?_) (fun h110 => ?_)
                                      · first
                                        | (exfalso; omega (config := {splitDisjunctions := false}))
                                        | exact absurd rfl h110
                                        | skip
                                          refine q_iload_n (pc := 127) rfl rfl ?_
                                          refine q_iconst (pc := 128) rfl (nI 4) (by decide) ?_
                                          first | refine n_icmpne (pc := 129) rfl (by omega) (by omega) (fun h129 => ?_) (fun h129 => ?_) | refine q_icmpne (pc := 129) rfl (fun h129 => ?_) (fun h129 => ?_)
                                          · first
                                            | (exfalso; omega (config := {splitDisjunctions := false}))
                                            | exact absurd rfl h129
                                            | skip
                                              refine q_iload (pc := 143) rfl rfl ?_
                                              refine q_iret (pc := 145) rfl (rfl) ?_
                                              rw [q1] at kk
                                              exact kk _ _ _ q2.symm H (A.now (S := fun i => 1 ≤ i ∧ i < 9) (sf.rf.st (by omega)) (fun i g => Or.inl (by omega)) hβ) KU (k1.tr ((sf.rf (S := fun i => 1 ≤ i ∧ i < 9)).st (by omega) |>.mono (fun i g => hc1 g)))
                                          · first
                                            | (exfalso; omega (config := {splitDisjunctions := false}))
                                            | exact absurd rfl h129
                                            | skip
                                              refine q_aload (pc := 132) rfl rfl rfl ?_
                                              refine q_ifnull (pc := 134) rfl ?_
                                              refine q_aload (pc := 137) rfl rfl rfl ?_
                                              refine q_iload_n (pc := 139) rfl rfl ?_
                                              refine r_pf2 (pc := 140) (i := 2) rfl H hl (okO isB1 hp) (ecO isB1 hp _) rfl rfl (Nat.le_of_ble_eq_true rfl) rfl (ecO isB1 hp _) ?_
                                              intro h H
                                              refine q_iload (pc := 143) rfl rfl ?_
                                              refine q_iret (pc := 145) rfl (rfl) ?_
                                              rw [q1] at kk
                                              exact kk _ _ _ q2.symm H (A.now (S := fun i => 1 ≤ i ∧ i < 9) (sf.rf.st (by omega)) (fun i g => Or.inl (by omega)) hβ) KU (k1.tr ((sf.rf (S := fun i => 1 ≤ i ∧ i < 9)).st (by omega) |>.mono (fun i g => hc1 g)))
                                      · first
                                        | (exfalso; omega (config := {splitDisjunctions := false}))
                                        | exact absurd rfl h110
                                        | skip
                                          refine q_aload (pc := 113) rfl rfl rfl ?_
                                          refine q_ifnull (pc := 115) rfl ?_
                                          refine q_aload (pc := 118) rfl rfl rfl ?_
                                          refine q_iload_n (pc := 120) rfl rfl ?_
                                          refine r_pf2 (pc := 121) (i := 1) rfl H hl (okO isB1 hp) (ecO isB1 hp _) rfl rfl (Nat.le_of_ble_eq_true rfl) rfl (ecO isB1 hp _) ?_
                                          intro h H
                                          refine q_goto (pc := 124) rfl ?_
                                          refine q_iload (pc := 143) rfl rfl ?_
                                          refine q_iret (pc := 145) rfl (rfl) ?_
                                          rw [q1] at kk
                                          exact kk _ _ _ q2.symm H (A.now (S := fun i => 1 ≤ i ∧ i < 9) (sf.rf.st (by omega)) (fun i g => Or.inl (by omega)) hβ) KU (k1.tr ((sf.rf (S := fun i => 1 ≤ i ∧ i < 9)).st (by omega) |>.mono (fun i g => hc1 g)))
                            · first
                              | (exfalso; omega (config := {splitDisjunctions := false}))
                              | exact absurd rfl h60
                              | skip
                                refine q_iload_n (pc := 63) rfl rfl ?_
                                refine q_callS (pc := 64) _ (by decide) rfl rfl rfl rfl (Nat.le_of_ble_eq_true rfl) (by omega) _ rfl ?_
                                refine c_isCell (fun c0 hc0 hx0 => ?_) (fun gc => ?_)
                                · obtain rfl : c = c0 := x_eq hx0 (by omega) (by omega)
                                  refine q_ifeq (pc := 67) rfl (fun z => absurd z (by decide)) (fun _ => ?_)
                                  refine q_aload_n (pc := 70) rfl rfl rfl ?_
                                  refine q_getf (pc := 71) rfl (by first | exact HR.X' H hl | exact HR.B H hl isB1 A.1 | exact HR.O H hl isB1 A.1 hp) rfl rfl ?_
                                  refine q_getf (pc := 74) rfl (by first | exact HR.X' H hl | exact HR.B H hl isB1 A.1 | exact HR.O H hl isB1 A.1 hp) rfl rfl ?_
                                  refine q_iload_n (pc := 77) rfl rfl ?_
                                  refine q_iload_n (pc := 78) rfl rfl ?_
                                  refine r_ist2 (pc := 79) rfl H hl (okB1 isB1) (ecB1 isB1) rfl (by omega) (by omega) ?_
                                  intro h H
                                  have hβ := BT.pt (v := v0) (c := 1 + 1) (i := c) A.1 (Or.inl ⟨rfl, hc, rfl⟩)
                                  refine q_goto (pc := 80) rfl ?_
                                  refine q_iload (pc := 143) rfl rfl ?_
                                  refine q_iret (pc := 145) rfl (rfl) ?_
                                  rw [q1] at kk
                                  exact kk _ _ _ q2.symm H (A.now (S := fun i => 1 ≤ i ∧ i < 9) (sf.rf.st (by omega)) (fun i g => Or.inl (by omega)) hβ) KU (k1.tr ((sf.rf (S := fun i => 1 ≤ i ∧ i < 9)).st (by omega) |>.mono (fun i g => hc1 g)))
                                · exact (x_out hc (by decide) gc).elim
                        · first
                          | (exfalso; omega (config := {splitDisjunctions := false}))
                          | exact absurd rfl h44
                          | skip
                            refine q_aload_n (pc := 47) rfl rfl rfl ?_
                            refine q_getf (pc := 48) rfl (by first | exact HR.X' H hl | exact HR.B H hl isB1 A.1 | exact HR.O H hl isB1 A.1 hp) rfl rfl ?_
                            refine q_iload_n (pc := 51) rfl rfl ?_
                            refine r_pf2 (pc := 52) (i := 4) rfl H hl (okB isB1) (ecB isB1 _) rfl rfl (Nat.le_of_ble_eq_true rfl) rfl (ecB isB1 _) ?_
                            intro h H
                            refine q_goto (pc := 55) rfl ?_
                            refine q_iload (pc := 143) rfl rfl ?_
                            refine q_iret (pc := 145) rfl (rfl) ?_
                            rw [q1] at kk
                            exact kk _ _ _ q2.symm H (A.now (S := fun i => 1 ≤ i ∧ i < 9) (sf.rf.st (by omega)) (fun i g => Or.inl (by omega)) hβ) KU (k1.tr ((sf.rf (S := fun i => 1 ≤ i ∧ i < 9)).st (by omega) |>.mono (fun i g => hc1 g)))
                      · refine q_astore (pc := 41) [_, _, _, _, _, _] rfl rfl (Nat.le_of_ble_eq_true rfl) rfl ?_
                        refine q_iload_n (pc := 43) rfl rfl ?_
                        first | refine n_ifne (pc := 44) rfl (by omega) (fun h44 => ?_) (fun h44 => ?_) | refine q_ifne (pc := 44) rfl (fun h44 => ?_) (fun h44 => ?_)
                        · first
                          | (exfalso; omega (config := {splitDisjunctions := false}))
                          | exact absurd rfl h44
                          | skip
                            refine q_iload_n (pc := 58) rfl rfl ?_
                            refine q_iconst (pc := 59) rfl (nI 1) (by decide) ?_
                            first | refine n_icmpne (pc := 60) rfl (by omega) (by omega) (fun h60 => ?_) (fun h60 => ?_) | refine q_icmpne (pc := 60) rfl (fun h60 => ?_) (fun h60 => ?_)
                            · first
                              | (exfalso; omega (config := {splitDisjunctions := false}))
                              | exact absurd rfl h60
                              | skip
                                refine q_iload_n (pc := 83) rfl rfl ?_
                                refine q_iconst (pc := 84) rfl (nI 2) (by decide) ?_
                                first | refine n_icmpne (pc := 85) rfl (by omega) (by omega) (fun h85 => ?_) (fun h85 => ?_) | refine q_icmpne (pc := 85) rfl (fun h85 => ?_) (fun h85 => ?_)
                                · first
                                  | (exfalso; omega (config := {splitDisjunctions := false}))
                                  | exact absurd rfl h85
                                  | skip
                                    refine q_iload_n (pc := 108) rfl rfl ?_
                                    refine q_iconst (pc := 109) rfl (nI 3) (by decide) ?_
                                    first | refine n_icmpne (pc := 110) rfl (by omega) (by omega) (fun h110 => ?_) (fun h110 => ?_) | refine q_icmpne (pc := 110) rfl (fun h110 => ?_) (fun h110 => ?_)
                                    · first
                                      | (exfalso; omega (config := {splitDisjunctions := false}))
                                      | exact absurd rfl h110
                                      | skip
                                        refine q_iload_n (pc := 127) rfl rfl ?_
                                        refine q_iconst (pc := 128) rfl (nI 4) (by decide) ?_
                                        first | refine n_icmpne (pc := 129) rfl (by omega) (by omega) (fun h129 => ?_) (fun h129 => ?_) | refine q_icmpne (pc := 129) rfl (fun h129 => ?_) (fun h129 => ?_)
                                        · first
                                          | (exfalso; omega (config := {splitDisjunctions := false}))
                                          | exact absurd rfl h129
                                          | skip
                                            refine q_iload (pc := 143) rfl rfl ?_
                                            refine q_iret (pc := 145) rfl (rfl) ?_
                                            rw [q1] at kk
                                            exact kk _ _ _ q2.symm H (A.now (S := fun i => 1 ≤ i ∧ i < 9) (sf.rf.st (by omega)) (fun i g => Or.inl (by omega)) hβ) KU (k1.tr ((sf.rf (S := fun i => 1 ≤ i ∧ i < 9)).st (by omega) |>.mono (fun i g => hc1 g)))
                                        · first
                                          | (exfalso; omega (config := {splitDisjunctions := false}))
                                          | exact absurd rfl h129
                                          | skip
                                            refine q_aload (pc := 132) rfl rfl rfl ?_
                                            refine q_ifnullN (pc := 134) rfl ?_
                                            refine q_iload (pc := 143) rfl rfl ?_
                                            refine q_iret (pc := 145) rfl (rfl) ?_
                                            rw [q1] at kk
                                            exact kk _ _ _ q2.symm H (A.now (S := fun i => 1 ≤ i ∧ i < 9) (sf.rf.st (by omega)) (fun i g => Or.inl (by omega)) hβ) KU (k1.tr ((sf.rf (S := fun i => 1 ≤ i ∧ i < 9)).st (by omega) |>.mono (fun i g => hc1 g)))
                                    · first
                                      | (exfalso; omega (config := {splitDisjunctions := false}))
                                      | exact absurd rfl h110
                                      | skip
                                        refine q_aload (pc := 113) rfl rfl rfl ?_
                                        refine q_ifnullN (pc := 115) rfl ?_
                                        refine q_iload_n (pc := 127) rfl rfl ?_
                                        refine q_iconst (pc := 128) rfl (nI 4) (by decide) ?_
                                        first | refine n_icmpne (pc := 129) rfl (by omega) (by omega) (fun h129 => ?_) (fun h129 => ?_) | refine q_icmpne (pc := 129) rfl (fun h129 => ?_) (fun h129 => ?_)
                                        · first
                                          | (exfalso; omega (config := {splitDisjunctions := false}))
                                          | exact absurd rfl h129
                                          | skip
                                            refine q_iload (pc := 143) rfl rfl ?_
                                            refine q_iret (pc := 145) rfl (rfl) ?_
                                            rw [q1] at kk
                                            exact kk _ _ _ q2.symm H (A.now (S := fun i => 1 ≤ i ∧ i < 9) (sf.rf.st (by omega)) (fun i g => Or.inl (by omega)) hβ) KU (k1.tr ((sf.rf (S := fun i => 1 ≤ i ∧ i < 9)).st (by omega) |>.mono (fun i g => hc1 g)))
                                        · first
                                          | (exfalso; omega (config := {splitDisjunctions := false}))
                                          | exact absurd rfl h129
                                          | skip
                                            refine q_aload (pc := 132) rfl rfl rfl ?_
                                            refine q_ifnullN (pc := 134) rfl ?_
                                            refine q_iload (pc := 143) rfl rfl ?_
                                            refine q_iret (pc := 145) rfl (rfl) ?_
                                            rw [q1] at kk
                                            exact kk _ _ _ q2.symm H (A.now (S := fun i => 1 ≤ i ∧ i < 9) (sf.rf.st (by omega)) (fun i g => Or.inl (by omega)) hβ) KU (k1.tr ((sf.rf (S := fun i => 1 ≤ i ∧ i < 9)).st (by omega) |>.mono (fun i g => hc1 g)))
                                · first
                                  | (exfalso; omega (config := {splitDisjunctions := false}))
                                  | exact absurd rfl h85
                                  | skip
                                    refine q_iload_n (pc := 88) rfl rfl ?_
                                    refine q_callS (pc := 89) _ (by decide) rfl rfl rfl rfl (Nat.le_of_ble_eq_true rfl) (by omega) _ rfl ?_
                                    refine c_isCell (fun c0 hc0 hx0 => ?_) (fun gc => ?_)
                                    · refine q_ifeq (pc := 92) rfl (fun z => absurd z (by decide)) (fun _ => ?_)
                                      refine q_aload_n (pc := 95) rfl rfl rfl ?_
                                      refine q_getf (pc := 96) rfl (by first | exact HR.X' H hl | exact HR.B H hl isB1 A.1 | exact HR.O H hl isB1 A.1 hp) rfl rfl ?_
                                      refine q_getf (pc := 99) rfl (by first | exact HR.X' H hl | exact HR.B H hl isB1 A.1 | exact HR.O H hl isB1 A.1 hp) rfl rfl ?_
                                      refine q_iload_n (pc := 102) rfl rfl ?_
                                      refine q_iload_n (pc := 103) rfl rfl ?_
                                      refine r_ist2 (pc := 104) rfl H hl (okB2 isB1) (ecB2 isB1) rfl (by omega) (by omega) ?_
                                      intro h H
                                      refine q_goto (pc := 105) rfl ?_
                                      refine q_iload (pc := 143) rfl rfl ?_
                                      refine q_iret (pc := 145) rfl (rfl) ?_
                                      rw [q1] at kk
                                      exact kk _ _ _ q2.symm H (A.now (S := fun i => 1 ≤ i ∧ i < 9) (sf.rf.st (by omega)) (fun i g => Or.inl (by omega)) hβ) KU (k1.tr ((sf.rf (S := fun i => 1 ≤ i ∧ i < 9)).st (by omega) |>.mono (fun i g => hc1 g)))
                                    · refine q_ifeq (pc := 92) rfl (fun _ => ?_) (fun z => absurd (by decide) z)
                                      refine q_iload_n (pc := 108) rfl rfl ?_
                                      refine q_iconst (pc := 109) rfl (nI 3) (by decide) ?_
                                      first | refine n_icmpne (pc := 110) rfl (by omega) (by omega) (fun h110 => ?_) (fun h110 => ?_) | refine q_icmpne (pc := 110) rfl (fun h110 => ?_) (fun h110 => ?_)
                                      · first
                                        | (exfalso; omega (config := {splitDisjunctions := false}))
                                        | exact absurd rfl h110
                                        | skip
                                          refine q_iload_n (pc := 127) rfl rfl ?_
                                          refine q_iconst (pc := 128) rfl (nI 4) (by decide) ?_
                                          first | refine n_icmpne (pc := 129) rfl (by omega) (by omega) (fun h129 => ?_) (fun h129 => ?_) | refine q_icmpne (pc := 129) rfl (fun h129 => ?_) (fun h129 => ?_)
                                          · first
                                            | (exfalso; omega (config := {splitDisjunctions := false}))
                                            | exact absurd rfl h129
                                            | skip
                                              refine q_iload (pc := 143) rfl rfl ?_
                                              refine q_iret (pc := 145) rfl (rfl) ?_
                                              rw [q1] at kk
                                              exact kk _ _ _ q2.symm H (A.now (S := fun i => 1 ≤ i ∧ i < 9) (sf.rf.st (by omega)) (fun i g => Or.inl (by omega)) hβ) KU (k1.tr ((sf.rf (S := fun i => 1 ≤ i ∧ i < 9)).st (by omega) |>.mono (fun i g => hc1 g)))
                                          · first
                                            | (exfalso; omega (config := {splitDisjunctions := false}))
                                            | exact absurd rfl h129
                                            | skip
                                              refine q_aload (pc := 132) rfl rfl rfl ?_
                                              refine q_ifnullN (pc := 134) rfl ?_
                                              refine q_iload (pc := 143) rfl rfl ?_
                                              refine q_iret (pc := 145) rfl (rfl) ?_
                                              rw [q1] at kk
                                              exact kk _ _ _ q2.symm H (A.now (S := fun i => 1 ≤ i ∧ i < 9) (sf.rf.st (by omega)) (fun i g => Or.inl (by omega)) hβ) KU (k1.tr ((sf.rf (S := fun i => 1 ≤ i ∧ i < 9)).st (by omega) |>.mono (fun i g => hc1 g)))
                                      · first
                                        | (exfalso; omega (config := {splitDisjunctions := false}))
                                        | exact absurd rfl h110
                                        | skip
                                          refine q_aload (pc := 113) rfl rfl rfl ?_
                                          refine q_ifnullN (pc := 115) rfl ?_
                                          refine q_iload_n (pc := 127) rfl rfl ?_
                                          refine q_iconst (pc := 128) rfl (nI 4) (by decide) ?_
                                          first | refine n_icmpne (pc := 129) rfl (by omega) (by omega) (fun h129 => ?_) (fun h129 => ?_) | refine q_icmpne (pc := 129) rfl (fun h129 => ?_) (fun h129 => ?_)
                                          · first
                                            | (exfalso; omega (config := {splitDisjunctions := false}))
                                            | exact absurd rfl h129
                                            | skip
                                              refine q_iload (pc := 143) rfl rfl ?_
                                              refine q_iret (pc := 145) rfl (rfl) ?_
                                              rw [q1] at kk
                                              exact kk _ _ _ q2.symm H (A.now (S := fun i => 1 ≤ i ∧ i < 9) (sf.rf.st (by omega)) (fun i g => Or.inl (by omega)) hβ) KU (k1.tr ((sf.rf (S := fun i => 1 ≤ i ∧ i < 9)).st (by omega) |>.mono (fun i g => hc1 g)))
                                          · first
                                            | (exfalso; omega (config := {splitDisjunctions := false}))
                                            | exact absurd rfl h129
                                            | skip
                                              refine q_aload (pc := 132) rfl rfl rfl ?_
                                              refine q_ifnullN (pc := 134) rfl ?_
                                              refine q_iload (pc := 143) rfl rfl ?_
                                              refine q_iret (pc := 145) rfl (rfl) ?_
                                              rw [q1] at kk
                                              exact kk _ _ _ q2.symm H (A.now (S := fun i => 1 ≤ i ∧ i < 9) (sf.rf.st (by omega)) (fun i g => Or.inl (by omega)) hβ) KU (k1.tr ((sf.rf (S := fun i => 1 ≤ i ∧ i < 9)).st (by omega) |>.mono (fun i g => hc1 g)))
                            · first
                              | (exfalso; omega (config := {splitDisjunctions := false}))
                              | exact absurd rfl h60
                              | skip
                                refine q_iload_n (pc := 63) rfl rfl ?_
                                refine q_callS (pc := 64) _ (by decide) rfl rfl rfl rfl (Nat.le_of_ble_eq_true rfl) (by omega) _ rfl ?_
                                refine c_isCell (fun c0 hc0 hx0 => ?_) (fun gc => ?_)
                                · obtain rfl : c = c0 := x_eq hx0 (by omega) (by omega)
                                  refine q_ifeq (pc := 67) rfl (fun z => absurd z (by decide)) (fun _ => ?_)
                                  refine q_aload_n (pc := 70) rfl rfl rfl ?_
                                  refine q_getf (pc := 71) rfl (by first | exact HR.X' H hl | exact HR.B H hl isB1 A.1 | exact HR.O H hl isB1 A.1 hp) rfl rfl ?_
                                  refine q_getf (pc := 74) rfl (by first | exact HR.X' H hl | exact HR.B H hl isB1 A.1 | exact HR.O H hl isB1 A.1 hp) rfl rfl ?_
                                  refine q_iload_n (pc := 77) rfl rfl ?_
                                  refine q_iload_n (pc := 78) rfl rfl ?_
                                  refine r_ist2 (pc := 79) rfl H hl (okB1 isB1) (ecB1 isB1) rfl (by omega) (by omega) ?_
                                  intro h H
                                  have hβ := BT.pt (v := v0) (c := 1 + 1) (i := c) A.1 (Or.inl ⟨rfl, hc, rfl⟩)
                                  refine q_goto (pc := 80) rfl ?_
                                  refine q_iload (pc := 143) rfl rfl ?_
                                  refine q_iret (pc := 145) rfl (rfl) ?_
                                  rw [q1] at kk
                                  exact kk _ _ _ q2.symm H (A.now (S := fun i => 1 ≤ i ∧ i < 9) (sf.rf.st (by omega)) (fun i g => Or.inl (by omega)) hβ) KU (k1.tr ((sf.rf (S := fun i => 1 ≤ i ∧ i < 9)).st (by omega) |>.mono (fun i g => hc1 g)))
                                · exact (x_out hc (by decide) gc).elim
                        · first
                          | (exfalso; omega (config := {splitDisjunctions := false}))
                          | exact absurd rfl h44
                          | skip
                            refine q_aload_n (pc := 47) rfl rfl rfl ?_
                            refine q_getf (pc := 48) rfl (by first | exact HR.X' H hl | exact HR.B H hl isB1 A.1 | exact HR.O H hl isB1 A.1 hp) rfl rfl ?_
                            refine q_iload_n (pc := 51) rfl rfl ?_
                            refine r_pf2 (pc := 52) (i := 4) rfl H hl (okB isB1) (ecB isB1 _) rfl rfl (Nat.le_of_ble_eq_true rfl) rfl (ecB isB1 _) ?_
                            intro h H
                            refine q_goto (pc := 55) rfl ?_
                            refine q_iload (pc := 143) rfl rfl ?_
                            refine q_iret (pc := 145) rfl (rfl) ?_
                            rw [q1] at kk
                            exact kk _ _ _ q2.symm H (A.now (S := fun i => 1 ≤ i ∧ i < 9) (sf.rf.st (by omega)) (fun i g => Or.inl (by omega)) hβ) KU (k1.tr ((sf.rf (S := fun i => 1 ≤ i ∧ i < 9)).st (by omega) |>.mono (fun i g => hc1 g)))
                  · first
                    | (exfalso; omega (config := {splitDisjunctions := false}))
                    | skip
                      refine q_bipush (pc := 30) rfl (-2) (by decide) ?_
                      refine q_iret (pc := 32) rfl (rfl) ?_
                      fail
    · obtain ⟨q1, q2⟩ := o_set1 (β := β) (x := nI 1) (y := nI c) (z := z) (by rw [eM.out]; exact ez)
      rw [q1] at kk
      refine q_aload_n (pc := 0) rfl rfl rfl ?_
      refine q_iload_n (pc := 1) rfl rfl ?_
      refine q_iload_n (pc := 2) rfl rfl ?_
      refine q_callV (pc := 3) _ rfl rfl rfl (by exact HR.X' H hl) rfl (Nat.le_of_ble_eq_true rfl) (by omega) _ rfl ?_
      refine c_told (by omega) H hl A K ?_
      intro h s1 H A k1
      rw [o_told, e.out, if_pos (by omega)]
      refine q_istore (pc := 6) [_, _, _, _, _, _] rfl (Nat.le_of_ble_eq_true rfl) rfl ?_
      refine q_iload (pc := 8) rfl rfl ?_
      refine q_iflt (pc := 10) rfl (fun h10 => ?_) (fun h10 => ?_)
      · first
        | (exfalso; omega (config := {splitDisjunctions := false}))
        | exact absurd h10 (nI_pos (by omega))
        | skip
          refine q_bipush (pc := 30) rfl (-2) (by decide) ?_
          refine q_iret (pc := 32) rfl (rfl) ?_
          exact kk _ _ _ q2.symm H A K k1
      · first
        | (exfalso; omega (config := {splitDisjunctions := false}))
        | exact absurd h10 (nI_pos (by omega))
        | skip
          refine q_iload_n (pc := 13) rfl rfl ?_
          refine q_iconst (pc := 14) rfl (nI 4) (by decide) ?_
          first | refine n_icmpgt (pc := 15) rfl (by omega) (by omega) (fun h15 => ?_) (fun h15 => ?_) | refine q_icmpgt (pc := 15) rfl (fun h15 => ?_) (fun h15 => ?_)
          · first
            | (exfalso; omega (config := {splitDisjunctions := false}))
            | skip
              refine q_bipush (pc := 30) rfl (-2) (by decide) ?_
              refine q_iret (pc := 32) rfl (rfl) ?_
              exact kk _ _ _ q2.symm H A K k1
          · first
            | (exfalso; omega (config := {splitDisjunctions := false}))
            | skip
              refine q_iload_n (pc := 18) rfl rfl ?_
              refine q_iflt (pc := 19) rfl (fun h19 => ?_) (fun h19 => ?_)
              · first
                | (exfalso; omega (config := {splitDisjunctions := false}))
                | skip
                  refine q_bipush (pc := 30) rfl (-2) (by decide) ?_
                  refine q_iret (pc := 32) rfl (rfl) ?_
                  exact kk _ _ _ q2.symm H A K k1
              · first
                | (exfalso; omega (config := {splitDisjunctions := false}))
                | skip
                  refine q_iload_n (pc := 22) rfl rfl ?_
                  refine q_iload_n (pc := 23) rfl rfl ?_
                  refine q_callS (pc := 24) _ (by decide) rfl rfl rfl rfl (Nat.le_of_ble_eq_true rfl) (by omega) _ rfl ?_
                  refine c_mostOf (by decide) ?_
                  rw [eM.out]
                  refine q_icmple (pc := 27) rfl (fun h27 => ?_) (fun h27 => ?_)
                  · exact (z_out gz h19 h27 (by decide)).elim
                  · first
                    | (exfalso; omega (config := {splitDisjunctions := false}))
                    | skip
                      refine q_bipush (pc := 30) rfl (-2) (by decide) ?_
                      refine q_iret (pc := 32) rfl (rfl) ?_
                      exact kk _ _ _ q2.symm H A K k1
  · have hJ := bok_le KK (show 36 + c < 90 by omega)
    have eM : Hd (mst (nI 2) = 10) := by unfold Hd; decide
    rcases rgc 10 (by decide) z with ⟨v0, hv0, rfl, ez⟩ | ⟨gz, ez⟩
    · obtain ⟨q1, q2⟩ := o_set2 (y := nI c) (show 2 < 5 by decide) eM.out hv0 (by decide) e.out (by omega)
      have KU := K.up (j := 36 + c) (v0 := v0) (by simp only [pltb]; (repeat' split) <;> omega) K0
      refine q_aload_n (pc := 0) rfl rfl rfl ?_
      refine q_iload_n (pc := 1) rfl rfl ?_
      refine q_iload_n (pc := 2) rfl rfl ?_
      refine q_callV (pc := 3) _ rfl rfl rfl (by first | exact HR.X' H hl | exact HR.B H hl isB1 A.1 | exact HR.O H hl isB1 A.1 hp) rfl (Nat.le_of_ble_eq_true rfl) (by omega) _ rfl ?_
      refine c_told (by omega) H hl A K ?_
      intro h s1 H A k1
      rw [o_told, e.out, if_pos (by omega)]
      refine q_istore (pc := 6) [_, _, _, _, _, _] rfl (Nat.le_of_ble_eq_true rfl) rfl ?_
      refine q_iload (pc := 8) rfl rfl ?_
      refine q_iflt (pc := 10) rfl (fun h10 => ?_) (fun h10 => ?_)
      · first
        | (exfalso; omega (config := {splitDisjunctions := false}))
        | exact absurd h10 (nI_pos (by omega))
        | skip
          refine q_bipush (pc := 30) rfl (-2) (by decide) ?_
          refine q_iret (pc := 32) rfl (rfl) ?_
          fail
      · first
        | (exfalso; omega (config := {splitDisjunctions := false}))
        | exact absurd h10 (nI_pos (by omega))
        | skip
          refine q_iload_n (pc := 13) rfl rfl ?_
          refine q_iconst (pc := 14) rfl (nI 4) (by decide) ?_
          first | refine n_icmpgt (pc := 15) rfl (by omega) (by omega) (fun h15 => ?_) (fun h15 => ?_) | refine q_icmpgt (pc := 15) rfl (fun h15 => ?_) (fun h15 => ?_)
          · first
            | (exfalso; omega (config := {splitDisjunctions := false}))
            | skip
              refine q_bipush (pc := 30) rfl (-2) (by decide) ?_
              refine q_iret (pc := 32) rfl (rfl) ?_
              fail
          · first
            | (exfalso; omega (config := {splitDisjunctions := false}))
            | skip
              refine q_iload_n (pc := 18) rfl rfl ?_
              refine q_iflt (pc := 19) rfl (fun h19 => ?_) (fun h19 => ?_)
              · first
                | (exfalso; omega (config := {splitDisjunctions := false}))
                | exact absurd h19 (nI_pos (by omega))
                | skip
                  refine q_bipush (pc := 30) rfl (-2) (by decide) ?_
                  refine q_iret (pc := 32) rfl (rfl) ?_
                  fail
              · first
                | (exfalso; omega (config := {splitDisjunctions := false}))
                | exact absurd h19 (nI_pos (by omega))
                | skip
                  refine q_iload_n (pc := 22) rfl rfl ?_
                  refine q_iload_n (pc := 23) rfl rfl ?_
                  refine q_callS (pc := 24) _ (by decide) rfl rfl rfl rfl (Nat.le_of_ble_eq_true rfl) (by omega) _ rfl ?_
                  refine c_mostOf (by decide) ?_
                  rw [eM.out]
                  first | refine n_icmple (pc := 27) rfl (by omega) (by omega) (fun h27 => ?_) (fun h27 => ?_) | refine q_icmple (pc := 27) rfl (fun h27 => ?_) (fun h27 => ?_)
                  · first
                    | (exfalso; omega (config := {splitDisjunctions := false}))
                    | skip
                      refine q_aload_n (pc := 33) rfl rfl rfl ?_
                      refine q_getf (pc := 34) rfl (by first | exact HR.X' H hl | exact HR.B H hl isB1 A.1 | exact HR.O H hl isB1 A.1 hp) rfl rfl ?_
                      refine q_iload_n (pc := 37) rfl rfl ?_
                      refine q_callV (pc := 38) _ rfl rfl rfl (by first | exact HR.X' H hl | exact HR.B H hl isB1 A.1 | exact HR.O H hl isB1 A.1 hp) rfl (Nat.le_of_ble_eq_true rfl) (by omega) _ rfl ?_
                      refine c_member H hl isB1 A.1 (fun p hp hpβ hxp => ?_) (fun gp => ?_) K4
                      · refine q_astore (pc := 41) [_, _, _, _, _, _] rfl rfl (Nat.le_of_ble_eq_true rfl) rfl ?_
                        refine q_iload_n (pc := 43) rfl rfl ?_
                        first | refine n_ifne (pc := 44) rfl (by omega) (fun h44 => ?_) (fun h44 => ?_) | refine q_ifne (pc := 44) rfl (fun h44 => ?_) (fun h44 => ?_)
                        · first
                          | (exfalso; omega (config := {splitDisjunctions := false}))
                          | exact absurd rfl h44
                          | skip
                            refine q_iload_n (pc := 58) rfl rfl ?_
                            refine q_iconst (pc := 59) rfl (nI 1) (by decide) ?_
                            first | refine n_icmpne (pc := 60) rfl (by omega) (by omega) (fun h60 => ?_) (fun h60 => ?_) | refine q_icmpne (pc := 60) rfl (fun h60 => ?_) (fun h60 => ?_)
                            · first
                              | (exfalso; omega (config := {splitDisjunctions := false}))
                              | exact absurd rfl h60
                              | skip
                                refine q_iload_n (pc := 83) rfl rfl ?_
                                refine q_iconst (pc := 84) rfl (nI 2) (by decide) ?_
                                first | refine n_icmpne (pc := 85) rfl (by omega) (by omega) (fun h85 => ?_) (fun h85 => ?_) | refine q_icmpne (pc := 85) rfl (fun h85 => ?_) (fun h85 => ?_)
                                · first
                                  | (exfalso; omega (config := {splitDisjunctions := false}))
                                  | exact absurd rfl h85
                                  | skip
                                    refine q_iload_n (pc := 108) rfl rfl ?_
                                    refine q_iconst (pc := 109) rfl (nI 3) (by decide) ?_
                                    first | refine n_icmpne (pc := 110) rfl (by omega) (by omega) (fun h110 => ?_) (fun h110 => ?_) | refine q_icmpne (pc := 110) rfl (fun h110 => ?_) (fun h110 => ?_)
                                    · first
                                      | (exfalso; omega (config := {splitDisjunctions := false}))
                                      | exact absurd rfl h110
                                      | skip
                                        refine q_iload_n (pc := 127) rfl rfl ?_
                                        refine q_iconst (pc := 128) rfl (nI 4) (by decide) ?_
                                        first | refine n_icmpne (pc := 129) rfl (by omega) (by omega) (fun h129 => ?_) (fun h129 => ?_) | refine q_icmpne (pc := 129) rfl (fun h129 => ?_) (fun h129 => ?_)
                                        · first
                                          | (exfalso; omega (config := {splitDisjunctions := false}))
                                          | exact absurd rfl h129
                                          | skip
                                            refine q_iload (pc := 143) rfl rfl ?_
                                            refine q_iret (pc := 145) rfl (rfl) ?_
                                            rw [q1] at kk
                                            exact kk _ _ _ q2.symm H (A.now (S := fun i => 1 ≤ i ∧ i < 9) (sf.rf.st (by omega)) (fun i g => Or.inl (by omega)) hβ) KU (k1.tr ((sf.rf (S := fun i => 1 ≤ i ∧ i < 9)).st (by omega) |>.mono (fun i g => hc1 g)))
                                        · first
                                          | (exfalso; omega (config := {splitDisjunctions := false}))
                                          | exact absurd rfl h129
                                          | skip
                                            refine q_aload (pc := 132) rfl rfl rfl ?_
                                            refine q_ifnull (pc := 134) rfl ?_
                                            refine q_aload (pc := 137) rfl rfl rfl ?_
                                            refine q_iload_n (pc := 139) rfl rfl ?_
                                            refine r_pf2 (pc := 140) (i := 2) rfl H hl (okO isB1 hp) (ecO isB1 hp _) rfl rfl (Nat.le_of_ble_eq_true rfl) rfl (ecO isB1 hp _) ?_
                                            intro h H
                                            refine q_iload (pc := 143) rfl rfl ?_
                                            refine q_iret (pc := 145) rfl (rfl) ?_
                                            rw [q1] at kk
                                            exact kk _ _ _ q2.symm H (A.now (S := fun i => 1 ≤ i ∧ i < 9) (sf.rf.st (by omega)) (fun i g => Or.inl (by omega)) hβ) KU (k1.tr ((sf.rf (S := fun i => 1 ≤ i ∧ i < 9)).st (by omega) |>.mono (fun i g => hc1 g)))
                                    · first
                                      | (exfalso; omega (config := {splitDisjunctions := false}))
                                      | exact absurd rfl h110
                                      | skip
                                        refine q_aload (pc := 113) rfl rfl rfl ?_
                                        refine q_ifnull (pc := 115) rfl ?_
                                        refine q_aload (pc := 118) rfl rfl rfl ?_
                                        refine q_iload_n (pc := 120) rfl rfl ?_
                                        refine r_pf2 (pc := 121) (i := 1) rfl H hl (okO isB1 hp) (ecO isB1 hp _) rfl rfl (Nat.le_of_ble_eq_true rfl) rfl (ecO isB1 hp _) ?_
                                        intro h H
                                        refine q_goto (pc := 124) rfl ?_
                                        refine q_iload (pc := 143) rfl rfl ?_
                                        refine q_iret (pc := 145) rfl (rfl) ?_
                                        rw [q1] at kk
                                        exact kk _ _ _ q2.symm H (A.now (S := fun i => 1 ≤ i ∧ i < 9) (sf.rf.st (by omega)) (fun i g => Or.inl (by omega)) hβ) KU (k1.tr ((sf.rf (S := fun i => 1 ≤ i ∧ i < 9)).st (by omega) |>.mono (fun i g => hc1 g)))
                                · first
                                  | (exfalso; omega (config := {splitDisjunctions := false}))
                                  | exact absurd rfl h85
                                  | skip
                                    refine q_iload_n (pc := 88) rfl rfl ?_
                                    refine q_callS (pc := 89) _ (by decide) rfl rfl rfl rfl (Nat.le_of_ble_eq_true rfl) (by omega) _ rfl ?_
                                    refine c_isCell (fun c0 hc0 hx0 => ?_) (fun gc => ?_)
                                    · obtain rfl : c = c0 := x_eq hx0 (by omega) (by omega)
                                      refine q_ifeq (pc := 92) rfl (fun z => absurd z (by decide)) (fun _ => ?_)
                                      refine q_aload_n (pc := 95) rfl rfl rfl ?_
                                      refine q_getf (pc := 96) rfl (by first | exact HR.X' H hl | exact HR.B H hl isB1 A.1 | exact HR.O H hl isB1 A.1 hp) rfl rfl ?_
                                      refine q_getf (pc := 99) rfl (by first | exact HR.X' H hl | exact HR.B H hl isB1 A.1 | exact HR.O H hl isB1 A.1 hp) rfl rfl ?_
                                      refine q_iload_n (pc := 102) rfl rfl ?_
                                      refine q_iload_n (pc := 103) rfl rfl ?_
                                      refine r_ist2 (pc := 104) rfl H hl (okB2 isB1) (ecB2 isB1) rfl (by omega) (by omega) ?_
                                      intro h H
                                      have hβ := BT.pt (v := v0) (c := 1 + 2) (i := c) A.1 (Or.inr (Or.inl ⟨rfl, hc, rfl⟩))
                                      refine q_goto (pc := 105) rfl ?_
                                      refine q_iload (pc := 143) rfl rfl ?_
                                      refine q_iret (pc := 145) rfl (rfl) ?_
                                      rw [q1] at kk
                                      exact kk _ _ _ q2.symm H (A.now (S := fun i => 1 ≤ i ∧ i < 9) (sf.rf.st (by omega)) (fun i g => Or.inl (by omega)) hβ) KU (k1.tr ((sf.rf (S := fun i => 1 ≤ i ∧ i < 9)).st (by omega) |>.mono (fun i g => hc1 g)))
                                    · exact (x_out hc (by decide) gc).elim
                            · first
                              | (exfalso; omega (config := {splitDisjunctions := false}))
                              | exact absurd rfl h60
                              | skip
                                refine q_iload_n (pc := 63) rfl rfl ?_
                                refine q_callS (pc := 64) _ (by decide) rfl rfl rfl rfl (Nat.le_of_ble_eq_true rfl) (by omega) _ rfl ?_
                                refine c_isCell (fun c0 hc0 hx0 => ?_) (fun gc => ?_)
                                · refine q_ifeq (pc := 67) rfl (fun z => absurd z (by decide)) (fun _ => ?_)
                                  refine q_aload_n (pc := 70) rfl rfl rfl ?_
                                  refine q_getf (pc := 71) rfl (by first | exact HR.X' H hl | exact HR.B H hl isB1 A.1 | exact HR.O H hl isB1 A.1 hp) rfl rfl ?_
                                  refine q_getf (pc := 74) rfl (by first | exact HR.X' H hl | exact HR.B H hl isB1 A.1 | exact HR.O H hl isB1 A.1 hp) rfl rfl ?_
                                  refine q_iload_n (pc := 77) rfl rfl ?_
                                  refine q_iload_n (pc := 78) rfl rfl ?_
                                  refine r_ist2 (pc := 79) rfl H hl (okB1 isB1) (ecB1 isB1) rfl (by omega) (by omega) ?_
                                  intro h H
                                  refine q_goto (pc := 80) rfl ?_
                                  refine q_iload (pc := 143) rfl rfl ?_
                                  refine q_iret (pc := 145) rfl (rfl) ?_
                                  rw [q1] at kk
                                  exact kk _ _ _ q2.symm H (A.now (S := fun i => 1 ≤ i ∧ i < 9) (sf.rf.st (by omega)) (fun i g => Or.inl (by omega)) hβ) KU (k1.tr ((sf.rf (S := fun i => 1 ≤ i ∧ i < 9)).st (by omega) |>.mono (fun i g => hc1 g)))
                                · refine q_ifeq (pc := 67) rfl (fun _ => ?_) (fun z => absurd (by decide) z)
                                  refine q_iload_n (pc := 83) rfl rfl ?_
                                  refine q_iconst (pc := 84) rfl (nI 2) (by decide) ?_
                                  first | refine n_icmpne (pc := 85) rfl (by omega) (by omega) (fun h85 => ?_) (fun h85 => ?_) | refine q_icmpne (pc := 85) rfl (fun h85 => ?_) (fun h85 => ?_)
                                  · first
                                    | (exfalso; omega (config := {splitDisjunctions := false}))
                                    | exact absurd rfl h85
                                    | skip
                                      refine q_iload_n (pc := 108) rfl rfl ?_
                                      refine q_iconst (pc := 109) rfl (nI 3) (by decide) ?_
                                      first | refine n_icmpne (pc := 110) rfl (by omega) (by omega) (fun h110 => ?_) (fun h110 => ?_) | refine q_icmpne (pc := 110) rfl (fun h110 => ?_) (fun h110 => ?_)
                                      · first
                                        | (exfalso; omega (config := {splitDisjunctions := false}))
                                        | exact absurd rfl h110
                                        | skip
                                          refine q_iload_n (pc := 127) rfl rfl ?_
                                          refine q_iconst (pc := 128) rfl (nI 4) (by decide) ?_
                                          first | refine n_icmpne (pc := 129) rfl (by omega) (by omega) (fun h129 => ?_) (fun h129 => ?_) | refine q_icmpne (pc := 129) rfl (fun h129 => ?_) (fun h129 => ?_)
                                          · first
                                            | (exfalso; omega (config := {splitDisjunctions := false}))
                                            | exact absurd rfl h129
                                            | skip
                                              refine q_iload (pc := 143) rfl rfl ?_
                                              refine q_iret (pc := 145) rfl (rfl) ?_
                                              rw [q1] at kk
                                              exact kk _ _ _ q2.symm H (A.now (S := fun i => 1 ≤ i ∧ i < 9) (sf.rf.st (by omega)) (fun i g => Or.inl (by omega)) hβ) KU (k1.tr ((sf.rf (S := fun i => 1 ≤ i ∧ i < 9)).st (by omega) |>.mono (fun i g => hc1 g)))
                                          · first
                                            | (exfalso; omega (config := {splitDisjunctions := false}))
                                            | exact absurd rfl h129
                                            | skip
                                              refine q_aload (pc := 132) rfl rfl rfl ?_
                                              refine q_ifnull (pc := 134) rfl ?_
                                              refine q_aload (pc := 137) rfl rfl rfl ?_
                                              refine q_iload_n (pc := 139) rfl rfl ?_
                                              refine r_pf2 (pc := 140) (i := 2) rfl H hl (okO isB1 hp) (ecO isB1 hp _) rfl rfl (Nat.le_of_ble_eq_true rfl) rfl (ecO isB1 hp _) ?_
                                              intro h H
                                              refine q_iload (pc := 143) rfl rfl ?_
                                              refine q_iret (pc := 145) rfl (rfl) ?_
                                              rw [q1] at kk
                                              exact kk _ _ _ q2.symm H (A.now (S := fun i => 1 ≤ i ∧ i < 9) (sf.rf.st (by omega)) (fun i g => Or.inl (by omega)) hβ) KU (k1.tr ((sf.rf (S := fun i => 1 ≤ i ∧ i < 9)).st (by omega) |>.mono (fun i g => hc1 g)))
                                      · first
                                        | (exfalso; omega (config := {splitDisjunctions := false}))
                                        | exact absurd rfl h110
                                        | skip
                                          refine q_aload (pc := 113) rfl rfl rfl ?_
                                          refine q_ifnull (pc := 115) rfl ?_
                                          refine q_aload (pc := 118) rfl rfl rfl ?_
                                          refine q_iload_n (pc := 120) rfl rfl ?_
                                          refine r_pf2 (pc := 121) (i := 1) rfl H hl (okO isB1 hp) (ecO isB1 hp _) rfl rfl (Nat.le_of_ble_eq_true rfl) rfl (ecO isB1 hp _) ?_
                                          intro h H
                                          refine q_goto (pc := 124) rfl ?_
                                          refine q_iload (pc := 143) rfl rfl ?_
                                          refine q_iret (pc := 145) rfl (rfl) ?_
                                          rw [q1] at kk
                                          exact kk _ _ _ q2.symm H (A.now (S := fun i => 1 ≤ i ∧ i < 9) (sf.rf.st (by omega)) (fun i g => Or.inl (by omega)) hβ) KU (k1.tr ((sf.rf (S := fun i => 1 ≤ i ∧ i < 9)).st (by omega) |>.mono (fun i g => hc1 g)))
                                  · first
                                    | (exfalso; omega (config := {splitDisjunctions := false}))
                                    | exact absurd rfl h85
                                    | skip
                                      refine q_iload_n (pc := 88) rfl rfl ?_
                                      refine q_callS (pc := 89) _ (by decide) rfl rfl rfl rfl (Nat.le_of_ble_eq_true rfl) (by omega) _ rfl ?_
                                      refine c_isCell (fun c0 hc0 hx0 => ?_) (fun gc => ?_)
                                      · obtain rfl : c = c0 := x_eq hx0 (by omega) (by omega)
                                        refine q_ifeq (pc := 92) rfl (fun z => absurd z (by decide)) (fun _ => ?_)
                                        refine q_aload_n (pc := 95) rfl rfl rfl ?_
                                        refine q_getf (pc := 96) rfl (by first | exact HR.X' H hl | exact HR.B H hl isB1 A.1 | exact HR.O H hl isB1 A.1 hp) rfl rfl ?_
                                        refine q_getf (pc := 99) rfl (by first | exact HR.X' H hl | exact HR.B H hl isB1 A.1 | exact HR.O H hl isB1 A.1 hp) rfl rfl ?_
                                        refine q_iload_n (pc := 102) rfl rfl ?_
                                        refine q_iload_n (pc := 103) rfl rfl ?_
                                        refine r_ist2 (pc := 104) rfl H hl (okB2 isB1) (ecB2 isB1) rfl (by omega) (by omega) ?_
                                        intro h H
                                        have hβ := BT.pt (v := v0) (c := 1 + 2) (i := c) A.1 (Or.inr (Or.inl ⟨rfl, hc, rfl⟩))
                                        refine q_goto (pc := 105) rfl ?_
                                        refine q_iload (pc := 143) rfl rfl ?_
                                        refine q_iret (pc := 145) rfl (rfl) ?_
                                        rw [q1] at kk
                                        exact kk _ _ _ q2.symm H (A.now (S := fun i => 1 ≤ i ∧ i < 9) (sf.rf.st (by omega)) (fun i g => Or.inl (by omega)) hβ) KU (k1.tr ((sf.rf (S := fun i => 1 ≤ i ∧ i < 9)).st (by omega) |>.mono (fun i g => hc1 g)))
                                      · exact (x_out hc (by decide) gc).elim
                        · first
                          | (exfalso; omega (config := {splitDisjunctions := false}))
                          | exact absurd rfl h44
                          | skip
                            refine q_aload_n (pc := 47) rfl rfl rfl ?_
                            refine q_getf (pc := 48) rfl (by first | exact HR.X' H hl | exact HR.B H hl isB1 A.1 | exact HR.O H hl isB1 A.1 hp) rfl rfl ?_
                            refine q_iload_n (pc := 51) rfl rfl ?_
                            refine r_pf2 (pc := 52) (i := 4) rfl H hl (okB isB1) (ecB isB1 _) rfl rfl (Nat.le_of_ble_eq_true rfl) rfl (ecB isB1 _) ?_
                            intro h H
                            refine q_goto (pc := 55) rfl ?_
                            refine q_iload (pc := 143) rfl rfl ?_
                            refine q_iret (pc := 145) rfl (rfl) ?_
                            rw [q1] at kk
                            exact kk _ _ _ q2.symm H (A.now (S := fun i => 1 ≤ i ∧ i < 9) (sf.rf.st (by omega)) (fun i g => Or.inl (by omega)) hβ) KU (k1.tr ((sf.rf (S := fun i => 1 ≤ i ∧ i < 9)).st (by omega) |>.mono (fun i g => hc1 g)))
                      · refine q_astore (pc := 41) [_, _, _, _, _, _] rfl rfl (Nat.le_of_ble_eq_true rfl) rfl ?_
                        refine q_iload_n (pc := 43) rfl rfl ?_
                        first | refine n_ifne (pc := 44) rfl (by omega) (fun h44 => ?_) (fun h44 => ?_) | refine q_ifne (pc := 44) rfl (fun h44 => ?_) (fun h44 => ?_)
                        · first
                          | (exfalso; omega (config := {splitDisjunctions := false}))
                          | exact absurd rfl h44
                          | skip
                            refine q_iload_n (pc := 58) rfl rfl ?_
                            refine q_iconst (pc := 59) rfl (nI 1) (by decide) ?_
                            first | refine n_icmpne (pc := 60) rfl (by omega) (by omega) (fun h60 => ?_) (fun h60 => ?_) | refine q_icmpne (pc := 60) rfl (fun h60 => ?_) (fun h60 => ?_)
                            · first
                              | (exfalso; omega (config := {splitDisjunctions := false}))
                              | exact absurd rfl h60
                              | skip
                                refine q_iload_n (pc := 83) rfl rfl ?_
                                refine q_iconst (pc := 84) rfl (nI 2) (by decide) ?_
                                first | refine n_icmpne (pc := 85) rfl (by omega) (by omega) (fun h85 => ?_) (fun h85 => ?_) | refine q_icmpne (pc := 85) rfl (fun h85 => ?_) (fun h85 => ?_)
                                · first
                                  | (exfalso; omega (config := {splitDisjunctions := false}))
                                  | exact absurd rfl h85
                                  | skip
                                    refine q_iload_n (pc := 108) rfl rfl ?_
                                    refine q_iconst (pc := 109) rfl (nI 3) (by decide) ?_
                                    first | refine n_icmpne (pc := 110) rfl (by omega) (by omega) (fun h110 => ?_) (fun h110 => ?_) | refine q_icmpne (pc := 110) rfl (fun h110 => ?_) (fun h110 => ?_)
                                    · first
                                      | (exfalso; omega (config := {splitDisjunctions := false}))
                                      | exact absurd rfl h110
                                      | skip
                                        refine q_iload_n (pc := 127) rfl rfl ?_
                                        refine q_iconst (pc := 128) rfl (nI 4) (by decide) ?_
                                        first | refine n_icmpne (pc := 129) rfl (by omega) (by omega) (fun h129 => ?_) (fun h129 => ?_) | refine q_icmpne (pc := 129) rfl (fun h129 => ?_) (fun h129 => ?_)
                                        · first
                                          | (exfalso; omega (config := {splitDisjunctions := false}))
                                          | exact absurd rfl h129
                                          | skip
                                            refine q_iload (pc := 143) rfl rfl ?_
                                            refine q_iret (pc := 145) rfl (rfl) ?_
                                            rw [q1] at kk
                                            exact kk _ _ _ q2.symm H (A.now (S := fun i => 1 ≤ i ∧ i < 9) (sf.rf.st (by omega)) (fun i g => Or.inl (by omega)) hβ) KU (k1.tr ((sf.rf (S := fun i => 1 ≤ i ∧ i < 9)).st (by omega) |>.mono (fun i g => hc1 g)))
                                        · first
                                          | (exfalso; omega (config := {splitDisjunctions := false}))
                                          | exact absurd rfl h129
                                          | skip
                                            refine q_aload (pc := 132) rfl rfl rfl ?_
                                            refine q_ifnullN (pc := 134) rfl ?_
                                            refine q_iload (pc := 143) rfl rfl ?_
                                            refine q_iret (pc := 145) rfl (rfl) ?_
                                            rw [q1] at kk
                                            exact kk _ _ _ q2.symm H (A.now (S := fun i => 1 ≤ i ∧ i < 9) (sf.rf.st (by omega)) (fun i g => Or.inl (by omega)) hβ) KU (k1.tr ((sf.rf (S := fun i => 1 ≤ i ∧ i < 9)).st (by omega) |>.mono (fun i g => hc1 g)))
                                    · first
                                      | (exfalso; omega (config := {splitDisjunctions := false}))
                                      | exact absurd rfl h110
                                      | skip
                                        refine q_aload (pc := 113) rfl rfl rfl ?_
                                        refine q_ifnullN (pc := 115) rfl ?_
                                        refine q_iload_n (pc := 127) rfl rfl ?_
                                        refine q_iconst (pc := 128) rfl (nI 4) (by decide) ?_
                                        first | refine n_icmpne (pc := 129) rfl (by omega) (by omega) (fun h129 => ?_) (fun h129 => ?_) | refine q_icmpne (pc := 129) rfl (fun h129 => ?_) (fun h129 => ?_)
                                        · first
                                          | (exfalso; omega (config := {splitDisjunctions := false}))
                                          | exact absurd rfl h129
                                          | skip
                                            refine q_iload (pc := 143) rfl rfl ?_
                                            refine q_iret (pc := 145) rfl (rfl) ?_
                                            rw [q1] at kk
                                            exact kk _ _ _ q2.symm H (A.now (S := fun i => 1 ≤ i ∧ i < 9) (sf.rf.st (by omega)) (fun i g => Or.inl (by omega)) hβ) KU (k1.tr ((sf.rf (S := fun i => 1 ≤ i ∧ i < 9)).st (by omega) |>.mono (fun i g => hc1 g)))
                                        · first
                                          | (exfalso; omega (config := {splitDisjunctions := false}))
                                          | exact absurd rfl h129
                                          | skip
                                            refine q_aload (pc := 132) rfl rfl rfl ?_
                                            refine q_ifnullN (pc := 134) rfl ?_
                                            refine q_iload (pc := 143) rfl rfl ?_
                                            refine q_iret (pc := 145) rfl (rfl) ?_
                                            rw [q1] at kk
                                            exact kk _ _ _ q2.symm H (A.now (S := fun i => 1 ≤ i ∧ i < 9) (sf.rf.st (by omega)) (fun i g => Or.inl (by omega)) hβ) KU (k1.tr ((sf.rf (S := fun i => 1 ≤ i ∧ i < 9)).st (by omega) |>.mono (fun i g => hc1 g)))
                                · first
                                  | (exfalso; omega (config := {splitDisjunctions := false}))
                                  | exact absurd rfl h85
                                  | skip
                                    refine q_iload_n (pc := 88) rfl rfl ?_
                                    refine q_callS (pc := 89) _ (by decide) rfl rfl rfl rfl (Nat.le_of_ble_eq_true rfl) (by omega) _ rfl ?_
                                    refine c_isCell (fun c0 hc0 hx0 => ?_) (fun gc => ?_)
                                    · obtain rfl : c = c0 := x_eq hx0 (by omega) (by omega)
                                      refine q_ifeq (pc := 92) rfl (fun z => absurd z (by decide)) (fun _ => ?_)
                                      refine q_aload_n (pc := 95) rfl rfl rfl ?_
                                      refine q_getf (pc := 96) rfl (by first | exact HR.X' H hl | exact HR.B H hl isB1 A.1 | exact HR.O H hl isB1 A.1 hp) rfl rfl ?_
                                      refine q_getf (pc := 99) rfl (by first | exact HR.X' H hl | exact HR.B H hl isB1 A.1 | exact HR.O H hl isB1 A.1 hp) rfl rfl ?_
                                      refine q_iload_n (pc := 102) rfl rfl ?_
                                      refine q_iload_n (pc := 103) rfl rfl ?_
                                      refine r_ist2 (pc := 104) rfl H hl (okB2 isB1) (ecB2 isB1) rfl (by omega) (by omega) ?_
                                      intro h H
                                      have hβ := BT.pt (v := v0) (c := 1 + 2) (i := c) A.1 (Or.inr (Or.inl ⟨rfl, hc, rfl⟩))
                                      refine q_goto (pc := 105) rfl ?_
                                      refine q_iload (pc := 143) rfl rfl ?_
                                      refine q_iret (pc := 145) rfl (rfl) ?_
                                      rw [q1] at kk
                                      exact kk _ _ _ q2.symm H (A.now (S := fun i => 1 ≤ i ∧ i < 9) (sf.rf.st (by omega)) (fun i g => Or.inl (by omega)) hβ) KU (k1.tr ((sf.rf (S := fun i => 1 ≤ i ∧ i < 9)).st (by omega) |>.mono (fun i g => hc1 g)))
                                    · exact (x_out hc (by decide) gc).elim
                            · first
                              | (exfalso; omega (config := {splitDisjunctions := false}))
                              | exact absurd rfl h60
                              | skip
                                refine q_iload_n (pc := 63) rfl rfl ?_
                                refine q_callS (pc := 64) _ (by decide) rfl rfl rfl rfl (Nat.le_of_ble_eq_true rfl) (by omega) _ rfl ?_
                                refine c_isCell (fun c0 hc0 hx0 => ?_) (fun gc => ?_)
                                · refine q_ifeq (pc := 67) rfl (fun z => absurd z (by decide)) (fun _ => ?_)
                                  refine q_aload_n (pc := 70) rfl rfl rfl ?_
                                  refine q_getf (pc := 71) rfl (by first | exact HR.X' H hl | exact HR.B H hl isB1 A.1 | exact HR.O H hl isB1 A.1 hp) rfl rfl ?_
                                  refine q_getf (pc := 74) rfl (by first | exact HR.X' H hl | exact HR.B H hl isB1 A.1 | exact HR.O H hl isB1 A.1 hp) rfl rfl ?_
                                  refine q_iload_n (pc := 77) rfl rfl ?_
                                  refine q_iload_n (pc := 78) rfl rfl ?_
                                  refine r_ist2 (pc := 79) rfl H hl (okB1 isB1) (ecB1 isB1) rfl (by omega) (by omega) ?_
                                  intro h H
                                  refine q_goto (pc := 80) rfl ?_
                                  refine q_iload (pc := 143) rfl rfl ?_
                                  refine q_iret (pc := 145) rfl (rfl) ?_
                                  rw [q1] at kk
                                  exact kk _ _ _ q2.symm H (A.now (S := fun i => 1 ≤ i ∧ i < 9) (sf.rf.st (by omega)) (fun i g => Or.inl (by omega)) hβ) KU (k1.tr ((sf.rf (S := fun i => 1 ≤ i ∧ i < 9)).st (by omega) |>.mono (fun i g => hc1 g)))
                                · refine q_ifeq (pc := 67) rfl (fun _ => ?_) (fun z => absurd (by decide) z)
                                  refine q_iload_n (pc := 83) rfl rfl ?_
                                  refine q_iconst (pc := 84) rfl (nI 2) (by decide) ?_
                                  first | refine n_icmpne (pc := 85) rfl (by omega) (by omega) (fun h85 => ?_) (fun h85 => ?_) | refine q_icmpne (pc := 85) rfl (fun h85 => ?_) (fun h85 => ?_)
                                  · first
                                    | (exfalso; omega (config := {splitDisjunctions := false}))
                                    | exact absurd rfl h85
                                    | skip
                                      refine q_iload_n (pc := 108) rfl rfl ?_
                                      refine q_iconst (pc := 109) rfl (nI 3) (by decide) ?_
                                      first | refine n_icmpne (pc := 110) rfl (by omega) (by omega) (fun h110 => ?_) (fun h110 => ?_) | refine q_icmpne (pc := 110) rfl (fun h110 => ?_) (fun h110 => ?_)
                                      · first
                                        | (exfalso; omega (config := {splitDisjunctions := false}))
                                        | exact absurd rfl h110
                                        | skip
                                          refine q_iload_n (pc := 127) rfl rfl ?_
                                          refine q_iconst (pc := 128) rfl (nI 4) (by decide) ?_
                                          first | refine n_icmpne (pc := 129) rfl (by omega) (by omega) (fun h129 => ?_) (fun h129 => ?_) | refine q_icmpne (pc := 129) rfl (fun h129 => ?_) (fun h129 => ?_)
                                          · first
                                            | (exfalso; omega (config := {splitDisjunctions := false}))
                                            | exact absurd rfl h129
                                            | skip
                                              refine q_iload (pc := 143) rfl rfl ?_
                                              refine q_iret (pc := 145) rfl (rfl) ?_
                                              rw [q1] at kk
                                              exact kk _ _ _ q2.symm H (A.now (S := fun i => 1 ≤ i ∧ i < 9) (sf.rf.st (by omega)) (fun i g => Or.inl (by omega)) hβ) KU (k1.tr ((sf.rf (S := fun i => 1 ≤ i ∧ i < 9)).st (by omega) |>.mono (fun i g => hc1 g)))
                                          · first
                                            | (exfalso; omega (config := {splitDisjunctions := false}))
                                            | exact absurd rfl h129
                                            | skip
                                              refine q_aload (pc := 132) rfl rfl rfl ?_
                                              refine q_ifnullN (pc := 134) rfl ?_
                                              refine q_iload (pc := 143) rfl rfl ?_
                                              refine q_iret (pc := 145) rfl (rfl) ?_
                                              rw [q1] at kk
                                              exact kk _ _ _ q2.symm H (A.now (S := fun i => 1 ≤ i ∧ i < 9) (sf.rf.st (by omega)) (fun i g => Or.inl (by omega)) hβ) KU (k1.tr ((sf.rf (S := fun i => 1 ≤ i ∧ i < 9)).st (by omega) |>.mono (fun i g => hc1 g)))
                                      · first
                                        | (exfalso; omega (config := {splitDisjunctions := false}))
                                        | exact absurd rfl h110
                                        | skip
                                          refine q_aload (pc := 113) rfl rfl rfl ?_
                                          refine q_ifnullN (pc := 115) rfl ?_
                                          refine q_iload_n (pc := 127) rfl rfl ?_
                                          refine q_iconst (pc := 128) rfl (nI 4) (by decide) ?_
                                          first | refine n_icmpne (pc := 129) rfl (by omega) (by omega) (fun h129 => ?_) (fun h129 => ?_) | refine q_icmpne (pc := 129) rfl (fun h129 => ?_) (fun h129 => ?_)
                                          · first
                                            | (exfalso; omega (config := {splitDisjunctions := false}))
                                            | exact absurd rfl h129
                                            | skip
                                              refine q_iload (pc := 143) rfl rfl ?_
                                              refine q_iret (pc := 145) rfl (rfl) ?_
                                              rw [q1] at kk
                                              exact kk _ _ _ q2.symm H (A.now (S := fun i => 1 ≤ i ∧ i < 9) (sf.rf.st (by omega)) (fun i g => Or.inl (by omega)) hβ) KU (k1.tr ((sf.rf (S := fun i => 1 ≤ i ∧ i < 9)).st (by omega) |>.mono (fun i g => hc1 g)))
                                          · first
                                            | (exfalso; omega (config := {splitDisjunctions := false}))
                                            | exact absurd rfl h129
                                            | skip
                                              refine q_aload (pc := 132) rfl rfl rfl ?_
                                              refine q_ifnullN (pc := 134) rfl ?_
                                              refine q_iload (pc := 143) rfl rfl ?_
                                              refine q_iret (pc := 145) rfl (rfl) ?_
                                              rw [q1] at kk
                                              exact kk _ _ _ q2.symm H (A.now (S := fun i => 1 ≤ i ∧ i < 9) (sf.rf.st (by omega)) (fun i g => Or.inl (by omega)) hβ) KU (k1.tr ((sf.rf (S := fun i => 1 ≤ i ∧ i < 9)).st (by omega) |>.mono (fun i g => hc1 g)))
                                  · first
                                    | (exfalso; omega (config := {splitDisjunctions := false}))
                                    | exact absurd rfl h85
                                    | skip
                                      refine q_iload_n (pc := 88) rfl rfl ?_
                                      refine q_callS (pc := 89) _ (by decide) rfl rfl rfl rfl (Nat.le_of_ble_eq_true rfl) (by omega) _ rfl ?_
                                      refine c_isCell (fun c0 hc0 hx0 => ?_) (fun gc => ?_)
                                      · obtain rfl : c = c0 := x_eq hx0 (by omega) (by omega)
                                        refine q_ifeq (pc := 92) rfl (fun z => absurd z (by decide)) (fun _ => ?_)
                                        refine q_aload_n (pc := 95) rfl rfl rfl ?_
                                        refine q_getf (pc := 96) rfl (by first | exact HR.X' H hl | exact HR.B H hl isB1 A.1 | exact HR.O H hl isB1 A.1 hp) rfl rfl ?_
                                        refine q_getf (pc := 99) rfl (by first | exact HR.X' H hl | exact HR.B H hl isB1 A.1 | exact HR.O H hl isB1 A.1 hp) rfl rfl ?_
                                        refine q_iload_n (pc := 102) rfl rfl ?_
                                        refine q_iload_n (pc := 103) rfl rfl ?_
                                        refine r_ist2 (pc := 104) rfl H hl (okB2 isB1) (ecB2 isB1) rfl (by omega) (by omega) ?_
                                        intro h H
                                        have hβ := BT.pt (v := v0) (c := 1 + 2) (i := c) A.1 (Or.inr (Or.inl ⟨rfl, hc, rfl⟩))
                                        refine q_goto (pc := 105) rfl ?_
                                        refine q_iload (pc := 143) rfl rfl ?_
                                        refine q_iret (pc := 145) rfl (rfl) ?_
                                        rw [q1] at kk
                                        exact kk _ _ _ q2.symm H (A.now (S := fun i => 1 ≤ i ∧ i < 9) (sf.rf.st (by omega)) (fun i g => Or.inl (by omega)) hβ) KU (k1.tr ((sf.rf (S := fun i => 1 ≤ i ∧ i < 9)).st (by omega) |>.mono (fun i g => hc1 g)))
                                      · exact (x_out hc (by decide) gc).elim
                        · first
                          | (exfalso; omega (config := {splitDisjunctions := false}))
                          | exact absurd rfl h44
                          | skip
                            refine q_aload_n (pc := 47) rfl rfl rfl ?_
                            refine q_getf (pc := 48) rfl (by first | exact HR.X' H hl | exact HR.B H hl isB1 A.1 | exact HR.O H hl isB1 A.1 hp) rfl rfl ?_
                            refine q_iload_n (pc := 51) rfl rfl ?_
                            refine r_pf2 (pc := 52) (i := 4) rfl H hl (okB isB1) (ecB isB1 _) rfl rfl (Nat.le_of_ble_eq_true rfl) rfl (ecB isB1 _) ?_
                            intro h H
                            refine q_goto (pc := 55) rfl ?_
                            refine q_iload (pc := 143) rfl rfl ?_
                            refine q_iret (pc := 145) rfl (rfl) ?_
                            rw [q1] at kk
                            exact kk _ _ _ q2.symm H (A.now (S := fun i => 1 ≤ i ∧ i < 9) (sf.rf.st (by omega)) (fun i g => Or.inl (by omega)) hβ) KU (k1.tr ((sf.rf (S := fun i => 1 ≤ i ∧ i < 9)).st (by omega) |>.mono (fun i g => hc1 g)))
                  · first
                    | (exfalso; omega (config := {splitDisjunctions := false}))
                    | skip
                      refine q_bipush (pc := 30) rfl (-2) (by decide) ?_
                      refine q_iret (pc := 32) rfl (rfl) ?_
                      fail
    · obtain ⟨q1, q2⟩ := o_set1 (β := β) (x := nI 2) (y := nI c) (z := z) (by rw [eM.out]; exact ez)
      rw [q1] at kk
      refine q_aload_n (pc := 0) rfl rfl rfl ?_
      refine q_iload_n (pc := 1) rfl rfl ?_
      refine q_iload_n (pc := 2) rfl rfl ?_
      refine q_callV (pc := 3) _ rfl rfl rfl (by exact HR.X' H hl) rfl (Nat.le_of_ble_eq_true rfl) (by omega) _ rfl ?_
      refine c_told (by omega) H hl A K ?_
      intro h s1 H A k1
      rw [o_told, e.out, if_pos (by omega)]
      refine q_istore (pc := 6) [_, _, _, _, _, _] rfl (Nat.le_of_ble_eq_true rfl) rfl ?_
      refine q_iload (pc := 8) rfl rfl ?_
      refine q_iflt (pc := 10) rfl (fun h10 => ?_) (fun h10 => ?_)
      · first
        | (exfalso; omega (config := {splitDisjunctions := false}))
        | exact absurd h10 (nI_pos (by omega))
        | skip
          refine q_bipush (pc := 30) rfl (-2) (by decide) ?_
          refine q_iret (pc := 32) rfl (rfl) ?_
          exact kk _ _ _ q2.symm H A K k1
      · first
        | (exfalso; omega (config := {splitDisjunctions := false}))
        | exact absurd h10 (nI_pos (by omega))
        | skip
          refine q_iload_n (pc := 13) rfl rfl ?_
          refine q_iconst (pc := 14) rfl (nI 4) (by decide) ?_
          first | refine n_icmpgt (pc := 15) rfl (by omega) (by omega) (fun h15 => ?_) (fun h15 => ?_) | refine q_icmpgt (pc := 15) rfl (fun h15 => ?_) (fun h15 => ?_)
          · first
            | (exfalso; omega (config := {splitDisjunctions := false}))
            | skip
              refine q_bipush (pc := 30) rfl (-2) (by decide) ?_
              refine q_iret (pc := 32) rfl (rfl) ?_
              exact kk _ _ _ q2.symm H A K k1
          · first
            | (exfalso; omega (config := {splitDisjunctions := false}))
            | skip
              refine q_iload_n (pc := 18) rfl rfl ?_
              refine q_iflt (pc := 19) rfl (fun h19 => ?_) (fun h19 => ?_)
              · first
                | (exfalso; omega (config := {splitDisjunctions := false}))
                | skip
                  refine q_bipush (pc := 30) rfl (-2) (by decide) ?_
                  refine q_iret (pc := 32) rfl (rfl) ?_
                  exact kk _ _ _ q2.symm H A K k1
              · first
                | (exfalso; omega (config := {splitDisjunctions := false}))
                | skip
                  refine q_iload_n (pc := 22) rfl rfl ?_
                  refine q_iload_n (pc := 23) rfl rfl ?_
                  refine q_callS (pc := 24) _ (by decide) rfl rfl rfl rfl (Nat.le_of_ble_eq_true rfl) (by omega) _ rfl ?_
                  refine c_mostOf (by decide) ?_
                  rw [eM.out]
                  refine q_icmple (pc := 27) rfl (fun h27 => ?_) (fun h27 => ?_)
                  · exact (z_out gz h19 h27 (by decide)).elim
                  · first
                    | (exfalso; omega (config := {splitDisjunctions := false}))
                    | skip
                      refine q_bipush (pc := 30) rfl (-2) (by decide) ?_
                      refine q_iret (pc := 32) rfl (rfl) ?_
                      exact kk _ _ _ q2.symm H A K k1
  · have hJ := bok_le KK (show 72 + 4 * p + 1 < 90 by omega)
    have eM : Hd (mst (nI 3) = 10) := by unfold Hd; decide
    rcases rgc 10 (by decide) z with ⟨v0, hv0, rfl, ez⟩ | ⟨gz, ez⟩
    · obtain ⟨q1, q2⟩ := o_set2 (y := nI p) (show 3 < 5 by decide) eM.out hv0 (by decide) e.out (by omega)
      have KU := K.up (j := 72 + 4 * p + 1) (v0 := v0) (by simp only [pltb]; (repeat' split) <;> omega) K0
      refine q_aload_n (pc := 0) rfl rfl rfl ?_
      refine q_iload_n (pc := 1) rfl rfl ?_
      refine q_iload_n (pc := 2) rfl rfl ?_
      refine q_callV (pc := 3) _ rfl rfl rfl (by first | exact HR.X' H hl | exact HR.B H hl isB1 A.1 | exact HR.O H hl isB1 A.1 hp) rfl (Nat.le_of_ble_eq_true rfl) (by omega) _ rfl ?_
      refine c_told (by omega) H hl A K ?_
      intro h s1 H A k1
      rw [o_told, e.out, if_pos (by omega)]
      refine q_istore (pc := 6) [_, _, _, _, _, _] rfl (Nat.le_of_ble_eq_true rfl) rfl ?_
      refine q_iload (pc := 8) rfl rfl ?_
      refine q_iflt (pc := 10) rfl (fun h10 => ?_) (fun h10 => ?_)
      · first
        | (exfalso; omega (config := {splitDisjunctions := false}))
        | exact absurd h10 (nI_pos (by omega))
        | skip
          refine q_bipush (pc := 30) rfl (-2) (by decide) ?_
          refine q_iret (pc := 32) rfl (rfl) ?_
          fail
      · first
        | (exfalso; omega (config := {splitDisjunctions := false}))
        | exact absurd h10 (nI_pos (by omega))
        | skip
          refine q_iload_n (pc := 13) rfl rfl ?_
          refine q_iconst (pc := 14) rfl (nI 4) (by decide) ?_
          first | refine n_icmpgt (pc := 15) rfl (by omega) (by omega) (fun h15 => ?_) (fun h15 => ?_) | refine q_icmpgt (pc := 15) rfl (fun h15 => ?_) (fun h15 => ?_)
          · first
            | (exfalso; omega (config := {splitDisjunctions := false}))
            | skip
              refine q_bipush (pc := 30) rfl (-2) (by decide) ?_
              refine q_iret (pc := 32) rfl (rfl) ?_
              fail
          · first
            | (exfalso; omega (config := {splitDisjunctions := false}))
            | skip
              refine q_iload_n (pc := 18) rfl rfl ?_
              refine q_iflt (pc := 19) rfl (fun h19 => ?_) (fun h19 => ?_)
              · first
                | (exfalso; omega (config := {splitDisjunctions := false}))
                | exact absurd h19 (nI_pos (by omega))
                | skip
                  refine q_bipush (pc := 30) rfl (-2) (by decide) ?_
                  refine q_iret (pc := 32) rfl (rfl) ?_
                  fail
              · first
                | (exfalso; omega (config := {splitDisjunctions := false}))
                | exact absurd h19 (nI_pos (by omega))
                | skip
                  refine q_iload_n (pc := 22) rfl rfl ?_
                  refine q_iload_n (pc := 23) rfl rfl ?_
                  refine q_callS (pc := 24) _ (by decide) rfl rfl rfl rfl (Nat.le_of_ble_eq_true rfl) (by omega) _ rfl ?_
                  refine c_mostOf (by decide) ?_
                  rw [eM.out]
                  first | refine n_icmple (pc := 27) rfl (by omega) (by omega) (fun h27 => ?_) (fun h27 => ?_) | refine q_icmple (pc := 27) rfl (fun h27 => ?_) (fun h27 => ?_)
                  · first
                    | (exfalso; omega (config := {splitDisjunctions := false}))
                    | skip
                      refine q_aload_n (pc := 33) rfl rfl rfl ?_
                      refine q_getf (pc := 34) rfl (by first | exact HR.X' H hl | exact HR.B H hl isB1 A.1 | exact HR.O H hl isB1 A.1 hp) rfl rfl ?_
                      refine q_iload_n (pc := 37) rfl rfl ?_
                      refine q_callV (pc := 38) _ rfl rfl rfl (by first | exact HR.X' H hl | exact HR.B H hl isB1 A.1 | exact HR.O H hl isB1 A.1 hp) rfl (Nat.le_of_ble_eq_true rfl) (by omega) _ rfl ?_
                      refine c_member H hl isB1 A.1 (fun p hp hpβ hxp => ?_) (fun gp => ?_) K4
                      · obtain rfl := x_eq hxp (by omega) (by omega)
                        refine q_astore (pc := 41) [_, _, _, _, _, _] rfl rfl (Nat.le_of_ble_eq_true rfl) rfl ?_
                        refine q_iload_n (pc := 43) rfl rfl ?_
                        first | refine n_ifne (pc := 44) rfl (by omega) (fun h44 => ?_) (fun h44 => ?_) | refine q_ifne (pc := 44) rfl (fun h44 => ?_) (fun h44 => ?_)
                        · first
                          | (exfalso; omega (config := {splitDisjunctions := false}))
                          | exact absurd rfl h44
                          | skip
                            refine q_iload_n (pc := 58) rfl rfl ?_
                            refine q_iconst (pc := 59) rfl (nI 1) (by decide) ?_
                            first | refine n_icmpne (pc := 60) rfl (by omega) (by omega) (fun h60 => ?_) (fun h60 => ?_) | refine q_icmpne (pc := 60) rfl (fun h60 => ?_) (fun h60 => ?_)
                            · first
                              | (exfalso; omega (config := {splitDisjunctions := false}))
                              | exact absurd rfl h60
                              | skip
                                refine q_iload_n (pc := 83) rfl rfl ?_
                                refine q_iconst (pc := 84) rfl (nI 2) (by decide) ?_
                                first | refine n_icmpne (pc := 85) rfl (by omega) (by omega) (fun h85 => ?_) (fun h85 => ?_) | refine q_icmpne (pc := 85) rfl (fun h85 => ?_) (fun h85 => ?_)
                                · first
                                  | (exfalso; omega (config := {splitDisjunctions := false}))
                                  | exact absurd rfl h85
                                  | skip
                                    refine q_iload_n (pc := 108) rfl rfl ?_
                                    refine q_iconst (pc := 109) rfl (nI 3) (by decide) ?_
                                    first | refine n_icmpne (pc := 110) rfl (by omega) (by omega) (fun h110 => ?_) (fun h110 => ?_) | refine q_icmpne (pc := 110) rfl (fun h110 => ?_) (fun h110 => ?_)
                                    · first
                                      | (exfalso; omega (config := {splitDisjunctions := false}))
                                      | exact absurd rfl h110
                                      | skip
                                        refine q_iload_n (pc := 127) rfl rfl ?_
                                        refine q_iconst (pc := 128) rfl (nI 4) (by decide) ?_
                                        first | refine n_icmpne (pc := 129) rfl (by omega) (by omega) (fun h129 => ?_) (fun h129 => ?_) | refine q_icmpne (pc := 129) rfl (fun h129 => ?_) (fun h129 => ?_)
                                        · first
                                          | (exfalso; omega (config := {splitDisjunctions := false}))
                                          | exact absurd rfl h129
                                          | skip
                                            refine q_iload (pc := 143) rfl rfl ?_
                                            refine q_iret (pc := 145) rfl (rfl) ?_
                                            rw [q1] at kk
                                            exact kk _ _ _ q2.symm H (A.now (S := fun i => 1 ≤ i ∧ i < 9) (sf.rf.st (by omega)) (fun i g => Or.inl (by omega)) hβ) KU (k1.tr ((sf.rf (S := fun i => 1 ≤ i ∧ i < 9)).st (by omega) |>.mono (fun i g => hc1 g)))
                                        · first
                                          | (exfalso; omega (config := {splitDisjunctions := false}))
                                          | exact absurd rfl h129
                                          | skip
                                            refine q_aload (pc := 132) rfl rfl rfl ?_
                                            refine q_ifnull (pc := 134) rfl ?_
                                            refine q_aload (pc := 137) rfl rfl rfl ?_
                                            refine q_iload_n (pc := 139) rfl rfl ?_
                                            refine r_pf2 (pc := 140) (i := 2) rfl H hl (okO isB1 hp) (ecO isB1 hp _) rfl rfl (Nat.le_of_ble_eq_true rfl) rfl (ecO isB1 hp _) ?_
                                            intro h H
                                            refine q_iload (pc := 143) rfl rfl ?_
                                            refine q_iret (pc := 145) rfl (rfl) ?_
                                            rw [q1] at kk
                                            exact kk _ _ _ q2.symm H (A.now (S := fun i => 1 ≤ i ∧ i < 9) (sf.rf.st (by omega)) (fun i g => Or.inl (by omega)) hβ) KU (k1.tr ((sf.rf (S := fun i => 1 ≤ i ∧ i < 9)).st (by omega) |>.mono (fun i g => hc1 g)))
                                    · first
                                      | (exfalso; omega (config := {splitDisjunctions := false}))
                                      | exact absurd rfl h110
                                      | skip
                                        refine q_aload (pc := 113) rfl rfl rfl ?_
                                        refine q_ifnull (pc := 115) rfl ?_
                                        refine q_aload (pc := 118) rfl rfl rfl ?_
                                        refine q_iload_n (pc := 120) rfl rfl ?_
                                        refine r_pf2 (pc := 121) (i := 1) rfl H hl (okO isB1 hp) (ecO isB1 hp _) rfl rfl (Nat.le_of_ble_eq_true rfl) rfl (ecO isB1 hp _) ?_
                                        intro h H
                                        have hβ := BT.pt (v := v0) (c := 1 + 4 + p) (i := 1) A.1 (Or.inr (Or.inr (Or.inl ⟨p, by omega, rfl, by decide, rfl⟩)))
                                        refine q_goto (pc := 124) rfl ?_
                                        refine q_iload (pc := 143) rfl rfl ?_
                                        refine q_iret (pc := 145) rfl (rfl) ?_
                                        rw [q1] at kk
                                        exact kk _ _ _ q2.symm H (A.now (S := fun i => 1 ≤ i ∧ i < 9) (sf.rf.st (by omega)) (fun i g => Or.inl (by omega)) hβ) KU (k1.tr ((sf.rf (S := fun i => 1 ≤ i ∧ i < 9)).st (by omega) |>.mono (fun i g => hc1 g)))
                                · first
                                  | (exfalso; omega (config := {splitDisjunctions := false}))
                                  | exact absurd rfl h85
                                  | skip
                                    refine q_iload_n (pc := 88) rfl rfl ?_
                                    refine q_callS (pc := 89) _ (by decide) rfl rfl rfl rfl (Nat.le_of_ble_eq_true rfl) (by omega) _ rfl ?_
                                    refine c_isCell (fun c0 hc0 hx0 => ?_) (fun gc => ?_)
                                    · refine q_ifeq (pc := 92) rfl (fun z => absurd z (by decide)) (fun _ => ?_)
                                      refine q_aload_n (pc := 95) rfl rfl rfl ?_
                                      refine q_getf (pc := 96) rfl (by first | exact HR.X' H hl | exact HR.B H hl isB1 A.1 | exact HR.O H hl isB1 A.1 hp) rfl rfl ?_
                                      refine q_getf (pc := 99) rfl (by first | exact HR.X' H hl | exact HR.B H hl isB1 A.1 | exact HR.O H hl isB1 A.1 hp) rfl rfl ?_
                                      refine q_iload_n (pc := 102) rfl rfl ?_
                                      refine q_iload_n (pc := 103) rfl rfl ?_
                                      refine r_ist2 (pc := 104) rfl H hl (okB2 isB1) (ecB2 isB1) rfl (by omega) (by omega) ?_
                                      intro h H
                                      refine q_goto (pc := 105) rfl ?_
                                      refine q_iload (pc := 143) rfl rfl ?_
                                      refine q_iret (pc := 145) rfl (rfl) ?_
                                      rw [q1] at kk
                                      exact kk _ _ _ q2.symm H (A.now (S := fun i => 1 ≤ i ∧ i < 9) (sf.rf.st (by omega)) (fun i g => Or.inl (by omega)) hβ) KU (k1.tr ((sf.rf (S := fun i => 1 ≤ i ∧ i < 9)).st (by omega) |>.mono (fun i g => hc1 g)))
                                    · refine q_ifeq (pc := 92) rfl (fun _ => ?_) (fun z => absurd (by decide) z)
                                      refine q_iload_n (pc := 108) rfl rfl ?_
                                      refine q_iconst (pc := 109) rfl (nI 3) (by decide) ?_
                                      first | refine n_icmpne (pc := 110) rfl (by omega) (by omega) (fun h110 => ?_) (fun h110 => ?_) | refine q_icmpne (pc := 110) rfl (fun h110 => ?_) (fun h110 => ?_)
                                      · first
                                        | (exfalso; omega (config := {splitDisjunctions := false}))
                                        | exact absurd rfl h110
                                        | skip
                                          refine q_iload_n (pc := 127) rfl rfl ?_
                                          refine q_iconst (pc := 128) rfl (nI 4) (by decide) ?_
                                          first | refine n_icmpne (pc := 129) rfl (by omega) (by omega) (fun h129 => ?_) (fun h129 => ?_) | refine q_icmpne (pc := 129) rfl (fun h129 => ?_) (fun h129 => ?_)
                                          · first
                                            | (exfalso; omega (config := {splitDisjunctions := false}))
                                            | exact absurd rfl h129
                                            | skip
                                              refine q_iload (pc := 143) rfl rfl ?_
                                              refine q_iret (pc := 145) rfl (rfl) ?_
                                              rw [q1] at kk
                                              exact kk _ _ _ q2.symm H (A.now (S := fun i => 1 ≤ i ∧ i < 9) (sf.rf.st (by omega)) (fun i g => Or.inl (by omega)) hβ) KU (k1.tr ((sf.rf (S := fun i => 1 ≤ i ∧ i < 9)).st (by omega) |>.mono (fun i g => hc1 g)))
                                          · first
                                            | (exfalso; omega (config := {splitDisjunctions := false}))
                                            | exact absurd rfl h129
                                            | skip
                                              refine q_aload (pc := 132) rfl rfl rfl ?_
                                              refine q_ifnull (pc := 134) rfl ?_
                                              refine q_aload (pc := 137) rfl rfl rfl ?_
                                              refine q_iload_n (pc := 139) rfl rfl ?_
                                              refine r_pf2 (pc := 140) (i := 2) rfl H hl (okO isB1 hp) (ecO isB1 hp _) rfl rfl (Nat.le_of_ble_eq_true rfl) rfl (ecO isB1 hp _) ?_
                                              intro h H
                                              refine q_iload (pc := 143) rfl rfl ?_
                                              refine q_iret (pc := 145) rfl (rfl) ?_
                                              rw [q1] at kk
                                              exact kk _ _ _ q2.symm H (A.now (S := fun i => 1 ≤ i ∧ i < 9) (sf.rf.st (by omega)) (fun i g => Or.inl (by omega)) hβ) KU (k1.tr ((sf.rf (S := fun i => 1 ≤ i ∧ i < 9)).st (by omega) |>.mono (fun i g => hc1 g)))
                                      · first
                                        | (exfalso; omega (config := {splitDisjunctions := false}))
                                        | exact absurd rfl h110
                                        | skip
                                          refine q_aload (pc := 113) rfl rfl rfl ?_
                                          refine q_ifnull (pc := 115) rfl ?_
                                          refine q_aload (pc := 118) rfl rfl rfl ?_
                                          refine q_iload_n (pc := 120) rfl rfl ?_
                                          refine r_pf2 (pc := 121) (i := 1) rfl H hl (okO isB1 hp) (ecO isB1 hp _) rfl rfl (Nat.le_of_ble_eq_true rfl) rfl (ecO isB1 hp _) ?_
                                          intro h H
                                          have hβ := BT.pt (v := v0) (c := 1 + 4 + p) (i := 1) A.1 (Or.inr (Or.inr (Or.inl ⟨p, by omega, rfl, by decide, rfl⟩)))
                                          refine q_goto (pc := 124) rfl ?_
                                          refine q_iload (pc := 143) rfl rfl ?_
                                          refine q_iret (pc := 145) rfl (rfl) ?_
                                          rw [q1] at kk
                                          exact kk _ _ _ q2.symm H (A.now (S := fun i => 1 ≤ i ∧ i < 9) (sf.rf.st (by omega)) (fun i g => Or.inl (by omega)) hβ) KU (k1.tr ((sf.rf (S := fun i => 1 ≤ i ∧ i < 9)).st (by omega) |>.mono (fun i g => hc1 g)))
                            · first
                              | (exfalso; omega (config := {splitDisjunctions := false}))
                              | exact absurd rfl h60
                              | skip
                                refine q_iload_n (pc := 63) rfl rfl ?_
                                refine q_callS (pc := 64) _ (by decide) rfl rfl rfl rfl (Nat.le_of_ble_eq_true rfl) (by omega) _ rfl ?_
                                refine c_isCell (fun c0 hc0 hx0 => ?_) (fun gc => ?_)
                                · refine q_ifeq (pc := 67) rfl (fun z => absurd z (by decide)) (fun _ => ?_)
                                  refine q_aload_n (pc := 70) rfl rfl rfl ?_
                                  refine q_getf (pc := 71) rfl (by first | exact HR.X' H hl | exact HR.B H hl isB1 A.1 | exact HR.O H hl isB1 A.1 hp) rfl rfl ?_
                                  refine q_getf (pc := 74) rfl (by first | exact HR.X' H hl | exact HR.B H hl isB1 A.1 | exact HR.O H hl isB1 A.1 hp) rfl rfl ?_
                                  refine q_iload_n (pc := 77) rfl rfl ?_
                                  refine q_iload_n (pc := 78) rfl rfl ?_
                                  refine r_ist2 (pc := 79) rfl H hl (okB1 isB1) (ecB1 isB1) rfl (by omega) (by omega) ?_
                                  intro h H
                                  refine q_goto (pc := 80) rfl ?_
                                  refine q_iload (pc := 143) rfl rfl ?_
                                  refine q_iret (pc := 145) rfl (rfl) ?_
                                  rw [q1] at kk
                                  exact kk _ _ _ q2.symm H (A.now (S := fun i => 1 ≤ i ∧ i < 9) (sf.rf.st (by omega)) (fun i g => Or.inl (by omega)) hβ) KU (k1.tr ((sf.rf (S := fun i => 1 ≤ i ∧ i < 9)).st (by omega) |>.mono (fun i g => hc1 g)))
                                · refine q_ifeq (pc := 67) rfl (fun _ => ?_) (fun z => absurd (by decide) z)
                                  refine q_iload_n (pc := 83) rfl rfl ?_
                                  refine q_iconst (pc := 84) rfl (nI 2) (by decide) ?_
                                  first | refine n_icmpne (pc := 85) rfl (by omega) (by omega) (fun h85 => ?_) (fun h85 => ?_) | refine q_icmpne (pc := 85) rfl (fun h85 => ?_) (fun h85 => ?_)
                                  · first
                                    | (exfalso; omega (config := {splitDisjunctions := false}))
                                    | exact absurd rfl h85
                                    | skip
                                      refine q_iload_n (pc := 108) rfl rfl ?_
                                      refine q_iconst (pc := 109) rfl (nI 3) (by decide) ?_
                                      first | refine n_icmpne (pc := 110) rfl (by omega) (by omega) (fun h110 => ?_) (fun h110 => ?_) | refine q_icmpne (pc := 110) rfl (fun h110 => ?_) (fun h110 => ?_)
                                      · first
                                        | (exfalso; omega (config := {splitDisjunctions := false}))
                                        | exact absurd rfl h110
                                        | skip
                                          refine q_iload_n (pc := 127) rfl rfl ?_
                                          refine q_iconst (pc := 128) rfl (nI 4) (by decide) ?_
                                          first | refine n_icmpne (pc := 129) rfl (by omega) (by omega) (fun h129 => ?_) (fun h129 => ?_) | refine q_icmpne (pc := 129) rfl (fun h129 => ?_) (fun h129 => ?_)
                                          · first
                                            | (exfalso; omega (config := {splitDisjunctions := false}))
                                            | exact absurd rfl h129
                                            | skip
                                              refine q_iload (pc := 143) rfl rfl ?_
                                              refine q_iret (pc := 145) rfl (rfl) ?_
                                              rw [q1] at kk
                                              exact kk _ _ _ q2.symm H (A.now (S := fun i => 1 ≤ i ∧ i < 9) (sf.rf.st (by omega)) (fun i g => Or.inl (by omega)) hβ) KU (k1.tr ((sf.rf (S := fun i => 1 ≤ i ∧ i < 9)).st (by omega) |>.mono (fun i g => hc1 g)))
                                          · first
                                            | (exfalso; omega (config := {splitDisjunctions := false}))
                                            | exact absurd rfl h129
                                            | skip
                                              refine q_aload (pc := 132) rfl rfl rfl ?_
                                              refine q_ifnull (pc := 134) rfl ?_
                                              refine q_aload (pc := 137) rfl rfl rfl ?_
                                              refine q_iload_n (pc := 139) rfl rfl ?_
                                              refine r_pf2 (pc := 140) (i := 2) rfl H hl (okO isB1 hp) (ecO isB1 hp _) rfl rfl (Nat.le_of_ble_eq_true rfl) rfl (ecO isB1 hp _) ?_
                                              intro h H
                                              refine q_iload (pc := 143) rfl rfl ?_
                                              refine q_iret (pc := 145) rfl (rfl) ?_
                                              rw [q1] at kk
                                              exact kk _ _ _ q2.symm H (A.now (S := fun i => 1 ≤ i ∧ i < 9) (sf.rf.st (by omega)) (fun i g => Or.inl (by omega)) hβ) KU (k1.tr ((sf.rf (S := fun i => 1 ≤ i ∧ i < 9)).st (by omega) |>.mono (fun i g => hc1 g)))
                                      · first
                                        | (exfalso; omega (config := {splitDisjunctions := false}))
                                        | exact absurd rfl h110
                                        | skip
                                          refine q_aload (pc := 113) rfl rfl rfl ?_
                                          refine q_ifnull (pc := 115) rfl ?_
                                          refine q_aload (pc := 118) rfl rfl rfl ?_
                                          refine q_iload_n (pc := 120) rfl rfl ?_
                                          refine r_pf2 (pc := 121) (i := 1) rfl H hl (okO isB1 hp) (ecO isB1 hp _) rfl rfl (Nat.le_of_ble_eq_true rfl) rfl (ecO isB1 hp _) ?_
                                          intro h H
                                          have hβ := BT.pt (v := v0) (c := 1 + 4 + p) (i := 1) A.1 (Or.inr (Or.inr (Or.inl ⟨p, by omega, rfl, by decide, rfl⟩)))
                                          refine q_goto (pc := 124) rfl ?_
                                          refine q_iload (pc := 143) rfl rfl ?_
                                          refine q_iret (pc := 145) rfl (rfl) ?_
                                          rw [q1] at kk
                                          exact kk _ _ _ q2.symm H (A.now (S := fun i => 1 ≤ i ∧ i < 9) (sf.rf.st (by omega)) (fun i g => Or.inl (by omega)) hβ) KU (k1.tr ((sf.rf (S := fun i => 1 ≤ i ∧ i < 9)).st (by omega) |>.mono (fun i g => hc1 g)))
                                  · first
                                    | (exfalso; omega (config := {splitDisjunctions := false}))
                                    | exact absurd rfl h85
                                    | skip
                                      refine q_iload_n (pc := 88) rfl rfl ?_
                                      refine q_callS (pc := 89) _ (by decide) rfl rfl rfl rfl (Nat.le_of_ble_eq_true rfl) (by omega) _ rfl ?_
                                      refine c_isCell (fun c0 hc0 hx0 => ?_) (fun gc => ?_)
                                      · refine q_ifeq (pc := 92) rfl (fun z => absurd z (by decide)) (fun _ => ?_)
                                        refine q_aload_n (pc := 95) rfl rfl rfl ?_
                                        refine q_getf (pc := 96) rfl (by first | exact HR.X' H hl | exact HR.B H hl isB1 A.1 | exact HR.O H hl isB1 A.1 hp) rfl rfl ?_
                                        refine q_getf (pc := 99) rfl (by first | exact HR.X' H hl | exact HR.B H hl isB1 A.1 | exact HR.O H hl isB1 A.1 hp) rfl rfl ?_
                                        refine q_iload_n (pc := 102) rfl rfl ?_
                                        refine q_iload_n (pc := 103) rfl rfl ?_
                                        refine r_ist2 (pc := 104) rfl H hl (okB2 isB1) (ecB2 isB1) rfl (by omega) (by omega) ?_
                                        intro h H
                                        refine q_goto (pc := 105) rfl ?_
                                        refine q_iload (pc := 143) rfl rfl ?_
                                        refine q_iret (pc := 145) rfl (rfl) ?_
                                        rw [q1] at kk
                                        exact kk _ _ _ q2.symm H (A.now (S := fun i => 1 ≤ i ∧ i < 9) (sf.rf.st (by omega)) (fun i g => Or.inl (by omega)) hβ) KU (k1.tr ((sf.rf (S := fun i => 1 ≤ i ∧ i < 9)).st (by omega) |>.mono (fun i g => hc1 g)))
                                      · refine q_ifeq (pc := 92) rfl (fun _ => ?_) (fun z => absurd (by decide) z)
                                        refine q_iload_n (pc := 108) rfl rfl ?_
                                        refine q_iconst (pc := 109) rfl (nI 3) (by decide) ?_
                                        first | refine n_icmpne (pc := 110) rfl (by omega) (by omega) (fun h110 => ?_) (fun h110 => ?_) | refine q_icmpne (pc := 110) rfl (fun h110 => ?_) (fun h110 => ?_)
                                        · first
                                          | (exfalso; omega (config := {splitDisjunctions := false}))
                                          | exact absurd rfl h110
                                          | skip
                                            refine q_iload_n (pc := 127) rfl rfl ?_
                                            refine q_iconst (pc := 128) rfl (nI 4) (by decide) ?_
                                            first | refine n_icmpne (pc := 129) rfl (by omega) (by omega) (fun h129 => ?_) (fun h129 => ?_) | refine q_icmpne (pc := 129) rfl (fun h129 => ?_) (fun h129 => ?_)
                                            · first
                                              | (exfalso; omega (config := {splitDisjunctions := false}))
                                              | exact absurd rfl h129
                                              | skip
                                                refine q_iload (pc := 143) rfl rfl ?_
                                                refine q_iret (pc := 145) rfl (rfl) ?_
                                                rw [q1] at kk
                                                exact kk _ _ _ q2.symm H (A.now (S := fun i => 1 ≤ i ∧ i < 9) (sf.rf.st (by omega)) (fun i g => Or.inl (by omega)) hβ) KU (k1.tr ((sf.rf (S := fun i => 1 ≤ i ∧ i < 9)).st (by omega) |>.mono (fun i g => hc1 g)))
                                            · first
                                              | (exfalso; omega (config := {splitDisjunctions := false}))
                                              | exact absurd rfl h129
                                              | skip
                                                refine q_aload (pc := 132) rfl rfl rfl ?_
                                                refine q_ifnull (pc := 134) rfl ?_
                                                refine q_aload (pc := 137) rfl rfl rfl ?_
                                                refine q_iload_n (pc := 139) rfl rfl ?_
                                                refine r_pf2 (pc := 140) (i := 2) rfl H hl (okO isB1 hp) (ecO isB1 hp _) rfl rfl (Nat.le_of_ble_eq_true rfl) rfl (ecO isB1 hp _) ?_
                                                intro h H
                                                refine q_iload (pc := 143) rfl rfl ?_
                                                refine q_iret (pc := 145) rfl (rfl) ?_
                                                rw [q1] at kk
                                                exact kk _ _ _ q2.symm H (A.now (S := fun i => 1 ≤ i ∧ i < 9) (sf.rf.st (by omega)) (fun i g => Or.inl (by omega)) hβ) KU (k1.tr ((sf.rf (S := fun i => 1 ≤ i ∧ i < 9)).st (by omega) |>.mono (fun i g => hc1 g)))
                                        · first
                                          | (exfalso; omega (config := {splitDisjunctions := false}))
                                          | exact absurd rfl h110
                                          | skip
                                            refine q_aload (pc := 113) rfl rfl rfl ?_
                                            refine q_ifnull (pc := 115) rfl ?_
                                            refine q_aload (pc := 118) rfl rfl rfl ?_
                                            refine q_iload_n (pc := 120) rfl rfl ?_
                                            refine r_pf2 (pc := 121) (i := 1) rfl H hl (okO isB1 hp) (ecO isB1 hp _) rfl rfl (Nat.le_of_ble_eq_true rfl) rfl (ecO isB1 hp _) ?_
                                            intro h H
                                            have hβ := BT.pt (v := v0) (c := 1 + 4 + p) (i := 1) A.1 (Or.inr (Or.inr (Or.inl ⟨p, by omega, rfl, by decide, rfl⟩)))
                                            refine q_goto (pc := 124) rfl ?_
                                            refine q_iload (pc := 143) rfl rfl ?_
                                            refine q_iret (pc := 145) rfl (rfl) ?_
                                            rw [q1] at kk
                                            exact kk _ _ _ q2.symm H (A.now (S := fun i => 1 ≤ i ∧ i < 9) (sf.rf.st (by omega)) (fun i g => Or.inl (by omega)) hβ) KU (k1.tr ((sf.rf (S := fun i => 1 ≤ i ∧ i < 9)).st (by omega) |>.mono (fun i g => hc1 g)))
                        · first
                          | (exfalso; omega (config := {splitDisjunctions := false}))
                          | exact absurd rfl h44
                          | skip
                            refine q_aload_n (pc := 47) rfl rfl rfl ?_
                            refine q_getf (pc := 48) rfl (by first | exact HR.X' H hl | exact HR.B H hl isB1 A.1 | exact HR.O H hl isB1 A.1 hp) rfl rfl ?_
                            refine q_iload_n (pc := 51) rfl rfl ?_
                            refine r_pf2 (pc := 52) (i := 4) rfl H hl (okB isB1) (ecB isB1 _) rfl rfl (Nat.le_of_ble_eq_true rfl) rfl (ecB isB1 _) ?_
                            intro h H
                            refine q_goto (pc := 55) rfl ?_
                            refine q_iload (pc := 143) rfl rfl ?_
                            refine q_iret (pc := 145) rfl (rfl) ?_
                            rw [q1] at kk
                            exact kk _ _ _ q2.symm H (A.now (S := fun i => 1 ≤ i ∧ i < 9) (sf.rf.st (by omega)) (fun i g => Or.inl (by omega)) hβ) KU (k1.tr ((sf.rf (S := fun i => 1 ≤ i ∧ i < 9)).st (by omega) |>.mono (fun i g => hc1 g)))
                      · exact (x_out hpβ (by omega) gp).elim
                  · first
                    | (exfalso; omega (config := {splitDisjunctions := false}))
                    | skip
                      refine q_bipush (pc := 30) rfl (-2) (by decide) ?_
                      refine q_iret (pc := 32) rfl (rfl) ?_
                      fail
    · obtain ⟨q1, q2⟩ := o_set1 (β := β) (x := nI 3) (y := nI p) (z := z) (by rw [eM.out]; exact ez)
      rw [q1] at kk
      refine q_aload_n (pc := 0) rfl rfl rfl ?_
      refine q_iload_n (pc := 1) rfl rfl ?_
      refine q_iload_n (pc := 2) rfl rfl ?_
      refine q_callV (pc := 3) _ rfl rfl rfl (by exact HR.X' H hl) rfl (Nat.le_of_ble_eq_true rfl) (by omega) _ rfl ?_
      refine c_told (by omega) H hl A K ?_
      intro h s1 H A k1
      rw [o_told, e.out, if_pos (by omega)]
      refine q_istore (pc := 6) [_, _, _, _, _, _] rfl (Nat.le_of_ble_eq_true rfl) rfl ?_
      refine q_iload (pc := 8) rfl rfl ?_
      refine q_iflt (pc := 10) rfl (fun h10 => ?_) (fun h10 => ?_)
      · first
        | (exfalso; omega (config := {splitDisjunctions := false}))
        | exact absurd h10 (nI_pos (by omega))
        | skip
          refine q_bipush (pc := 30) rfl (-2) (by decide) ?_
          refine q_iret (pc := 32) rfl (rfl) ?_
          exact kk _ _ _ q2.symm H A K k1
      · first
        | (exfalso; omega (config := {splitDisjunctions := false}))
        | exact absurd h10 (nI_pos (by omega))
        | skip
          refine q_iload_n (pc := 13) rfl rfl ?_
          refine q_iconst (pc := 14) rfl (nI 4) (by decide) ?_
          first | refine n_icmpgt (pc := 15) rfl (by omega) (by omega) (fun h15 => ?_) (fun h15 => ?_) | refine q_icmpgt (pc := 15) rfl (fun h15 => ?_) (fun h15 => ?_)
          · first
            | (exfalso; omega (config := {splitDisjunctions := false}))
            | skip
              refine q_bipush (pc := 30) rfl (-2) (by decide) ?_
              refine q_iret (pc := 32) rfl (rfl) ?_
              exact kk _ _ _ q2.symm H A K k1
          · first
            | (exfalso; omega (config := {splitDisjunctions := false}))
            | skip
              refine q_iload_n (pc := 18) rfl rfl ?_
              refine q_iflt (pc := 19) rfl (fun h19 => ?_) (fun h19 => ?_)
              · first
                | (exfalso; omega (config := {splitDisjunctions := false}))
                | skip
                  refine q_bipush (pc := 30) rfl (-2) (by decide) ?_
                  refine q_iret (pc := 32) rfl (rfl) ?_
                  exact kk _ _ _ q2.symm H A K k1
              · first
                | (exfalso; omega (config := {splitDisjunctions := false}))
                | skip
                  refine q_iload_n (pc := 22) rfl rfl ?_
                  refine q_iload_n (pc := 23) rfl rfl ?_
                  refine q_callS (pc := 24) _ (by decide) rfl rfl rfl rfl (Nat.le_of_ble_eq_true rfl) (by omega) _ rfl ?_
                  refine c_mostOf (by decide) ?_
                  rw [eM.out]
                  refine q_icmple (pc := 27) rfl (fun h27 => ?_) (fun h27 => ?_)
                  · exact (z_out gz h19 h27 (by decide)).elim
                  · first
                    | (exfalso; omega (config := {splitDisjunctions := false}))
                    | skip
                      refine q_bipush (pc := 30) rfl (-2) (by decide) ?_
                      refine q_iret (pc := 32) rfl (rfl) ?_
                      exact kk _ _ _ q2.symm H A K k1
  · have hJ := bok_le KK (show 72 + 4 * p + 2 < 90 by omega)
    have eM : Hd (mst (nI 4) = 36) := by unfold Hd; decide
    rcases rgc 36 (by decide) z with ⟨v0, hv0, rfl, ez⟩ | ⟨gz, ez⟩
    · obtain ⟨q1, q2⟩ := o_set2 (y := nI p) (show 4 < 5 by decide) eM.out hv0 (by decide) e.out (by omega)
      have KU := K.up (j := 72 + 4 * p + 2) (v0 := v0) (by simp only [pltb]; (repeat' split) <;> omega) K0
      refine q_aload_n (pc := 0) rfl rfl rfl ?_
      refine q_iload_n (pc := 1) rfl rfl ?_
      refine q_iload_n (pc := 2) rfl rfl ?_
      refine q_callV (pc := 3) _ rfl rfl rfl (by first | exact HR.X' H hl | exact HR.B H hl isB1 A.1 | exact HR.O H hl isB1 A.1 hp) rfl (Nat.le_of_ble_eq_true rfl) (by omega) _ rfl ?_
      refine c_told (by omega) H hl A K ?_
      intro h s1 H A k1
      rw [o_told, e.out, if_pos (by omega)]
      refine q_istore (pc := 6) [_, _, _, _, _, _] rfl (Nat.le_of_ble_eq_true rfl) rfl ?_
      refine q_iload (pc := 8) rfl rfl ?_
      refine q_iflt (pc := 10) rfl (fun h10 => ?_) (fun h10 => ?_)
      · first
        | (exfalso; omega (config := {splitDisjunctions := false}))
        | exact absurd h10 (nI_pos (by omega))
        | skip
          refine q_bipush (pc := 30) rfl (-2) (by decide) ?_
          refine q_iret (pc := 32) rfl (rfl) ?_
          fail
      · first
        | (exfalso; omega (config := {splitDisjunctions := false}))
        | exact absurd h10 (nI_pos (by omega))
        | skip
          refine q_iload_n (pc := 13) rfl rfl ?_
          refine q_iconst (pc := 14) rfl (nI 4) (by decide) ?_
          first | refine n_icmpgt (pc := 15) rfl (by omega) (by omega) (fun h15 => ?_) (fun h15 => ?_) | refine q_icmpgt (pc := 15) rfl (fun h15 => ?_) (fun h15 => ?_)
          · first
            | (exfalso; omega (config := {splitDisjunctions := false}))
            | skip
              refine q_bipush (pc := 30) rfl (-2) (by decide) ?_
              refine q_iret (pc := 32) rfl (rfl) ?_
              fail
          · first
            | (exfalso; omega (config := {splitDisjunctions := false}))
            | skip
              refine q_iload_n (pc := 18) rfl rfl ?_
              refine q_iflt (pc := 19) rfl (fun h19 => ?_) (fun h19 => ?_)
              · first
                | (exfalso; omega (config := {splitDisjunctions := false}))
                | exact absurd h19 (nI_pos (by omega))
                | skip
                  refine q_bipush (pc := 30) rfl (-2) (by decide) ?_
                  refine q_iret (pc := 32) rfl (rfl) ?_
                  fail
              · first
                | (exfalso; omega (config := {splitDisjunctions := false}))
                | exact absurd h19 (nI_pos (by omega))
                | skip
                  refine q_iload_n (pc := 22) rfl rfl ?_
                  refine q_iload_n (pc := 23) rfl rfl ?_
                  refine q_callS (pc := 24) _ (by decide) rfl rfl rfl rfl (Nat.le_of_ble_eq_true rfl) (by omega) _ rfl ?_
                  refine c_mostOf (by decide) ?_
                  rw [eM.out]
                  first | refine n_icmple (pc := 27) rfl (by omega) (by omega) (fun h27 => ?_) (fun h27 => ?_) | refine q_icmple (pc := 27) rfl (fun h27 => ?_) (fun h27 => ?_)
                  · first
                    | (exfalso; omega (config := {splitDisjunctions := false}))
                    | skip
                      refine q_aload_n (pc := 33) rfl rfl rfl ?_
                      refine q_getf (pc := 34) rfl (by first | exact HR.X' H hl | exact HR.B H hl isB1 A.1 | exact HR.O H hl isB1 A.1 hp) rfl rfl ?_
                      refine q_iload_n (pc := 37) rfl rfl ?_
                      refine q_callV (pc := 38) _ rfl rfl rfl (by first | exact HR.X' H hl | exact HR.B H hl isB1 A.1 | exact HR.O H hl isB1 A.1 hp) rfl (Nat.le_of_ble_eq_true rfl) (by omega) _ rfl ?_
                      refine c_member H hl isB1 A.1 (fun p hp hpβ hxp => ?_) (fun gp => ?_) K4
                      · obtain rfl := x_eq hxp (by omega) (by omega)
                        refine q_astore (pc := 41) [_, _, _, _, _, _] rfl rfl (Nat.le_of_ble_eq_true rfl) rfl ?_
                        refine q_iload_n (pc := 43) rfl rfl ?_
                        first | refine n_ifne (pc := 44) rfl (by omega) (fun h44 => ?_) (fun h44 => ?_) | refine q_ifne (pc := 44) rfl (fun h44 => ?_) (fun h44 => ?_)
                        · first
                          | (exfalso; omega (config := {splitDisjunctions := false}))
                          | exact absurd rfl h44
                          | skip
                            refine q_iload_n (pc := 58) rfl rfl ?_
                            refine q_iconst (pc := 59) rfl (nI 1) (by decide) ?_
                            first | refine n_icmpne (pc := 60) rfl (by omega) (by omega) (fun h60 => ?_) (fun h60 => ?_) | refine q_icmpne (pc := 60) rfl (fun h60 => ?_) (fun h60 => ?_)
                            · first
                              | (exfalso; omega (config := {splitDisjunctions := false}))
                              | exact absurd rfl h60
                              | skip
                                refine q_iload_n (pc := 83) rfl rfl ?_
                                refine q_iconst (pc := 84) rfl (nI 2) (by decide) ?_
                                first | refine n_icmpne (pc := 85) rfl (by omega) (by omega) (fun h85 => ?_) (fun h85 => ?_) | refine q_icmpne (pc := 85) rfl (fun h85 => ?_) (fun h85 => ?_)
                                · first
                                  | (exfalso; omega (config := {splitDisjunctions := false}))
                                  | exact absurd rfl h85
                                  | skip
                                    refine q_iload_n (pc := 108) rfl rfl ?_
                                    refine q_iconst (pc := 109) rfl (nI 3) (by decide) ?_
                                    first | refine n_icmpne (pc := 110) rfl (by omega) (by omega) (fun h110 => ?_) (fun h110 => ?_) | refine q_icmpne (pc := 110) rfl (fun h110 => ?_) (fun h110 => ?_)
                                    · first
                                      | (exfalso; omega (config := {splitDisjunctions := false}))
                                      | exact absurd rfl h110
                                      | skip
                                        refine q_iload_n (pc := 127) rfl rfl ?_
                                        refine q_iconst (pc := 128) rfl (nI 4) (by decide) ?_
                                        first | refine n_icmpne (pc := 129) rfl (by omega) (by omega) (fun h129 => ?_) (fun h129 => ?_) | refine q_icmpne (pc := 129) rfl (fun h129 => ?_) (fun h129 => ?_)
                                        · first
                                          | (exfalso; omega (config := {splitDisjunctions := false}))
                                          | exact absurd rfl h129
                                          | skip
                                            refine q_iload (pc := 143) rfl rfl ?_
                                            refine q_iret (pc := 145) rfl (rfl) ?_
                                            rw [q1] at kk
                                            exact kk _ _ _ q2.symm H (A.now (S := fun i => 1 ≤ i ∧ i < 9) (sf.rf.st (by omega)) (fun i g => Or.inl (by omega)) hβ) KU (k1.tr ((sf.rf (S := fun i => 1 ≤ i ∧ i < 9)).st (by omega) |>.mono (fun i g => hc1 g)))
                                        · first
                                          | (exfalso; omega (config := {splitDisjunctions := false}))
                                          | exact absurd rfl h129
                                          | skip
                                            refine q_aload (pc := 132) rfl rfl rfl ?_
                                            refine q_ifnull (pc := 134) rfl ?_
                                            refine q_aload (pc := 137) rfl rfl rfl ?_
                                            refine q_iload_n (pc := 139) rfl rfl ?_
                                            refine r_pf2 (pc := 140) (i := 2) rfl H hl (okO isB1 hp) (ecO isB1 hp _) rfl rfl (Nat.le_of_ble_eq_true rfl) rfl (ecO isB1 hp _) ?_
                                            intro h H
                                            have hβ := BT.pt (v := v0) (c := 1 + 4 + p) (i := 2) A.1 (Or.inr (Or.inr (Or.inl ⟨p, by omega, rfl, by decide, rfl⟩)))
                                            refine q_iload (pc := 143) rfl rfl ?_
                                            refine q_iret (pc := 145) rfl (rfl) ?_
                                            rw [q1] at kk
                                            exact kk _ _ _ q2.symm H (A.now (S := fun i => 1 ≤ i ∧ i < 9) (sf.rf.st (by omega)) (fun i g => Or.inl (by omega)) hβ) KU (k1.tr ((sf.rf (S := fun i => 1 ≤ i ∧ i < 9)).st (by omega) |>.mono (fun i g => hc1 g)))
                                    · first
                                      | (exfalso; omega (config := {splitDisjunctions := false}))
                                      | exact absurd rfl h110
                                      | skip
                                        refine q_aload (pc := 113) rfl rfl rfl ?_
                                        refine q_ifnull (pc := 115) rfl ?_
                                        refine q_aload (pc := 118) rfl rfl rfl ?_
                                        refine q_iload_n (pc := 120) rfl rfl ?_
                                        refine r_pf2 (pc := 121) (i := 1) rfl H hl (okO isB1 hp) (ecO isB1 hp _) rfl rfl (Nat.le_of_ble_eq_true rfl) rfl (ecO isB1 hp _) ?_
                                        intro h H
                                        refine q_goto (pc := 124) rfl ?_
                                        refine q_iload (pc := 143) rfl rfl ?_
                                        refine q_iret (pc := 145) rfl (rfl) ?_
                                        rw [q1] at kk
                                        exact kk _ _ _ q2.symm H (A.now (S := fun i => 1 ≤ i ∧ i < 9) (sf.rf.st (by omega)) (fun i g => Or.inl (by omega)) hβ) KU (k1.tr ((sf.rf (S := fun i => 1 ≤ i ∧ i < 9)).st (by omega) |>.mono (fun i g => hc1 g)))
                                · first
                                  | (exfalso; omega (config := {splitDisjunctions := false}))
                                  | exact absurd rfl h85
                                  | skip
                                    refine q_iload_n (pc := 88) rfl rfl ?_
                                    refine q_callS (pc := 89) _ (by decide) rfl rfl rfl rfl (Nat.le_of_ble_eq_true rfl) (by omega) _ rfl ?_
                                    refine c_isCell (fun c0 hc0 hx0 => ?_) (fun gc => ?_)
                                    · refine q_ifeq (pc := 92) rfl (fun z => absurd z (by decide)) (fun _ => ?_)
                                      refine q_aload_n (pc := 95) rfl rfl rfl ?_
                                      refine q_getf (pc := 96) rfl (by first | exact HR.X' H hl | exact HR.B H hl isB1 A.1 | exact HR.O H hl isB1 A.1 hp) rfl rfl ?_
                                      refine q_getf (pc := 99) rfl (by first | exact HR.X' H hl | exact HR.B H hl isB1 A.1 | exact HR.O H hl isB1 A.1 hp) rfl rfl ?_
                                      refine q_iload_n (pc := 102) rfl rfl ?_
                                      refine q_iload_n (pc := 103) rfl rfl ?_
                                      refine r_ist2 (pc := 104) rfl H hl (okB2 isB1) (ecB2 isB1) rfl (by omega) (by omega) ?_
                                      intro h H
                                      refine q_goto (pc := 105) rfl ?_
                                      refine q_iload (pc := 143) rfl rfl ?_
                                      refine q_iret (pc := 145) rfl (rfl) ?_
                                      rw [q1] at kk
                                      exact kk _ _ _ q2.symm H (A.now (S := fun i => 1 ≤ i ∧ i < 9) (sf.rf.st (by omega)) (fun i g => Or.inl (by omega)) hβ) KU (k1.tr ((sf.rf (S := fun i => 1 ≤ i ∧ i < 9)).st (by omega) |>.mono (fun i g => hc1 g)))
                                    · refine q_ifeq (pc := 92) rfl (fun _ => ?_) (fun z => absurd (by decide) z)
                                      refine q_iload_n (pc := 108) rfl rfl ?_
                                      refine q_iconst (pc := 109) rfl (nI 3) (by decide) ?_
                                      first | refine n_icmpne (pc := 110) rfl (by omega) (by omega) (fun h110 => ?_) (fun h110 => ?_) | refine q_icmpne (pc := 110) rfl (fun h110 => ?_) (fun h110 => ?_)
                                      · first
                                        | (exfalso; omega (config := {splitDisjunctions := false}))
                                        | exact absurd rfl h110
                                        | skip
                                          refine q_iload_n (pc := 127) rfl rfl ?_
                                          refine q_iconst (pc := 128) rfl (nI 4) (by decide) ?_
                                          first | refine n_icmpne (pc := 129) rfl (by omega) (by omega) (fun h129 => ?_) (fun h129 => ?_) | refine q_icmpne (pc := 129) rfl (fun h129 => ?_) (fun h129 => ?_)
                                          · first
                                            | (exfalso; omega (config := {splitDisjunctions := false}))
                                            | exact absurd rfl h129
                                            | skip
                                              refine q_iload (pc := 143) rfl rfl ?_
                                              refine q_iret (pc := 145) rfl (rfl) ?_
                                              rw [q1] at kk
                                              exact kk _ _ _ q2.symm H (A.now (S := fun i => 1 ≤ i ∧ i < 9) (sf.rf.st (by omega)) (fun i g => Or.inl (by omega)) hβ) KU (k1.tr ((sf.rf (S := fun i => 1 ≤ i ∧ i < 9)).st (by omega) |>.mono (fun i g => hc1 g)))
                                          · first
                                            | (exfalso; omega (config := {splitDisjunctions := false}))
                                            | exact absurd rfl h129
                                            | skip
                                              refine q_aload (pc := 132) rfl rfl rfl ?_
                                              refine q_ifnull (pc := 134) rfl ?_
                                              refine q_aload (pc := 137) rfl rfl rfl ?_
                                              refine q_iload_n (pc := 139) rfl rfl ?_
                                              refine r_pf2 (pc := 140) (i := 2) rfl H hl (okO isB1 hp) (ecO isB1 hp _) rfl rfl (Nat.le_of_ble_eq_true rfl) rfl (ecO isB1 hp _) ?_
                                              intro h H
                                              have hβ := BT.pt (v := v0) (c := 1 + 4 + p) (i := 2) A.1 (Or.inr (Or.inr (Or.inl ⟨p, by omega, rfl, by decide, rfl⟩)))
                                              refine q_iload (pc := 143) rfl rfl ?_
                                              refine q_iret (pc := 145) rfl (rfl) ?_
                                              rw [q1] at kk
                                              exact kk _ _ _ q2.symm H (A.now (S := fun i => 1 ≤ i ∧ i < 9) (sf.rf.st (by omega)) (fun i g => Or.inl (by omega)) hβ) KU (k1.tr ((sf.rf (S := fun i => 1 ≤ i ∧ i < 9)).st (by omega) |>.mono (fun i g => hc1 g)))
                                      · first
                                        | (exfalso; omega (config := {splitDisjunctions := false}))
                                        | exact absurd rfl h110
                                        | skip
                                          refine q_aload (pc := 113) rfl rfl rfl ?_
                                          refine q_ifnull (pc := 115) rfl ?_
                                          refine q_aload (pc := 118) rfl rfl rfl ?_
                                          refine q_iload_n (pc := 120) rfl rfl ?_
                                          refine r_pf2 (pc := 121) (i := 1) rfl H hl (okO isB1 hp) (ecO isB1 hp _) rfl rfl (Nat.le_of_ble_eq_true rfl) rfl (ecO isB1 hp _) ?_
                                          intro h H
                                          refine q_goto (pc := 124) rfl ?_
                                          refine q_iload (pc := 143) rfl rfl ?_
                                          refine q_iret (pc := 145) rfl (rfl) ?_
                                          rw [q1] at kk
                                          exact kk _ _ _ q2.symm H (A.now (S := fun i => 1 ≤ i ∧ i < 9) (sf.rf.st (by omega)) (fun i g => Or.inl (by omega)) hβ) KU (k1.tr ((sf.rf (S := fun i => 1 ≤ i ∧ i < 9)).st (by omega) |>.mono (fun i g => hc1 g)))
                            · first
                              | (exfalso; omega (config := {splitDisjunctions := false}))
                              | exact absurd rfl h60
                              | skip
                                refine q_iload_n (pc := 63) rfl rfl ?_
                                refine q_callS (pc := 64) _ (by decide) rfl rfl rfl rfl (Nat.le_of_ble_eq_true rfl) (by omega) _ rfl ?_
                                refine c_isCell (fun c0 hc0 hx0 => ?_) (fun gc => ?_)
                                · refine q_ifeq (pc := 67) rfl (fun z => absurd z (by decide)) (fun _ => ?_)
                                  refine q_aload_n (pc := 70) rfl rfl rfl ?_
                                  refine q_getf (pc := 71) rfl (by first | exact HR.X' H hl | exact HR.B H hl isB1 A.1 | exact HR.O H hl isB1 A.1 hp) rfl rfl ?_
                                  refine q_getf (pc := 74) rfl (by first | exact HR.X' H hl | exact HR.B H hl isB1 A.1 | exact HR.O H hl isB1 A.1 hp) rfl rfl ?_
                                  refine q_iload_n (pc := 77) rfl rfl ?_
                                  refine q_iload_n (pc := 78) rfl rfl ?_
                                  refine r_ist2 (pc := 79) rfl H hl (okB1 isB1) (ecB1 isB1) rfl (by omega) (by omega) ?_
                                  intro h H
                                  refine q_goto (pc := 80) rfl ?_
                                  refine q_iload (pc := 143) rfl rfl ?_
                                  refine q_iret (pc := 145) rfl (rfl) ?_
                                  rw [q1] at kk
                                  exact kk _ _ _ q2.symm H (A.now (S := fun i => 1 ≤ i ∧ i < 9) (sf.rf.st (by omega)) (fun i g => Or.inl (by omega)) hβ) KU (k1.tr ((sf.rf (S := fun i => 1 ≤ i ∧ i < 9)).st (by omega) |>.mono (fun i g => hc1 g)))
                                · refine q_ifeq (pc := 67) rfl (fun _ => ?_) (fun z => absurd (by decide) z)
                                  refine q_iload_n (pc := 83) rfl rfl ?_
                                  refine q_iconst (pc := 84) rfl (nI 2) (by decide) ?_
                                  first | refine n_icmpne (pc := 85) rfl (by omega) (by omega) (fun h85 => ?_) (fun h85 => ?_) | refine q_icmpne (pc := 85) rfl (fun h85 => ?_) (fun h85 => ?_)
                                  · first
                                    | (exfalso; omega (config := {splitDisjunctions := false}))
                                    | exact absurd rfl h85
                                    | skip
                                      refine q_iload_n (pc := 108) rfl rfl ?_
                                      refine q_iconst (pc := 109) rfl (nI 3) (by decide) ?_
                                      first | refine n_icmpne (pc := 110) rfl (by omega) (by omega) (fun h110 => ?_) (fun h110 => ?_) | refine q_icmpne (pc := 110) rfl (fun h110 => ?_) (fun h110 => ?_)
                                      · first
                                        | (exfalso; omega (config := {splitDisjunctions := false}))
                                        | exact absurd rfl h110
                                        | skip
                                          refine q_iload_n (pc := 127) rfl rfl ?_
                                          refine q_iconst (pc := 128) rfl (nI 4) (by decide) ?_
                                          first | refine n_icmpne (pc := 129) rfl (by omega) (by omega) (fun h129 => ?_) (fun h129 => ?_) | refine q_icmpne (pc := 129) rfl (fun h129 => ?_) (fun h129 => ?_)
                                          · first
                                            | (exfalso; omega (config := {splitDisjunctions := false}))
                                            | exact absurd rfl h129
                                            | skip
                                              refine q_iload (pc := 143) rfl rfl ?_
                                              refine q_iret (pc := 145) rfl (rfl) ?_
                                              rw [q1] at kk
                                              exact kk _ _ _ q2.symm H (A.now (S := fun i => 1 ≤ i ∧ i < 9) (sf.rf.st (by omega)) (fun i g => Or.inl (by omega)) hβ) KU (k1.tr ((sf.rf (S := fun i => 1 ≤ i ∧ i < 9)).st (by omega) |>.mono (fun i g => hc1 g)))
                                          · first
                                            | (exfalso; omega (config := {splitDisjunctions := false}))
                                            | exact absurd rfl h129
                                            | skip
                                              refine q_aload (pc := 132) rfl rfl rfl ?_
                                              refine q_ifnull (pc := 134) rfl ?_
                                              refine q_aload (pc := 137) rfl rfl rfl ?_
                                              refine q_iload_n (pc := 139) rfl rfl ?_
                                              refine r_pf2 (pc := 140) (i := 2) rfl H hl (okO isB1 hp) (ecO isB1 hp _) rfl rfl (Nat.le_of_ble_eq_true rfl) rfl (ecO isB1 hp _) ?_
                                              intro h H
                                              have hβ := BT.pt (v := v0) (c := 1 + 4 + p) (i := 2) A.1 (Or.inr (Or.inr (Or.inl ⟨p, by omega, rfl, by decide, rfl⟩)))
                                              refine q_iload (pc := 143) rfl rfl ?_
                                              refine q_iret (pc := 145) rfl (rfl) ?_
                                              rw [q1] at kk
                                              exact kk _ _ _ q2.symm H (A.now (S := fun i => 1 ≤ i ∧ i < 9) (sf.rf.st (by omega)) (fun i g => Or.inl (by omega)) hβ) KU (k1.tr ((sf.rf (S := fun i => 1 ≤ i ∧ i < 9)).st (by omega) |>.mono (fun i g => hc1 g)))
                                      · first
                                        | (exfalso; omega (config := {splitDisjunctions := false}))
                                        | exact absurd rfl h110
                                        | skip
                                          refine q_aload (pc := 113) rfl rfl rfl ?_
                                          refine q_ifnull (pc := 115) rfl ?_
                                          refine q_aload (pc := 118) rfl rfl rfl ?_
                                          refine q_iload_n (pc := 120) rfl rfl ?_
                                          refine r_pf2 (pc := 121) (i := 1) rfl H hl (okO isB1 hp) (ecO isB1 hp _) rfl rfl (Nat.le_of_ble_eq_true rfl) rfl (ecO isB1 hp _) ?_
                                          intro h H
                                          refine q_goto (pc := 124) rfl ?_
                                          refine q_iload (pc := 143) rfl rfl ?_
                                          refine q_iret (pc := 145) rfl (rfl) ?_
                                          rw [q1] at kk
                                          exact kk _ _ _ q2.symm H (A.now (S := fun i => 1 ≤ i ∧ i < 9) (sf.rf.st (by omega)) (fun i g => Or.inl (by omega)) hβ) KU (k1.tr ((sf.rf (S := fun i => 1 ≤ i ∧ i < 9)).st (by omega) |>.mono (fun i g => hc1 g)))
                                  · first
                                    | (exfalso; omega (config := {splitDisjunctions := false}))
                                    | exact absurd rfl h85
                                    | skip
                                      refine q_iload_n (pc := 88) rfl rfl ?_
                                      refine q_callS (pc := 89) _ (by decide) rfl rfl rfl rfl (Nat.le_of_ble_eq_true rfl) (by omega) _ rfl ?_
                                      refine c_isCell (fun c0 hc0 hx0 => ?_) (fun gc => ?_)
                                      · refine q_ifeq (pc := 92) rfl (fun z => absurd z (by decide)) (fun _ => ?_)
                                        refine q_aload_n (pc := 95) rfl rfl rfl ?_
                                        refine q_getf (pc := 96) rfl (by first | exact HR.X' H hl | exact HR.B H hl isB1 A.1 | exact HR.O H hl isB1 A.1 hp) rfl rfl ?_
                                        refine q_getf (pc := 99) rfl (by first | exact HR.X' H hl | exact HR.B H hl isB1 A.1 | exact HR.O H hl isB1 A.1 hp) rfl rfl ?_
                                        refine q_iload_n (pc := 102) rfl rfl ?_
                                        refine q_iload_n (pc := 103) rfl rfl ?_
                                        refine r_ist2 (pc := 104) rfl H hl (okB2 isB1) (ecB2 isB1) rfl (by omega) (by omega) ?_
                                        intro h H
                                        refine q_goto (pc := 105) rfl ?_
                                        refine q_iload (pc := 143) rfl rfl ?_
                                        refine q_iret (pc := 145) rfl (rfl) ?_
                                        rw [q1] at kk
                                        exact kk _ _ _ q2.symm H (A.now (S := fun i => 1 ≤ i ∧ i < 9) (sf.rf.st (by omega)) (fun i g => Or.inl (by omega)) hβ) KU (k1.tr ((sf.rf (S := fun i => 1 ≤ i ∧ i < 9)).st (by omega) |>.mono (fun i g => hc1 g)))
                                      · refine q_ifeq (pc := 92) rfl (fun _ => ?_) (fun z => absurd (by decide) z)
                                        refine q_iload_n (pc := 108) rfl rfl ?_
                                        refine q_iconst (pc := 109) rfl (nI 3) (by decide) ?_
                                        first | refine n_icmpne (pc := 110) rfl (by omega) (by omega) (fun h110 => ?_) (fun h110 => ?_) | refine q_icmpne (pc := 110) rfl (fun h110 => ?_) (fun h110 => ?_)
                                        · first
                                          | (exfalso; omega (config := {splitDisjunctions := false}))
                                          | exact absurd rfl h110
                                          | skip
                                            refine q_iload_n (pc := 127) rfl rfl ?_
                                            refine q_iconst (pc := 128) rfl (nI 4) (by decide) ?_
                                            first | refine n_icmpne (pc := 129) rfl (by omega) (by omega) (fun h129 => ?_) (fun h129 => ?_) | refine q_icmpne (pc := 129) rfl (fun h129 => ?_) (fun h129 => ?_)
                                            · first
                                              | (exfalso; omega (config := {splitDisjunctions := false}))
                                              | exact absurd rfl h129
                                              | skip
                                                refine q_iload (pc := 143) rfl rfl ?_
                                                refine q_iret (pc := 145) rfl (rfl) ?_
                                                rw [q1] at kk
                                                exact kk _ _ _ q2.symm H (A.now (S := fun i => 1 ≤ i ∧ i < 9) (sf.rf.st (by omega)) (fun i g => Or.inl (by omega)) hβ) KU (k1.tr ((sf.rf (S := fun i => 1 ≤ i ∧ i < 9)).st (by omega) |>.mono (fun i g => hc1 g)))
                                            · first
                                              | (exfalso; omega (config := {splitDisjunctions := false}))
                                              | exact absurd rfl h129
                                              | skip
                                                refine q_aload (pc := 132) rfl rfl rfl ?_
                                                refine q_ifnull (pc := 134) rfl ?_
                                                refine q_aload (pc := 137) rfl rfl rfl ?_
                                                refine q_iload_n (pc := 139) rfl rfl ?_
                                                refine r_pf2 (pc := 140) (i := 2) rfl H hl (okO isB1 hp) (ecO isB1 hp _) rfl rfl (Nat.le_of_ble_eq_true rfl) rfl (ecO isB1 hp _) ?_
                                                intro h H
                                                have hβ := BT.pt (v := v0) (c := 1 + 4 + p) (i := 2) A.1 (Or.inr (Or.inr (Or.inl ⟨p, by omega, rfl, by decide, rfl⟩)))
                                                refine q_iload (pc := 143) rfl rfl ?_
                                                refine q_iret (pc := 145) rfl (rfl) ?_
                                                rw [q1] at kk
                                                exact kk _ _ _ q2.symm H (A.now (S := fun i => 1 ≤ i ∧ i < 9) (sf.rf.st (by omega)) (fun i g => Or.inl (by omega)) hβ) KU (k1.tr ((sf.rf (S := fun i => 1 ≤ i ∧ i < 9)).st (by omega) |>.mono (fun i g => hc1 g)))
                                        · first
                                          | (exfalso; omega (config := {splitDisjunctions := false}))
                                          | exact absurd rfl h110
                                          | skip
                                            refine q_aload (pc := 113) rfl rfl rfl ?_
                                            refine q_ifnull (pc := 115) rfl ?_
                                            refine q_aload (pc := 118) rfl rfl rfl ?_
                                            refine q_iload_n (pc := 120) rfl rfl ?_
                                            refine r_pf2 (pc := 121) (i := 1) rfl H hl (okO isB1 hp) (ecO isB1 hp _) rfl rfl (Nat.le_of_ble_eq_true rfl) rfl (ecO isB1 hp _) ?_
                                            intro h H
                                            refine q_goto (pc := 124) rfl ?_
                                            refine q_iload (pc := 143) rfl rfl ?_
                                            refine q_iret (pc := 145) rfl (rfl) ?_
                                            rw [q1] at kk
                                            exact kk _ _ _ q2.symm H (A.now (S := fun i => 1 ≤ i ∧ i < 9) (sf.rf.st (by omega)) (fun i g => Or.inl (by omega)) hβ) KU (k1.tr ((sf.rf (S := fun i => 1 ≤ i ∧ i < 9)).st (by omega) |>.mono (fun i g => hc1 g)))
                        · first
                          | (exfalso; omega (config := {splitDisjunctions := false}))
                          | exact absurd rfl h44
                          | skip
                            refine q_aload_n (pc := 47) rfl rfl rfl ?_
                            refine q_getf (pc := 48) rfl (by first | exact HR.X' H hl | exact HR.B H hl isB1 A.1 | exact HR.O H hl isB1 A.1 hp) rfl rfl ?_
                            refine q_iload_n (pc := 51) rfl rfl ?_
                            refine r_pf2 (pc := 52) (i := 4) rfl H hl (okB isB1) (ecB isB1 _) rfl rfl (Nat.le_of_ble_eq_true rfl) rfl (ecB isB1 _) ?_
                            intro h H
                            refine q_goto (pc := 55) rfl ?_
                            refine q_iload (pc := 143) rfl rfl ?_
                            refine q_iret (pc := 145) rfl (rfl) ?_
                            rw [q1] at kk
                            exact kk _ _ _ q2.symm H (A.now (S := fun i => 1 ≤ i ∧ i < 9) (sf.rf.st (by omega)) (fun i g => Or.inl (by omega)) hβ) KU (k1.tr ((sf.rf (S := fun i => 1 ≤ i ∧ i < 9)).st (by omega) |>.mono (fun i g => hc1 g)))
                      · exact (x_out hpβ (by omega) gp).elim
                  · first
                    | (exfalso; omega (config := {splitDisjunctions := false}))
                    | skip
                      refine q_bipush (pc := 30) rfl (-2) (by decide) ?_
                      refine q_iret (pc := 32) rfl (rfl) ?_
                      fail
    · obtain ⟨q1, q2⟩ := o_set1 (β := β) (x := nI 4) (y := nI p) (z := z) (by rw [eM.out]; exact ez)
      rw [q1] at kk
      refine q_aload_n (pc := 0) rfl rfl rfl ?_
      refine q_iload_n (pc := 1) rfl rfl ?_
      refine q_iload_n (pc := 2) rfl rfl ?_
      refine q_callV (pc := 3) _ rfl rfl rfl (by exact HR.X' H hl) rfl (Nat.le_of_ble_eq_true rfl) (by omega) _ rfl ?_
      refine c_told (by omega) H hl A K ?_
      intro h s1 H A k1
      rw [o_told, e.out, if_pos (by omega)]
      refine q_istore (pc := 6) [_, _, _, _, _, _] rfl (Nat.le_of_ble_eq_true rfl) rfl ?_
      refine q_iload (pc := 8) rfl rfl ?_
      refine q_iflt (pc := 10) rfl (fun h10 => ?_) (fun h10 => ?_)
      · first
        | (exfalso; omega (config := {splitDisjunctions := false}))
        | exact absurd h10 (nI_pos (by omega))
        | skip
          refine q_bipush (pc := 30) rfl (-2) (by decide) ?_
          refine q_iret (pc := 32) rfl (rfl) ?_
          exact kk _ _ _ q2.symm H A K k1
      · first
        | (exfalso; omega (config := {splitDisjunctions := false}))
        | exact absurd h10 (nI_pos (by omega))
        | skip
          refine q_iload_n (pc := 13) rfl rfl ?_
          refine q_iconst (pc := 14) rfl (nI 4) (by decide) ?_
          first | refine n_icmpgt (pc := 15) rfl (by omega) (by omega) (fun h15 => ?_) (fun h15 => ?_) | refine q_icmpgt (pc := 15) rfl (fun h15 => ?_) (fun h15 => ?_)
          · first
            | (exfalso; omega (config := {splitDisjunctions := false}))
            | skip
              refine q_bipush (pc := 30) rfl (-2) (by decide) ?_
              refine q_iret (pc := 32) rfl (rfl) ?_
              exact kk _ _ _ q2.symm H A K k1
          · first
            | (exfalso; omega (config := {splitDisjunctions := false}))
            | skip
              refine q_iload_n (pc := 18) rfl rfl ?_
              refine q_iflt (pc := 19) rfl (fun h19 => ?_) (fun h19 => ?_)
              · first
                | (exfalso; omega (config := {splitDisjunctions := false}))
                | skip
                  refine q_bipush (pc := 30) rfl (-2) (by decide) ?_
                  refine q_iret (pc := 32) rfl (rfl) ?_
                  exact kk _ _ _ q2.symm H A K k1
              · first
                | (exfalso; omega (config := {splitDisjunctions := false}))
                | skip
                  refine q_iload_n (pc := 22) rfl rfl ?_
                  refine q_iload_n (pc := 23) rfl rfl ?_
                  refine q_callS (pc := 24) _ (by decide) rfl rfl rfl rfl (Nat.le_of_ble_eq_true rfl) (by omega) _ rfl ?_
                  refine c_mostOf (by decide) ?_
                  rw [eM.out]
                  refine q_icmple (pc := 27) rfl (fun h27 => ?_) (fun h27 => ?_)
                  · exact (z_out gz h19 h27 (by decide)).elim
                  · first
                    | (exfalso; omega (config := {splitDisjunctions := false}))
                    | skip
                      refine q_bipush (pc := 30) rfl (-2) (by decide) ?_
                      refine q_iret (pc := 32) rfl (rfl) ?_
                      exact kk _ _ _ q2.symm H A K k1
  · have hJ := bok_le KK (show 72 + 4 * p < 90 by omega)
    obtain ⟨q1, q2⟩ := o_set0 (β := β) (x := nI 5) (y := nI p) (z := z) (Or.inr (by rw [rg_in (by decide) (by decide)]; decide))
    rw [q1] at kk
    refine q_aload_n (pc := 0) rfl rfl rfl ?_
    refine q_iload_n (pc := 1) rfl rfl ?_
    refine q_iload_n (pc := 2) rfl rfl ?_
    refine q_callV (pc := 3) _ rfl rfl rfl (by exact HR.X' H hl) rfl (Nat.le_of_ble_eq_true rfl) (by omega) _ rfl ?_
    refine c_told (by omega) H hl A K ?_
    intro h s1 H A k1
    rw [o_told, e.out, if_pos (by omega)]
    refine q_istore (pc := 6) [_, _, _, _, _, _] rfl (Nat.le_of_ble_eq_true rfl) rfl ?_
    refine q_iload (pc := 8) rfl rfl ?_
    refine q_iflt (pc := 10) rfl (fun h10 => ?_) (fun h10 => ?_)
    · first
      | (exfalso; omega (config := {splitDisjunctions := false}))
      | exact absurd h10 (nI_pos (by omega))
      | skip
        refine q_bipush (pc := 30) rfl (-2) (by decide) ?_
        refine q_iret (pc := 32) rfl (rfl) ?_
        exact kk _ _ _ q2.symm H A K k1
    · first
      | (exfalso; omega (config := {splitDisjunctions := false}))
      | exact absurd h10 (nI_pos (by omega))
      | skip
        refine q_iload_n (pc := 13) rfl rfl ?_
        refine q_iconst (pc := 14) rfl (nI 4) (by decide) ?_
        first | refine n_icmpgt (pc := 15) rfl (by omega) (by omega) (fun h15 => ?_) (fun h15 => ?_) | refine q_icmpgt (pc := 15) rfl (fun h15 => ?_) (fun h15 => ?_)
        · refine q_bipush (pc := 30) rfl (-2) (by decide) ?_
          refine q_iret (pc := 32) rfl (rfl) ?_
          exact kk _ _ _ q2.symm H A K k1
        · first | (exfalso; omega) | exact absurd h15 (nI_pos (by omega)) | exact absurd (nI_pos' (by omega)) h15
  · have hJ := bok_le KK (show 72 + 4 * p + 3 < 90 by omega)
    obtain ⟨q1, q2⟩ := o_set0 (β := β) (x := nI 6) (y := nI p) (z := z) (Or.inr (by rw [rg_in (by decide) (by decide)]; decide))
    rw [q1] at kk
    refine q_aload_n (pc := 0) rfl rfl rfl ?_
    refine q_iload_n (pc := 1) rfl rfl ?_
    refine q_iload_n (pc := 2) rfl rfl ?_
    refine q_callV (pc := 3) _ rfl rfl rfl (by exact HR.X' H hl) rfl (Nat.le_of_ble_eq_true rfl) (by omega) _ rfl ?_
    refine c_told (by omega) H hl A K ?_
    intro h s1 H A k1
    rw [o_told, e.out, if_pos (by omega)]
    refine q_istore (pc := 6) [_, _, _, _, _, _] rfl (Nat.le_of_ble_eq_true rfl) rfl ?_
    refine q_iload (pc := 8) rfl rfl ?_
    refine q_iflt (pc := 10) rfl (fun h10 => ?_) (fun h10 => ?_)
    · first
      | (exfalso; omega (config := {splitDisjunctions := false}))
      | exact absurd h10 (nI_pos (by omega))
      | skip
        refine q_bipush (pc := 30) rfl (-2) (by decide) ?_
        refine q_iret (pc := 32) rfl (rfl) ?_
        exact kk _ _ _ q2.symm H A K k1
    · first
      | (exfalso; omega (config := {splitDisjunctions := false}))
      | exact absurd h10 (nI_pos (by omega))
      | skip
        refine q_iload_n (pc := 13) rfl rfl ?_
        refine q_iconst (pc := 14) rfl (nI 4) (by decide) ?_
        first | refine n_icmpgt (pc := 15) rfl (by omega) (by omega) (fun h15 => ?_) (fun h15 => ?_) | refine q_icmpgt (pc := 15) rfl (fun h15 => ?_) (fun h15 => ?_)
        · refine q_bipush (pc := 30) rfl (-2) (by decide) ?_
          refine q_iret (pc := 32) rfl (rfl) ?_
          exact kk _ _ _ q2.symm H A K k1
        · first | (exfalso; omega) | exact absurd h15 (nI_pos (by omega)) | exact absurd (nI_pos' (by omega)) h15
  · obtain ⟨q1, q2⟩ := o_set0 (z := z) (Or.inl e.out)
    rw [q1] at kk
    refine q_aload_n (pc := 0) rfl rfl rfl ?_
    refine q_iload_n (pc := 1) rfl rfl ?_
    refine q_iload_n (pc := 2) rfl rfl ?_
    refine q_callV (pc := 3) _ rfl rfl rfl (by exact HR.X' H hl) rfl (Nat.le_of_ble_eq_true rfl) (by omega) _ rfl ?_
    refine c_told (by omega) H hl A K ?_
    intro h s1 H A k1
    rw [o_told, e.out, if_neg (by omega)]
    refine q_istore (pc := 6) [_, _, _, _, _, _] rfl (Nat.le_of_ble_eq_true rfl) rfl ?_
    refine q_iload (pc := 8) rfl rfl ?_
    refine q_iflt (pc := 10) rfl (fun h10 => ?_) (fun h10 => ?_)
    · first
      | (exfalso; omega (config := {splitDisjunctions := false}))
      | skip
        refine q_bipush (pc := 30) rfl (-2) (by decide) ?_
        refine q_iret (pc := 32) rfl (rfl) ?_
        exact kk _ _ _ q2.symm H A K k1
    · exact absurd (by decide) h10
end P29
