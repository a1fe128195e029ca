/-! ===== the class's calls, simple ones ===== -/
section P30
variable {d k pc a i j c p b t n m part q : Nat} {v : Int} {L L' : mx_L} {st r : List Value} {P : mx_Pm} {h : mx_H} {s : mx_St} {Q : Option Value → mx_H → Prop} {x y w z u : Int32} {β κ : Nat → Nat} {C : Nat → Nat → Int32} {E : Nat → Nat → Nat} {ik tz : Nat} {tp : Nat → Nat} {σ : Nat → Int32} {sz : Nat → Nat} {cl : Nat → Nat → Int32}
theorem cS_now {s s' : mx_St} {S : Nat → Prop} (f : sf s s' S) (hS : ∀ i, S i → i < 54) : sf s s' cS := f.mono (fun i g => Or.inl (hS i g))
def o_staff (β : Nat → Nat) (x y z : Int32) : Int32 := if rg 6 x < 6 ∧ rg 10 y < 10 ∧ rg 36 z < 36 then (if β 88 < 4 then nI (β 88) else -4) else -2
def n_staff (β : Nat → Nat) (x y z : Int32) : Nat → Nat := if rg 6 x < 6 ∧ rg 10 y < 10 ∧ rg 36 z < 36 ∧ β 88 < 4 then joinb β (rg 6 x) (rg 10 y) (rg 36 z) else β
theorem bok_join {kind num on : Nat} (hk : bok β n) (h4 : β 88 < 4) (h1 : kind ≤ 5) (h2 : num ≤ 9) (h3 : on < 36) : bok (joinb β kind num on) n ∧ joinb β kind num on 89 = β 89 := by
  obtain ⟨k1, k2, k3, k4, k5⟩ := hk
  unfold joinb upN
  refine ⟨⟨fun i hi => ?_, fun q hq => ?_, ?_, ?_, ?_⟩, ?_⟩
  · have := k1 i hi
    dsimp only
    repeat' split
    all_goals omega
  · obtain ⟨g1, g2, g3, g4⟩ := k2 q hq
    refine ⟨?_, ?_, ?_, ?_⟩ <;> dsimp only <;> (repeat' split) <;> omega
  all_goals ((try dsimp only); (repeat' split) <;> omega)
theorem c_staff (hd : 9 ≤ d) (H : HR P h s) (hl : 51 ≤ P.1) (A : CA P s β κ ik tp tz C E σ sz cl) (K : AOK P.2.1 β κ ik tp tz σ sz) (kk : ∀ h' s' β', β' = n_staff β x y z → HR P h' s' → CA P s' β' κ ik tp tz C E σ sz cl → AOK P.2.1 β' κ ik tp tz σ sz → sf s s' cS → Q (some (.int (o_staff β x y z))) h') : wc d 79 [.ref 0, .int x, .int y, .int z] h Q := by
  have K4 := K.1.2.2.1
  have KK := K.1
  rcases rgc 6 (by decide) x with ⟨k0, hk0, rfl, z1⟩ | ⟨g, z1⟩
  · rcases rgc 10 (by decide) y with ⟨n0, hn0, rfl, z2⟩ | ⟨g, z2⟩
    ·
      refine wc.go [_, _, _, _] rfl ?_
      refine q_iload_n (pc := 0) rfl rfl ?_
      refine q_iflt (pc := 1) rfl (fun h1 => ?_) (fun h1 => ?_)
      · first | (exfalso; omega) | exact absurd h1 (nI_pos (by omega)) | exact absurd (nI_pos' (by omega)) h1
      · refine q_iload_n (pc := 4) rfl rfl ?_
        refine q_bipush (pc := 5) rfl (nI 6) (by decide) ?_
        first | refine n_icmpge (pc := 7) rfl (by omega) (by omega) (fun h7 => ?_) (fun h7 => ?_) | refine q_icmpge (pc := 7) rfl (fun h7 => ?_) (fun h7 => ?_)
        · first | (exfalso; omega) | exact absurd h7 (nI_pos (by omega)) | exact absurd (nI_pos' (by omega)) h7
        · refine q_iload_n (pc := 10) rfl rfl ?_
          refine q_iflt (pc := 11) rfl (fun h11 => ?_) (fun h11 => ?_)
          · first | (exfalso; omega) | exact absurd h11 (nI_pos (by omega)) | exact absurd (nI_pos' (by omega)) h11
          · refine q_iload_n (pc := 14) rfl rfl ?_
            refine q_bipush (pc := 15) rfl (nI 9) (by decide) ?_
            first | refine n_icmpgt (pc := 17) rfl (by omega) (by omega) (fun h17 => ?_) (fun h17 => ?_) | refine q_icmpgt (pc := 17) rfl (fun h17 => ?_) (fun h17 => ?_)
            · first | (exfalso; omega) | exact absurd h17 (nI_pos (by omega)) | exact absurd (nI_pos' (by omega)) h17
            · refine q_iload_n (pc := 20) rfl rfl ?_
              refine q_callS (pc := 21) _ (by decide) rfl rfl rfl rfl (Nat.le_of_ble_eq_true rfl) (by omega) _ rfl ?_
              refine c_isCell (fun c0 hc0 hx0 => ?_) (fun gc => ?_)
              · subst hx0
                have zc : Hd (rg 36 (nI c0) = c0) := rg_in hc0 (by decide)
                refine q_ifne (pc := 24) rfl (fun _ => ?_) (fun z => absurd z (by decide))
                refine q_aload_n (pc := 30) rfl rfl rfl ?_
                refine q_getf (pc := 31) rfl (by first | exact HR.X' H hl | exact HR.B H hl isB1 A.1 | exact HR.R H hl A.2.2.2.2.2.1.1 | exact HR.O H hl isB1 A.1 hp | exact HR.c H hl _ rfl) rfl rfl ?_
                refine q_iload_n (pc := 34) rfl rfl ?_
                refine q_iload_n (pc := 35) rfl rfl ?_
                refine q_iload_n (pc := 36) rfl rfl ?_
                refine q_callV (pc := 37) _ rfl rfl rfl (by first | exact HR.X' H hl | exact HR.B H hl isB1 A.1 | exact HR.R H hl A.2.2.2.2.2.1.1 | exact HR.O H hl isB1 A.1 hp | exact HR.c H hl _ rfl) rfl (Nat.le_of_ble_eq_true rfl) (by omega) _ rfl ?_
                refine c_join H hl isB1 A.1 KK (fun h4 h s1 H hβ k1 => ?_) (fun h4 => ?_)
                · refine q_iret (pc := 40) rfl (rfl) ?_
                  first
                  | (have e1 : o_staff β (nI k0) (nI n0) (nI c0) = -4 ∧ n_staff β (nI k0) (nI n0) (nI c0) = β := by
                       unfold o_staff n_staff
                       rw [z1.out, z2.out, zc.out, if_pos (by omega), if_neg (by omega), if_neg (by omega)]
                       exact ⟨rfl, rfl⟩
                     rw [e1.1] at kk
                     exact kk _ _ _ e1.2.symm H A K sf.rf)
                  | (have e1 : o_staff β (nI k0) (nI n0) (nI c0) = nI (β 88) ∧ n_staff β (nI k0) (nI n0) (nI c0) = joinb β k0 n0 c0 := by
                       unfold o_staff n_staff
                       rw [z1.out, z2.out, zc.out, if_pos (by omega), if_pos (by omega), if_pos (by omega)]
                       exact ⟨rfl, rfl⟩
                     rw [e1.1] at kk
                     have bj := bok_join (kind := k0) (num := n0) KK h4 (by omega) (by omega) hc0
                     exact kk _ _ _ e1.2.symm H (A.now k1 (fun i g => Or.inl (by omega)) hβ) (K.bk bj.1 (by rw [bj.2]; exact K.2.1)) (cS_now k1 (fun i g => by omega)))
                · refine q_iret (pc := 40) rfl (rfl) ?_
                  first
                  | (have e1 : o_staff β (nI k0) (nI n0) (nI c0) = -4 ∧ n_staff β (nI k0) (nI n0) (nI c0) = β := by
                       unfold o_staff n_staff
                       rw [z1.out, z2.out, zc.out, if_pos (by omega), if_neg (by omega), if_neg (by omega)]
                       exact ⟨rfl, rfl⟩
                     rw [e1.1] at kk
                     exact kk _ _ _ e1.2.symm H A K sf.rf)
                  | (have e1 : o_staff β (nI k0) (nI n0) (nI c0) = nI (β 88) ∧ n_staff β (nI k0) (nI n0) (nI c0) = joinb β k0 n0 c0 := by
                       unfold o_staff n_staff
                       rw [z1.out, z2.out, zc.out, if_pos (by omega), if_pos (by omega), if_pos (by omega)]
                       exact ⟨rfl, rfl⟩
                     rw [e1.1] at kk
                     have bj := bok_join (kind := k0) (num := n0) KK h4 (by omega) (by omega) hc0
                     exact kk _ _ _ e1.2.symm H (A.now k1 (fun i g => Or.inl (by omega)) hβ) (K.bk bj.1 (by rw [bj.2]; exact K.2.1)) (cS_now k1 (fun i g => by omega)))
              · have zc : Hd (rg 36 z = 36) := rg_out gc
                refine q_ifne (pc := 24) rfl (fun z => absurd z (by decide)) (fun _ => ?_)
                refine q_bipush (pc := 27) rfl (-2) (by decide) ?_
                refine q_iret (pc := 29) rfl (rfl) ?_
                have e1 : o_staff β (nI k0) (nI n0) z = -2 ∧ n_staff β (nI k0) (nI n0) z = β := by
                  unfold o_staff n_staff
                  rw [z1.out, z2.out, zc.out, if_neg (by omega), if_neg (by omega)]
                  exact ⟨rfl, rfl⟩
                rw [e1.1] at kk
                exact kk _ _ _ e1.2.symm H A K sf.rf
    · have e1 : o_staff β (nI k0) y z = -2 ∧ n_staff β (nI k0) y z = β := by
        unfold o_staff n_staff
        rw [z2.out, if_neg (by omega), if_neg (by omega)]
        exact ⟨rfl, rfl⟩
      rw [e1.1] at kk
      refine wc.go [_, _, _, _] rfl ?_
      refine q_iload_n (pc := 0) rfl rfl ?_
      refine q_iflt (pc := 1) rfl (fun h1 => ?_) (fun h1 => ?_)
      · first | (exfalso; omega) | exact absurd h1 (nI_pos (by omega)) | exact absurd (nI_pos' (by omega)) h1
      · refine q_iload_n (pc := 4) rfl rfl ?_
        refine q_bipush (pc := 5) rfl (nI 6) (by decide) ?_
        first | refine n_icmpge (pc := 7) rfl (by omega) (by omega) (fun h7 => ?_) (fun h7 => ?_) | refine q_icmpge (pc := 7) rfl (fun h7 => ?_) (fun h7 => ?_)
        · first | (exfalso; omega) | exact absurd h7 (nI_pos (by omega)) | exact absurd (nI_pos' (by omega)) h7
        · refine q_iload_n (pc := 10) rfl rfl ?_
          refine q_iflt (pc := 11) rfl (fun h11 => ?_) (fun h11 => ?_)
          · first
            | (exfalso; omega (config := {splitDisjunctions := false}))
            | skip
              refine q_bipush (pc := 27) rfl (-2) (by decide) ?_
              refine q_iret (pc := 29) rfl (rfl) ?_
              exact kk _ _ _ e1.2.symm H A K sf.rf
          · first
            | (exfalso; omega (config := {splitDisjunctions := false}))
            | skip
              refine q_iload_n (pc := 14) rfl rfl ?_
              refine q_bipush (pc := 15) rfl (nI 9) (by decide) ?_
              refine q_icmpgt (pc := 17) rfl (fun h17 => ?_) (fun h17 => ?_)
              · first
                | (exfalso; omega (config := {splitDisjunctions := false}))
                | skip
                  refine q_bipush (pc := 27) rfl (-2) (by decide) ?_
                  refine q_iret (pc := 29) rfl (rfl) ?_
                  exact kk _ _ _ e1.2.symm H A K sf.rf
              · exact (z_out (m := 10) g h11 (Int32.not_lt.mp h17) (by decide)).elim
  · have e1 : o_staff β x y z = -2 ∧ n_staff β x y z = β := by
      unfold o_staff n_staff
      rw [z1.out, if_neg (by omega), if_neg (by omega)]
      exact ⟨rfl, rfl⟩
    rw [e1.1] at kk
    refine wc.go [_, _, _, _] rfl ?_
    refine q_iload_n (pc := 0) rfl rfl ?_
    refine q_iflt (pc := 1) rfl (fun h1 => ?_) (fun h1 => ?_)
    · first
      | (exfalso; omega (config := {splitDisjunctions := false}))
      | skip
        refine q_bipush (pc := 27) rfl (-2) (by decide) ?_
        refine q_iret (pc := 29) rfl (rfl) ?_
        exact kk _ _ _ e1.2.symm H A K sf.rf
    · first
      | (exfalso; omega (config := {splitDisjunctions := false}))
      | skip
        refine q_iload_n (pc := 4) rfl rfl ?_
        refine q_bipush (pc := 5) rfl (nI 6) (by decide) ?_
        refine q_icmpge (pc := 7) rfl (fun h7 => ?_) (fun h7 => ?_)
        · first
          | (exfalso; omega (config := {splitDisjunctions := false}))
          | skip
            refine q_bipush (pc := 27) rfl (-2) (by decide) ?_
            refine q_iret (pc := 29) rfl (rfl) ?_
            exact kk _ _ _ e1.2.symm H A K sf.rf
        · exact (g.elim h1 h7).elim
def o_asks (C : Nat → Nat → Int32) (E : Nat → Nat → Nat) (β : Nat → Nat) (x y z : Int32) : Int32 := if rg (β 88) x < β 88 ∧ rg 36 y < 36 then (if rg 4 z = 0 then nI (tkN C E β (rg (β 88) x) (rg 36 y)) else if rg 4 z = 1 then nI (lyN C E β (rg (β 88) x) (rg 36 y)) else if rg 4 z = 2 then nI (apN (β (72 + 4 * rg (β 88) x + 2)) (rg 36 y)) else if rg 4 z = 3 then nI (mnN C E β (rg (β 88) x) (rg 36 y)) else -2) else -2
theorem c_asks (hd : 9 ≤ d) (H : HR P h s) (hl : 51 ≤ P.1) (A : CA P s β κ ik tp tz C E σ sz cl) (K : AOK P.2.1 β κ ik tp tz σ sz) (kk : ∀ h' s', HR P h' s' → CA P s' β κ ik tp tz C E σ sz cl → sf s s' cS → Q (some (.int (o_asks C E β x y z))) h') : wc d 81 [.ref 0, .int x, .int y, .int z] h Q := by
  have K4 := K.1.2.2.1
  have KK := K.1
  refine wc.go [_, _, _, _, _] rfl ?_
  refine q_aload_n (pc := 0) rfl rfl rfl ?_
  refine q_getf (pc := 1) rfl (by first | exact HR.X' H hl | exact HR.B H hl isB1 A.1 | exact HR.R H hl A.2.2.2.2.2.1.1 | exact HR.O H hl isB1 A.1 hp | exact HR.c H hl _ rfl) rfl rfl ?_
  refine q_iload_n (pc := 4) rfl rfl ?_
  refine q_callV (pc := 5) _ rfl rfl rfl (by first | exact HR.X' H hl | exact HR.B H hl isB1 A.1 | exact HR.R H hl A.2.2.2.2.2.1.1 | exact HR.O H hl isB1 A.1 hp | exact HR.c H hl _ rfl) rfl (Nat.le_of_ble_eq_true rfl) (by omega) _ rfl ?_
  refine c_member H hl isB1 A.1 (fun p hp hpβ hxp => ?_) (fun gp => ?_) K4
  · subst hxp
    have zp : Hd (rg (β 88) (nI p) = p) := rg_in hpβ (by omega)
    refine q_astore (pc := 8) [_, _, _, _, _] rfl rfl (Nat.le_of_ble_eq_true rfl) rfl ?_
    refine q_aload (pc := 10) rfl rfl rfl ?_
    refine q_ifnull (pc := 12) rfl ?_
    refine q_iload_n (pc := 15) rfl rfl ?_
    refine q_callS (pc := 16) _ (by decide) rfl rfl rfl rfl (Nat.le_of_ble_eq_true rfl) (by omega) _ rfl ?_
    refine c_isCell (fun c0 hc0 hx0 => ?_) (fun gc => ?_)
    · subst hx0
      have zc : Hd (rg 36 (nI c0) = c0) := rg_in hc0 (by decide)
      refine q_ifne (pc := 19) rfl (fun _ => ?_) (fun z => absurd z (by decide))
      refine q_iload_n (pc := 25) rfl rfl ?_
      rcases rgc 4 (by decide) z with ⟨w, hw, rfl, zw⟩ | ⟨g, zw⟩
      rcases (show w = 0 ∨ w = 1 ∨ w = 2 ∨ w = 3 by omega) with rfl | rfl | rfl | rfl
      · refine q_tsw (pc := 26) (t := 56) rfl (by decide) ?_
        refine q_aload_n (pc := 56) rfl rfl rfl ?_
        refine q_getf (pc := 57) rfl (by first | exact HR.X' H hl | exact HR.B H hl isB1 A.1 | exact HR.R H hl A.2.2.2.2.2.1.1 | exact HR.O H hl isB1 A.1 hp | exact HR.c H hl _ rfl) rfl rfl ?_
        refine q_aload_n (pc := 60) rfl rfl rfl ?_
        refine q_getf (pc := 61) rfl (by first | exact HR.X' H hl | exact HR.B H hl isB1 A.1 | exact HR.R H hl A.2.2.2.2.2.1.1 | exact HR.O H hl isB1 A.1 hp | exact HR.c H hl _ rfl) rfl rfl ?_
        refine q_aload (pc := 64) rfl rfl rfl ?_
        refine q_iload_n (pc := 66) rfl rfl ?_
        refine q_callV (pc := 67) _ rfl rfl rfl (by first | exact HR.X' H hl | exact HR.B H hl isB1 A.1 | exact HR.R H hl A.2.2.2.2.2.1.1 | exact HR.O H hl isB1 A.1 hp | exact HR.c H hl _ rfl) rfl (Nat.le_of_ble_eq_true rfl) (by omega) _ rfl ?_
        have hat := (KK.2.1 p hp).2.2.1
        refine c_takesOf (by omega) H hl isB1 A.1 A.2.2.2.2.2.1 KK hp hc0 ?_
        intro h s1 H k1
        refine q_iret (pc := 70) rfl (rfl) ?_
        refine eqQ ?_ (kk _ _ H (A.fr k1 (fun i g => Or.inr (Or.inr (Or.inl (by omega))))) (cS_now k1 (fun i g => by omega)))
        unfold o_asks
        try rw [zc.out]
        try rw [zp.out]
        try rw [zs.out]
        try rw [zw.out]
        try rw [z1.out]
        try rw [z2.out]
        (try (repeat' split) <;> first | rfl | (exfalso; omega) | (congr 1; omega))
      · refine q_tsw (pc := 26) (t := 71) rfl (by decide) ?_
        refine q_aload_n (pc := 71) rfl rfl rfl ?_
        refine q_getf (pc := 72) rfl (by first | exact HR.X' H hl | exact HR.B H hl isB1 A.1 | exact HR.R H hl A.2.2.2.2.2.1.1 | exact HR.O H hl isB1 A.1 hp | exact HR.c H hl _ rfl) rfl rfl ?_
        refine q_aload_n (pc := 75) rfl rfl rfl ?_
        refine q_getf (pc := 76) rfl (by first | exact HR.X' H hl | exact HR.B H hl isB1 A.1 | exact HR.R H hl A.2.2.2.2.2.1.1 | exact HR.O H hl isB1 A.1 hp | exact HR.c H hl _ rfl) rfl rfl ?_
        refine q_aload (pc := 79) rfl rfl rfl ?_
        refine q_iload_n (pc := 81) rfl rfl ?_
        refine q_callV (pc := 82) _ rfl rfl rfl (by first | exact HR.X' H hl | exact HR.B H hl isB1 A.1 | exact HR.R H hl A.2.2.2.2.2.1.1 | exact HR.O H hl isB1 A.1 hp | exact HR.c H hl _ rfl) rfl (Nat.le_of_ble_eq_true rfl) (by omega) _ rfl ?_
        have hat := (KK.2.1 p hp).2.2.1
        refine c_laysOf (by omega) H hl isB1 A.1 A.2.2.2.2.2.1 KK hp hc0 ?_
        intro h s1 H k1
        refine q_iret (pc := 85) rfl (rfl) ?_
        refine eqQ ?_ (kk _ _ H (A.fr k1 (fun i g => Or.inr (Or.inr (Or.inl (by omega))))) (cS_now k1 (fun i g => by omega)))
        unfold o_asks
        try rw [zc.out]
        try rw [zp.out]
        try rw [zs.out]
        try rw [zw.out]
        try rw [z1.out]
        try rw [z2.out]
        (try (repeat' split) <;> first | rfl | (exfalso; omega) | (congr 1; omega))
      · refine q_tsw (pc := 26) (t := 86) rfl (by decide) ?_
        refine q_aload (pc := 86) rfl rfl rfl ?_
        refine q_getf (pc := 88) rfl (by first | exact HR.X' H hl | exact HR.B H hl isB1 A.1 | exact HR.R H hl A.2.2.2.2.2.1.1 | exact HR.O H hl isB1 A.1 hp | exact HR.c H hl _ rfl) rfl rfl ?_
        refine q_iload_n (pc := 91) rfl rfl ?_
        refine q_callS (pc := 92) _ (by decide) rfl rfl rfl rfl (Nat.le_of_ble_eq_true rfl) (by omega) _ rfl ?_
        have hat := (KK.2.1 p hp).2.2.1
        refine c_apart hat hc0 ?_
        refine q_iret (pc := 95) rfl (rfl) ?_
        refine eqQ ?_ (kk _ _ H A sf.rf)
        unfold o_asks
        try rw [zc.out]
        try rw [zp.out]
        try rw [zs.out]
        try rw [zw.out]
        try rw [z1.out]
        try rw [z2.out]
        (try (repeat' split) <;> first | rfl | (exfalso; omega) | (congr 1; omega))
      · refine q_tsw (pc := 26) (t := 96) rfl (by decide) ?_
        refine q_aload_n (pc := 96) rfl rfl rfl ?_
        refine q_getf (pc := 97) rfl (by first | exact HR.X' H hl | exact HR.B H hl isB1 A.1 | exact HR.R H hl A.2.2.2.2.2.1.1 | exact HR.O H hl isB1 A.1 hp | exact HR.c H hl _ rfl) rfl rfl ?_
        refine q_aload_n (pc := 100) rfl rfl rfl ?_
        refine q_getf (pc := 101) rfl (by first | exact HR.X' H hl | exact HR.B H hl isB1 A.1 | exact HR.R H hl A.2.2.2.2.2.1.1 | exact HR.O H hl isB1 A.1 hp | exact HR.c H hl _ rfl) rfl rfl ?_
        refine q_aload (pc := 104) rfl rfl rfl ?_
        refine q_iload_n (pc := 106) rfl rfl ?_
        refine q_callV (pc := 107) _ rfl rfl rfl (by first | exact HR.X' H hl | exact HR.B H hl isB1 A.1 | exact HR.R H hl A.2.2.2.2.2.1.1 | exact HR.O H hl isB1 A.1 hp | exact HR.c H hl _ rfl) rfl (Nat.le_of_ble_eq_true rfl) (by omega) _ rfl ?_
        have hat := (KK.2.1 p hp).2.2.1
        refine c_minutesOf (by omega) H hl isB1 A.1 A.2.2.2.2.2.1 KK hp hc0 ?_
        intro h s1 H k1
        refine q_iret (pc := 110) rfl (rfl) ?_
        refine eqQ ?_ (kk _ _ H (A.fr k1 (fun i g => Or.inr (Or.inr (Or.inl (by omega))))) (cS_now k1 (fun i g => by omega)))
        unfold o_asks
        try rw [zc.out]
        try rw [zp.out]
        try rw [zs.out]
        try rw [zw.out]
        try rw [z1.out]
        try rw [z2.out]
        (try (repeat' split) <;> first | rfl | (exfalso; omega) | (congr 1; omega))
      · refine q_tsw (pc := 26) (t := 111) rfl ((tsw_d g (by decide) (by decide)).trans rfl) ?_
        refine q_bipush (pc := 111) rfl (-2) (by decide) ?_
        refine q_iret (pc := 113) rfl (rfl) ?_
        refine eqQ ?_ (kk _ _ H A sf.rf)
        unfold o_asks
        try rw [zc.out]
        try rw [zp.out]
        try rw [zs.out]
        try rw [zw.out]
        try rw [z1.out]
        try rw [z2.out]
        (try (repeat' split) <;> first | rfl | (exfalso; omega) | (congr 1; omega))
    · have zc : Hd (rg 36 y = 36) := rg_out gc
      refine q_ifne (pc := 19) rfl (fun z => absurd z (by decide)) (fun _ => ?_)
      refine q_bipush (pc := 22) rfl (-2) (by decide) ?_
      refine q_iret (pc := 24) rfl (rfl) ?_
      refine eqQ ?_ (kk _ _ H A sf.rf)
      unfold o_asks
      try rw [zc.out]
      try rw [zp.out]
      try rw [zs.out]
      try rw [zw.out]
      try rw [z1.out]
      try rw [z2.out]
      (try (repeat' split) <;> first | rfl | (exfalso; omega) | (congr 1; omega))
  · have zp : Hd (rg (β 88) x = β 88) := rg_out gp
    refine q_astore (pc := 8) [_, _, _, _, _] rfl rfl (Nat.le_of_ble_eq_true rfl) rfl ?_
    refine q_aload (pc := 10) rfl rfl rfl ?_
    refine q_ifnullN (pc := 12) rfl ?_
    refine q_bipush (pc := 22) rfl (-2) (by decide) ?_
    refine q_iret (pc := 24) rfl (rfl) ?_
    refine eqQ ?_ (kk _ _ H A sf.rf)
    unfold o_asks
    try rw [zc.out]
    try rw [zp.out]
    try rw [zs.out]
    try rw [zw.out]
    try rw [z1.out]
    try rw [z2.out]
    (try (repeat' split) <;> first | rfl | (exfalso; omega) | (congr 1; omega))
end P30
