/-! ===== the class's calls: force, tide, relay, night, run, count, image, back, feed ===== -/
section P31
variable {d k pc a i j c p b t n m part q : Nat} {v : Int} {L L' : mx_L} {st r : List Value} {P : mx_Pm} {h : mx_H} {s : mx_St} {Q : Option Value → mx_H → Prop} {x y w z u : Int32} {β κ : Nat → Nat} {C : Nat → Nat → Int32} {E : Nat → Nat → Nat} {ik tz : Nat} {tp : Nat → Nat} {σ : Nat → Int32} {sz : Nat → Nat} {cl : Nat → Nat → Int32}
def o_force (β : Nat → Nat) (n : Nat) (x : Int32) : Int32 := if rg n x < n then nI (β 90) else -2
def n_force (β : Nat → Nat) (n : Nat) (x : Int32) : Nat → Nat := if rg n x < n then upN β 90 (rg n x) else β
theorem c_force (hd : 20 ≤ d) (H : HR P h s) (hl : 51 ≤ P.1) (A : CA P s β κ ik tp tz C E σ sz cl) (K : AOK P.2.1 β κ ik tp tz σ sz) (kk : ∀ h' s' β', β' = n_force β P.2.1 x → HR P h' s' → CA P s' β' κ ik tp tz C E σ sz cl → AOK P.2.1 β' κ ik tp tz σ sz → sf s s' cS → Q (some (.int (o_force β P.2.1 x))) h') : wc d 84 [.ref 0, .int x] h Q := by
  have K4 := K.1.2.2.1
  have KK := K.1
  have K0 : 0 < P.2.1 := by have := K.1.2.2.2.2; omega
  have hT := A.2.2.2.2.2.1
  have hT6 := hT.2.1
  have K89 := K.2.1
  refine wc.go [_, _, _] rfl ?_
  refine q_aload_n (pc := 0) rfl rfl rfl ?_
  refine q_getf (pc := 1) rfl (by first | exact HR.X' H hl | exact HR.B H hl isB1 A.1 | exact HR.R H hl A.2.2.2.2.2.1.1 | exact HR.O H hl isB1 A.1 hp | exact HR.c H hl _ rfl) rfl rfl ?_
  refine q_iload_n (pc := 4) rfl rfl ?_
  refine q_callV (pc := 5) _ rfl rfl rfl (by first | exact HR.X' H hl | exact HR.B H hl isB1 A.1 | exact HR.R H hl A.2.2.2.2.2.1.1 | exact HR.O H hl isB1 A.1 hp | exact HR.c H hl _ rfl) rfl (Nat.le_of_ble_eq_true rfl) (by omega) _ rfl ?_
  refine c_textAt H hl hT.1 hT6 (fun t ht hxt => ?_) (fun gt => ?_)
  · subst hxt
    have zt : Hd (rg P.2.1 (nI t) = t) := rg_in ht (by omega)
    refine q_ifnonnull (pc := 8) rfl ?_
    refine q_aload_n (pc := 14) rfl rfl rfl ?_
    refine q_getf (pc := 15) rfl (by first | exact HR.X' H hl | exact HR.B H hl isB1 A.1 | exact HR.R H hl A.2.2.2.2.2.1.1 | exact HR.O H hl isB1 A.1 hp | exact HR.c H hl _ rfl) rfl rfl ?_
    refine q_getf (pc := 18) rfl (by first | exact HR.X' H hl | exact HR.B H hl isB1 A.1 | exact HR.R H hl A.2.2.2.2.2.1.1 | exact HR.O H hl isB1 A.1 hp | exact HR.c H hl _ rfl) rfl rfl ?_
    refine q_istore_n (pc := 21) [_, _, _] rfl (Nat.le_of_ble_eq_true rfl) rfl ?_
    refine q_aload_n (pc := 22) rfl rfl rfl ?_
    refine q_getf (pc := 23) rfl (by first | exact HR.X' H hl | exact HR.B H hl isB1 A.1 | exact HR.R H hl A.2.2.2.2.2.1.1 | exact HR.O H hl isB1 A.1 hp | exact HR.c H hl _ rfl) rfl rfl ?_
    refine q_iload_n (pc := 26) rfl rfl ?_
    refine r_pf2 (pc := 27) (i := 5) rfl H hl (okB isB1) (ecB isB1 _) rfl rfl (Nat.le_of_ble_eq_true rfl) rfl (ecB isB1 _) ?_
    intro h H
    have hβ := BT.pt (v := t) (c := 1) (i := 5) A.1 (Or.inr (Or.inr (Or.inr ⟨rfl, by decide, by decide, rfl⟩)))
    refine q_iload_n (pc := 30) rfl rfl ?_
    refine q_iret (pc := 31) rfl (rfl) ?_
    have e1 : o_force β P.2.1 (nI t) = nI (β 90) ∧ n_force β P.2.1 (nI t) = upN β 90 t := by
      unfold o_force n_force
      rw [zt.out, if_pos ht, if_pos ht]
      exact ⟨rfl, rfl⟩
    rw [e1.1] at kk
    exact kk _ _ _ e1.2.symm H (A.now (S := fun i => 1 ≤ i ∧ i < 9) (sf.rf.st (by omega)) (fun i g => Or.inl (by omega)) hβ) (K.up (by unfold pltb; rw [if_neg (by decide), if_neg (by decide), if_pos rfl]; omega) K0) (cS_now (S := fun i => 1 ≤ i ∧ i < 9) (sf.rf.st (by omega)) (fun i g => by omega))
  · have zt : Hd (rg P.2.1 x = P.2.1) := rg_out gt
    refine q_ifnonnullN (pc := 8) rfl ?_
    refine q_bipush (pc := 11) rfl (-2) (by decide) ?_
    refine q_iret (pc := 13) rfl (rfl) ?_
    have e1 : o_force β P.2.1 x = -2 ∧ n_force β P.2.1 x = β := by
      unfold o_force n_force
      rw [zt.out, if_neg (by omega), if_neg (by omega)]
      exact ⟨rfl, rfl⟩
    rw [e1.1] at kk
    exact kk _ _ _ e1.2.symm H A K sf.rf
def o_tide (C : Nat → Nat → Int32) (E : Nat → Nat → Nat) (β : Nat → Nat) (x : Int32) : Int32 := if rg 7 x < 7 then (if β 89 < 999 then nI (popN (wbs (flob C E β (rg 7 x)))) else -3) else -2
def n_tide (C : Nat → Nat → Int32) (E : Nat → Nat → Nat) (β : Nat → Nat) (x : Int32) : Nat → Nat := if rg 7 x < 7 ∧ β 89 < 999 then flob C E β (rg 7 x) else β
theorem flob_89 {r : Nat} : flob C E β r 89 = β 89 + 1 := by unfold flob; rw [if_neg (by omega), if_pos rfl]
theorem c_tide (hd : 20 ≤ d) (H : HR P h s) (hl : 51 ≤ P.1) (A : CA P s β κ ik tp tz C E σ sz cl) (K : AOK P.2.1 β κ ik tp tz σ sz) (kk : ∀ h' s' β', β' = n_tide C E β x → HR P h' s' → CA P s' β' κ ik tp tz C E σ sz cl → AOK P.2.1 β' κ ik tp tz σ sz → sf s s' cS → Q (some (.int (o_tide C E β x))) h') : wc d 85 [.ref 0, .int x] h Q := by
  have K4 := K.1.2.2.1
  have KK := K.1
  have K0 : 0 < P.2.1 := by have := K.1.2.2.2.2; omega
  have hT := A.2.2.2.2.2.1
  have hT6 := hT.2.1
  have K89 := K.2.1
  rcases rgc 7 (by decide) x with ⟨w, hw, rfl, z1⟩ | ⟨g, z1⟩
  ·
    refine wc.go [_, _] rfl ?_
    refine q_iload_n (pc := 0) rfl rfl ?_
    refine q_iflt (pc := 1) rfl (fun h1 => ?_) (fun h1 => ?_)
    · first | (exfalso; omega) | exact absurd h1 (nI_pos (by omega)) | exact absurd (nI_pos' (by omega)) h1
    · refine q_iload_n (pc := 4) rfl rfl ?_
      refine q_bipush (pc := 5) rfl (nI 6) (by decide) ?_
      first | refine n_icmple (pc := 7) rfl (by omega) (by omega) (fun h7 => ?_) (fun h7 => ?_) | refine q_icmple (pc := 7) rfl (fun h7 => ?_) (fun h7 => ?_)
      · refine q_aload_n (pc := 13) rfl rfl rfl ?_
        refine q_getf (pc := 14) rfl (by first | exact HR.X' H hl | exact HR.B H hl isB1 A.1 | exact HR.R H hl A.2.2.2.2.2.1.1 | exact HR.O H hl isB1 A.1 hp | exact HR.c H hl _ rfl) rfl rfl ?_
        refine q_getf (pc := 17) rfl (by first | exact HR.X' H hl | exact HR.B H hl isB1 A.1 | exact HR.R H hl A.2.2.2.2.2.1.1 | exact HR.O H hl isB1 A.1 hp | exact HR.c H hl _ rfl) rfl rfl ?_
        refine q_sipush (pc := 20) rfl (nI 999) (by decide) ?_
        first | refine n_icmplt (pc := 23) rfl (by omega) (by omega) (fun h23 => ?_) (fun h23 => ?_) | refine q_icmplt (pc := 23) rfl (fun h23 => ?_) (fun h23 => ?_)
        · first
          | (exfalso; omega (config := {splitDisjunctions := false}))
          | skip
            refine q_aload_n (pc := 29) rfl rfl rfl ?_
            refine q_getf (pc := 30) rfl (by first | exact HR.X' H hl | exact HR.B H hl isB1 A.1 | exact HR.R H hl A.2.2.2.2.2.1.1 | exact HR.O H hl isB1 A.1 hp | exact HR.c H hl _ rfl) rfl rfl ?_
            refine q_aload_n (pc := 33) rfl rfl rfl ?_
            refine q_getf (pc := 34) rfl (by first | exact HR.X' H hl | exact HR.B H hl isB1 A.1 | exact HR.R H hl A.2.2.2.2.2.1.1 | exact HR.O H hl isB1 A.1 hp | exact HR.c H hl _ rfl) rfl rfl ?_
            refine q_iload_n (pc := 37) rfl rfl ?_
            refine q_callV (pc := 38) _ rfl rfl rfl (by first | exact HR.X' H hl | exact HR.B H hl isB1 A.1 | exact HR.R H hl A.2.2.2.2.2.1.1 | exact HR.O H hl isB1 A.1 hp | exact HR.c H hl _ rfl) rfl (Nat.le_of_ble_eq_true rfl) (by omega) _ rfl ?_
            refine c_flood (by omega) H hl isB1 A.1 hT KK (show w ≤ 6 by omega) ?_
            intro h s1 H hβ hT k1
            have A := A.now k1 (fun i g => by omega) hβ
            have bf := bok_flo (C := C) (E := E) (r := w) KK K.2.1
            have K := K.bk bf (by rw [flob_89]; omega)
            refine q_aload_n (pc := 41) rfl rfl rfl ?_
            refine q_getf (pc := 42) rfl (by first | exact HR.X' H hl | exact HR.B H hl isB1 A.1 | exact HR.R H hl A.2.2.2.2.2.1.1 | exact HR.O H hl isB1 A.1 hp | exact HR.c H hl _ rfl) rfl rfl ?_
            refine q_callV (pc := 45) _ rfl rfl rfl (by first | exact HR.X' H hl | exact HR.B H hl isB1 A.1 | exact HR.R H hl A.2.2.2.2.2.1.1 | exact HR.O H hl isB1 A.1 hp | exact HR.c H hl _ rfl) rfl (Nat.le_of_ble_eq_true rfl) (by omega) _ rfl ?_
            refine c_wrongCells (by omega) H hl isB1 hβ bf.1 ?_
            refine q_iret (pc := 48) rfl (rfl) ?_
            have e1 : o_tide C E β (nI w) = nI (popN (wbs (flob C E β w))) ∧ n_tide C E β (nI w) = flob C E β w := by
              unfold o_tide n_tide
              rw [z1.out, if_pos hw, if_pos (by omega), if_pos (by omega)]
              exact ⟨rfl, rfl⟩
            rw [e1.1] at kk
            exact kk _ _ _ e1.2.symm H A K (cS_now k1 (fun i g => by omega))
        · first
          | (exfalso; omega (config := {splitDisjunctions := false}))
          | skip
            refine q_bipush (pc := 26) rfl (-3) (by decide) ?_
            refine q_iret (pc := 28) rfl (rfl) ?_
            have e1 : o_tide C E β (nI w) = -3 ∧ n_tide C E β (nI w) = β := by
              unfold o_tide n_tide
              rw [z1.out, if_pos hw, if_neg (by omega), if_neg (by omega)]
              exact ⟨rfl, rfl⟩
            rw [e1.1] at kk
            exact kk _ _ _ e1.2.symm H A K sf.rf
      · first | (exfalso; omega) | exact absurd h7 (nI_pos (by omega)) | exact absurd (nI_pos' (by omega)) h7
  ·
    refine wc.go [_, _] rfl ?_
    refine q_iload_n (pc := 0) rfl rfl ?_
    refine q_iflt (pc := 1) rfl (fun h1 => ?_) (fun h1 => ?_)
    · first
      | (exfalso; omega (config := {splitDisjunctions := false}))
      | skip
        refine q_bipush (pc := 10) rfl (-2) (by decide) ?_
        refine q_iret (pc := 12) rfl (rfl) ?_
        have e1 : o_tide C E β x = -2 ∧ n_tide C E β x = β := by
          unfold o_tide n_tide
          rw [z1.out, if_neg (by omega), if_neg (by omega)]
          exact ⟨rfl, rfl⟩
        rw [e1.1] at kk
        exact kk _ _ _ e1.2.symm H A K sf.rf
    · first
      | (exfalso; omega (config := {splitDisjunctions := false}))
      | skip
        refine q_iload_n (pc := 4) rfl rfl ?_
        refine q_bipush (pc := 5) rfl (nI 6) (by decide) ?_
        refine q_icmple (pc := 7) rfl (fun h7 => ?_) (fun h7 => ?_)
        · exact (g.elim h1 (fun z => z_out (m := 7) g h1 h7 (by decide))).elim
        · first
          | (exfalso; omega (config := {splitDisjunctions := false}))
          | skip
            refine q_bipush (pc := 10) rfl (-2) (by decide) ?_
            refine q_iret (pc := 12) rfl (rfl) ?_
            have e1 : o_tide C E β x = -2 ∧ n_tide C E β x = β := by
              unfold o_tide n_tide
              rw [z1.out, if_neg (by omega), if_neg (by omega)]
              exact ⟨rfl, rfl⟩
            rw [e1.1] at kk
            exact kk _ _ _ e1.2.symm H A K sf.rf
def o_relay (C : Nat → Nat → Int32) (E : Nat → Nat → Nat) (β : Nat → Nat) (x y : Int32) : Int32 := if rg (β 88) x < β 88 ∧ rg 36 y < 36 then nI (mnN C E β (rg (β 88) x) (rg 36 y)) else -2
def n_relay (C : Nat → Nat → Int32) (E : Nat → Nat → Nat) (β : Nat → Nat) (x y : Int32) : Nat → Nat := if rg (β 88) x < β 88 ∧ rg 36 y < 36 then layb C E β (rg (β 88) x) (rg 36 y) else β
theorem layb_89 {p c : Nat} (hp : p < 4) (hc : c < 36) : layb C E β p c 89 = β 89 := by unfold layb; rw [upN_n (by omega), upN_n (by omega), upN_n (by omega)]
theorem c_relay (hd : 20 ≤ d) (H : HR P h s) (hl : 51 ≤ P.1) (A : CA P s β κ ik tp tz C E σ sz cl) (K : AOK P.2.1 β κ ik tp tz σ sz) (kk : ∀ h' s' β', β' = n_relay C E β x y → HR P h' s' → CA P s' β' κ ik tp tz C E σ sz cl → AOK P.2.1 β' κ ik tp tz σ sz → sf s s' cS → Q (some (.int (o_relay C E β x y))) h') : wc d 86 [.ref 0, .int x, .int y] h Q := by
  have K4 := K.1.2.2.1
  have KK := K.1
  have K0 : 0 < P.2.1 := by have := K.1.2.2.2.2; omega
  have hT := A.2.2.2.2.2.1
  have hT6 := hT.2.1
  have K89 := K.2.1
  refine wc.go [_, _, _, _] rfl ?_
  refine q_aload_n (pc := 0) rfl rfl rfl ?_
  refine q_getf (pc := 1) rfl (by first | exact HR.X' H hl | exact HR.B H hl isB1 A.1 | exact HR.R H hl A.2.2.2.2.2.1.1 | exact HR.O H hl isB1 A.1 hp | exact HR.c H hl _ rfl) rfl rfl ?_
  refine q_iload_n (pc := 4) rfl rfl ?_
  refine q_callV (pc := 5) _ rfl rfl rfl (by first | exact HR.X' H hl | exact HR.B H hl isB1 A.1 | exact HR.R H hl A.2.2.2.2.2.1.1 | exact HR.O H hl isB1 A.1 hp | exact HR.c H hl _ rfl) rfl (Nat.le_of_ble_eq_true rfl) (by omega) _ rfl ?_
  refine c_member H hl isB1 A.1 (fun p hp hpβ hxp => ?_) (fun gp => ?_) K4
  · subst hxp
    have zp : Hd (rg (β 88) (nI p) = p) := rg_in hpβ (by omega)
    refine q_astore_n (pc := 8) [_, _, _, _] rfl rfl (Nat.le_of_ble_eq_true rfl) rfl ?_
    refine q_aload_n (pc := 9) rfl rfl rfl ?_
    refine q_ifnull (pc := 10) rfl ?_
    refine q_iload_n (pc := 13) rfl rfl ?_
    refine q_callS (pc := 14) _ (by decide) rfl rfl rfl rfl (Nat.le_of_ble_eq_true rfl) (by omega) _ rfl ?_
    refine c_isCell (fun c0 hc0 hx0 => ?_) (fun gc => ?_)
    · subst hx0
      have zc : Hd (rg 36 (nI c0) = c0) := rg_in hc0 (by decide)
      refine q_ifne (pc := 17) rfl (fun _ => ?_) (fun z => absurd z (by decide))
      refine q_aload_n (pc := 25) rfl rfl rfl ?_
      refine q_getf (pc := 26) rfl (by first | exact HR.X' H hl | exact HR.B H hl isB1 A.1 | exact HR.R H hl A.2.2.2.2.2.1.1 | exact HR.O H hl isB1 A.1 hp | exact HR.c H hl _ rfl) rfl rfl ?_
      refine q_aload_n (pc := 29) rfl rfl rfl ?_
      refine q_getf (pc := 30) rfl (by first | exact HR.X' H hl | exact HR.B H hl isB1 A.1 | exact HR.R H hl A.2.2.2.2.2.1.1 | exact HR.O H hl isB1 A.1 hp | exact HR.c H hl _ rfl) rfl rfl ?_
      refine q_aload_n (pc := 33) rfl rfl rfl ?_
      refine q_iload_n (pc := 34) rfl rfl ?_
      refine q_callV (pc := 35) _ rfl rfl rfl (by first | exact HR.X' H hl | exact HR.B H hl isB1 A.1 | exact HR.R H hl A.2.2.2.2.2.1.1 | exact HR.O H hl isB1 A.1 hp | exact HR.c H hl _ rfl) rfl (Nat.le_of_ble_eq_true rfl) (by omega) _ rfl ?_
      refine c_lay (by omega) H hl isB1 A.1 hT KK hp hc0 ?_
      intro h s1 H hβ hT k1
      refine q_iret (pc := 38) rfl (rfl) ?_
      first
      | (have e1 : o_relay C E β (nI p) (nI c0) = nI (mnN C E β p c0) ∧ n_relay C E β (nI p) (nI c0) = layb C E β p c0 := by
           unfold o_relay n_relay
           rw [zp.out, zc.out, if_pos (by omega), if_pos (by omega)]
           exact ⟨rfl, rfl⟩
         rw [e1.1] at kk
         exact kk _ _ _ e1.2.symm H (A.now k1 (fun i g => by omega) hβ) (K.bk (bok_lay KK hp hc0) (by rw [layb_89 hp hc0]; exact K.2.1)) (cS_now k1 (fun i g => by omega)))
      | (have e1 : o_relay C E β x y = -2 ∧ n_relay C E β x y = β := by
           unfold o_relay n_relay
           rw [zp.out, if_neg (by omega), if_neg (by omega)]
           exact ⟨rfl, rfl⟩
         rw [e1.1] at kk
         exact kk _ _ _ e1.2.symm H A K sf.rf)
      | (have e1 : o_relay C E β (nI p) y = -2 ∧ n_relay C E β (nI p) y = β := by
           unfold o_relay n_relay
           rw [zp.out, zc.out, if_neg (by omega), if_neg (by omega)]
           exact ⟨rfl, rfl⟩
         rw [e1.1] at kk
         exact kk _ _ _ e1.2.symm H A K sf.rf)
    · have zc : Hd (rg 36 y = 36) := rg_out gc
      refine q_ifne (pc := 17) rfl (fun z => absurd z (by decide)) (fun _ => ?_)
      refine q_bipush (pc := 20) rfl (-2) (by decide) ?_
      refine q_goto (pc := 22) rfl ?_
      refine q_iret (pc := 38) rfl (rfl) ?_
      first
      | (have e1 : o_relay C E β (nI p) (nI c0) = nI (mnN C E β p c0) ∧ n_relay C E β (nI p) (nI c0) = layb C E β p c0 := by
           unfold o_relay n_relay
           rw [zp.out, zc.out, if_pos (by omega), if_pos (by omega)]
           exact ⟨rfl, rfl⟩
         rw [e1.1] at kk
         exact kk _ _ _ e1.2.symm H (A.now k1 (fun i g => by omega) hβ) (K.bk (bok_lay KK hp hc0) (by rw [layb_89 hp hc0]; exact K.2.1)) (cS_now k1 (fun i g => by omega)))
      | (have e1 : o_relay C E β x y = -2 ∧ n_relay C E β x y = β := by
           unfold o_relay n_relay
           rw [zp.out, if_neg (by omega), if_neg (by omega)]
           exact ⟨rfl, rfl⟩
         rw [e1.1] at kk
         exact kk _ _ _ e1.2.symm H A K sf.rf)
      | (have e1 : o_relay C E β (nI p) y = -2 ∧ n_relay C E β (nI p) y = β := by
           unfold o_relay n_relay
           rw [zp.out, zc.out, if_neg (by omega), if_neg (by omega)]
           exact ⟨rfl, rfl⟩
         rw [e1.1] at kk
         exact kk _ _ _ e1.2.symm H A K sf.rf)
  · have zp : Hd (rg (β 88) x = β 88) := rg_out gp
    refine q_astore_n (pc := 8) [_, _, _, _] rfl rfl (Nat.le_of_ble_eq_true rfl) rfl ?_
    refine q_aload_n (pc := 9) rfl rfl rfl ?_
    refine q_ifnullN (pc := 10) rfl ?_
    refine q_bipush (pc := 20) rfl (-2) (by decide) ?_
    refine q_goto (pc := 22) rfl ?_
    refine q_iret (pc := 38) rfl (rfl) ?_
    first
    | (have e1 : o_relay C E β (nI p) (nI c0) = nI (mnN C E β p c0) ∧ n_relay C E β (nI p) (nI c0) = layb C E β p c0 := by
         unfold o_relay n_relay
         rw [zp.out, zc.out, if_pos (by omega), if_pos (by omega)]
         exact ⟨rfl, rfl⟩
       rw [e1.1] at kk
       exact kk _ _ _ e1.2.symm H (A.now k1 (fun i g => by omega) hβ) (K.bk (bok_lay KK hp hc0) (by rw [layb_89 hp hc0]; exact K.2.1)) (cS_now k1 (fun i g => by omega)))
    | (have e1 : o_relay C E β x y = -2 ∧ n_relay C E β x y = β := by
         unfold o_relay n_relay
         rw [zp.out, if_neg (by omega), if_neg (by omega)]
         exact ⟨rfl, rfl⟩
       rw [e1.1] at kk
       exact kk _ _ _ e1.2.symm H A K sf.rf)
    | (have e1 : o_relay C E β (nI p) y = -2 ∧ n_relay C E β (nI p) y = β := by
         unfold o_relay n_relay
         rw [zp.out, zc.out, if_neg (by omega), if_neg (by omega)]
         exact ⟨rfl, rfl⟩
       rw [e1.1] at kk
       exact kk _ _ _ e1.2.symm H A K sf.rf)
def ngtF (C : Nat → Nat → Int32) (E : Nat → Nat → Nat) (β : Nat → Nat) (p m : Nat) : (Nat → Nat) × Nat × Nat := ngt C E p m 36 β 0 0 0
def o_night (C : Nat → Nat → Int32) (E : Nat → Nat → Nat) (β : Nat → Nat) (x y : Int32) : Int32 := if rg (β 88) x < β 88 ∧ rg 1000 y < 1000 then nI (ngtF C E β (rg (β 88) x) (rg 1000 y)).2.2 else -2
def n_night (C : Nat → Nat → Int32) (E : Nat → Nat → Nat) (β : Nat → Nat) (x y : Int32) : Nat → Nat := if rg (β 88) x < β 88 ∧ rg 1000 y < 1000 then (ngtF C E β (rg (β 88) x) (rg 1000 y)).1 else β
theorem ngt_89 {p m : Nat} (hp : p < 4) : ∀ (n : Nat) (β : Nat → Nat) (dn sp rl : Nat), (ngt C E p m n β dn sp rl).1 89 = β 89 := by
  intro n
  induction n with
  | zero => intro β dn sp rl; rfl
  | succ n ih =>
    intro β dn sp rl
    rw [ngt]
    have := nst_lt (nfr β dn) (apN (β (72 + 4 * p + 2))) 36
    split
    · rfl
    · rw [ih, layb_89 hp (by omega)]
theorem c_night (hd : 20 ≤ d) (H : HR P h s) (hl : 51 ≤ P.1) (A : CA P s β κ ik tp tz C E σ sz cl) (K : AOK P.2.1 β κ ik tp tz σ sz) (kk : ∀ h' s' β', β' = n_night C E β x y → HR P h' s' → CA P s' β' κ ik tp tz C E σ sz cl → AOK P.2.1 β' κ ik tp tz σ sz → sf s s' cS → Q (some (.int (o_night C E β x y))) h') : wc d 87 [.ref 0, .int x, .int y] h Q := by
  have K4 := K.1.2.2.1
  have KK := K.1
  have K0 : 0 < P.2.1 := by have := K.1.2.2.2.2; omega
  have hT := A.2.2.2.2.2.1
  have hT6 := hT.2.1
  have K89 := K.2.1
  rcases rgc 1000 (by decide) y with ⟨w, hw, rfl, z1⟩ | ⟨g, z1⟩
  ·
    refine wc.go [_, _, _, _] rfl ?_
    refine q_aload_n (pc := 0) rfl rfl rfl ?_
    refine q_getf (pc := 1) rfl (by first | exact HR.X' H hl | exact HR.B H hl isB1 A.1 | exact HR.R H hl A.2.2.2.2.2.1.1 | exact HR.O H hl isB1 A.1 hp | exact HR.c H hl _ rfl) rfl rfl ?_
    refine q_iload_n (pc := 4) rfl rfl ?_
    refine q_callV (pc := 5) _ rfl rfl rfl (by first | exact HR.X' H hl | exact HR.B H hl isB1 A.1 | exact HR.R H hl A.2.2.2.2.2.1.1 | exact HR.O H hl isB1 A.1 hp | exact HR.c H hl _ rfl) rfl (Nat.le_of_ble_eq_true rfl) (by omega) _ rfl ?_
    refine c_member H hl isB1 A.1 (fun p hp hpβ hxp => ?_) (fun gp => ?_) K4
    · subst hxp
      have zp : Hd (rg (β 88) (nI p) = p) := rg_in hpβ (by omega)
      refine q_astore_n (pc := 8) [_, _, _, _] rfl rfl (Nat.le_of_ble_eq_true rfl) rfl ?_
      refine q_aload_n (pc := 9) rfl rfl rfl ?_
      refine q_ifnull (pc := 10) rfl ?_
      refine q_iload_n (pc := 13) rfl rfl ?_
      refine q_iflt (pc := 14) rfl (fun h14 => ?_) (fun h14 => ?_)
      · first | (exfalso; omega) | exact absurd h14 (nI_pos (by omega)) | exact absurd (nI_pos' (by omega)) h14
      · refine q_iload_n (pc := 17) rfl rfl ?_
        refine q_sipush (pc := 18) rfl (nI 999) (by decide) ?_
        first | refine n_icmple (pc := 21) rfl (by omega) (by omega) (fun h21 => ?_) (fun h21 => ?_) | refine q_icmple (pc := 21) rfl (fun h21 => ?_) (fun h21 => ?_)
        · refine q_aload_n (pc := 27) rfl rfl rfl ?_
          refine q_getf (pc := 28) rfl (by first | exact HR.X' H hl | exact HR.B H hl isB1 A.1 | exact HR.R H hl A.2.2.2.2.2.1.1 | exact HR.O H hl isB1 A.1 hp | exact HR.c H hl _ rfl) rfl rfl ?_
          refine q_aload_n (pc := 31) rfl rfl rfl ?_
          refine q_getf (pc := 32) rfl (by first | exact HR.X' H hl | exact HR.B H hl isB1 A.1 | exact HR.R H hl A.2.2.2.2.2.1.1 | exact HR.O H hl isB1 A.1 hp | exact HR.c H hl _ rfl) rfl rfl ?_
          refine q_aload_n (pc := 35) rfl rfl rfl ?_
          refine q_aload_n (pc := 36) rfl rfl rfl ?_
          refine q_getf (pc := 37) rfl (by first | exact HR.X' H hl | exact HR.B H hl isB1 A.1 | exact HR.R H hl A.2.2.2.2.2.1.1 | exact HR.O H hl isB1 A.1 hp | exact HR.c H hl _ rfl) rfl rfl ?_
          refine q_iload_n (pc := 40) rfl rfl ?_
          refine q_callV (pc := 41) _ rfl rfl rfl (by first | exact HR.X' H hl | exact HR.B H hl isB1 A.1 | exact HR.R H hl A.2.2.2.2.2.1.1 | exact HR.O H hl isB1 A.1 hp | exact HR.c H hl _ rfl) rfl (Nat.le_of_ble_eq_true rfl) (by omega) _ rfl ?_
          refine c_pass (by omega) H hl isB1 A.1 hT KK hp (show w ≤ 999 by omega) ?_
          intro h s1 H hβ hT bk _ _ _ er k1
          refine q_aload_n (pc := 44) rfl rfl rfl ?_
          refine q_getf (pc := 45) rfl (by first | exact HR.X' H hl | exact HR.B H hl isB1 A.1 | exact HR.R H hl A.2.2.2.2.2.1.1 | exact HR.O H hl isB1 A.1 hp | exact HR.c H hl _ rfl) rfl rfl ?_
          refine q_getf (pc := 48) rfl (by first | exact HR.X' H hl | exact HR.B H hl isB1 A.1 | exact HR.R H hl A.2.2.2.2.2.1.1 | exact HR.O H hl isB1 A.1 hp | exact HR.c H hl _ rfl) rfl rfl ?_
          rw [er]
          refine q_iret (pc := 51) rfl (rfl) ?_
          first
          | (have e1 : o_night C E β (nI p) (nI w) = nI (ngt C E p w 36 β 0 0 0).2.2 ∧ n_night C E β (nI p) (nI w) = (ngt C E p w 36 β 0 0 0).1 := by
               unfold o_night n_night
               rw [zp.out, z1.out, if_pos (by omega), if_pos (by omega)]
               exact ⟨rfl, rfl⟩
             rw [e1.1] at kk
             exact kk _ _ _ e1.2.symm H (A.now k1 (fun i g => by omega) hβ) (K.bk bk (by rw [ngt_89 hp]; exact K.2.1)) (cS_now k1 (fun i g => by omega)))
          | (have e1 : o_night C E β x (nI w) = -2 ∧ n_night C E β x (nI w) = β := by
               unfold o_night n_night
               rw [zp.out, if_neg (by omega), if_neg (by omega)]
               exact ⟨rfl, rfl⟩
             rw [e1.1] at kk
             exact kk _ _ _ e1.2.symm H A K sf.rf)
        · first | (exfalso; omega) | exact absurd h21 (nI_pos (by omega)) | exact absurd (nI_pos' (by omega)) h21
    · have zp : Hd (rg (β 88) x = β 88) := rg_out gp
      refine q_astore_n (pc := 8) [_, _, _, _] rfl rfl (Nat.le_of_ble_eq_true rfl) rfl ?_
      refine q_aload_n (pc := 9) rfl rfl rfl ?_
      refine q_ifnullN (pc := 10) rfl ?_
      refine q_bipush (pc := 24) rfl (-2) (by decide) ?_
      refine q_iret (pc := 26) rfl (rfl) ?_
      first
      | (have e1 : o_night C E β (nI p) (nI w) = nI (ngt C E p w 36 β 0 0 0).2.2 ∧ n_night C E β (nI p) (nI w) = (ngt C E p w 36 β 0 0 0).1 := by
           unfold o_night n_night
           rw [zp.out, z1.out, if_pos (by omega), if_pos (by omega)]
           exact ⟨rfl, rfl⟩
         rw [e1.1] at kk
         exact kk _ _ _ e1.2.symm H (A.now k1 (fun i g => by omega) hβ) (K.bk bk (by rw [ngt_89 hp]; exact K.2.1)) (cS_now k1 (fun i g => by omega)))
      | (have e1 : o_night C E β x (nI w) = -2 ∧ n_night C E β x (nI w) = β := by
           unfold o_night n_night
           rw [zp.out, if_neg (by omega), if_neg (by omega)]
           exact ⟨rfl, rfl⟩
         rw [e1.1] at kk
         exact kk _ _ _ e1.2.symm H A K sf.rf)
  ·
    have e0 : ∀ x, o_night C E β x y = -2 ∧ n_night C E β x y = β := fun x => by
      unfold o_night n_night
      rw [z1.out, if_neg (by omega), if_neg (by omega)]
      exact ⟨rfl, rfl⟩
    have e1 := e0 x
    rw [e1.1] at kk
    refine wc.go [_, _, _, _] rfl ?_
    refine q_aload_n (pc := 0) rfl rfl rfl ?_
    refine q_getf (pc := 1) rfl (by first | exact HR.X' H hl | exact HR.B H hl isB1 A.1 | exact HR.R H hl A.2.2.2.2.2.1.1 | exact HR.O H hl isB1 A.1 hp | exact HR.c H hl _ rfl) rfl rfl ?_
    refine q_iload_n (pc := 4) rfl rfl ?_
    refine q_callV (pc := 5) _ rfl rfl rfl (by first | exact HR.X' H hl | exact HR.B H hl isB1 A.1 | exact HR.R H hl A.2.2.2.2.2.1.1 | exact HR.O H hl isB1 A.1 hp | exact HR.c H hl _ rfl) rfl (Nat.le_of_ble_eq_true rfl) (by omega) _ rfl ?_
    refine c_member H hl isB1 A.1 (fun p hp hpβ hxp => ?_) (fun gp => ?_) K4
    · refine q_astore_n (pc := 8) [_, _, _, _] rfl rfl (Nat.le_of_ble_eq_true rfl) rfl ?_
      refine q_aload_n (pc := 9) rfl rfl rfl ?_
      refine q_ifnull (pc := 10) rfl ?_
      refine q_iload_n (pc := 13) rfl rfl ?_
      refine q_iflt (pc := 14) rfl (fun h14 => ?_) (fun h14 => ?_)
      · first
        | (exfalso; omega (config := {splitDisjunctions := false}))
        | skip
          refine q_bipush (pc := 24) rfl (-2) (by decide) ?_
          refine q_iret (pc := 26) rfl (rfl) ?_
          exact kk _ _ _ e1.2.symm H A K sf.rf
      · first
        | (exfalso; omega (config := {splitDisjunctions := false}))
        | skip
          refine q_iload_n (pc := 17) rfl rfl ?_
          refine q_sipush (pc := 18) rfl (nI 999) (by decide) ?_
          refine q_icmple (pc := 21) rfl (fun h21 => ?_) (fun h21 => ?_)
          · exact (z_out (m := 1000) g h14 h21 (by decide)).elim
          · first
            | (exfalso; omega (config := {splitDisjunctions := false}))
            | skip
              refine q_bipush (pc := 24) rfl (-2) (by decide) ?_
              refine q_iret (pc := 26) rfl (rfl) ?_
              exact kk _ _ _ e1.2.symm H A K sf.rf
    · refine q_astore_n (pc := 8) [_, _, _, _] rfl rfl (Nat.le_of_ble_eq_true rfl) rfl ?_
      refine q_aload_n (pc := 9) rfl rfl rfl ?_
      refine q_ifnullN (pc := 10) rfl ?_
      refine q_bipush (pc := 24) rfl (-2) (by decide) ?_
      refine q_iret (pc := 26) rfl (rfl) ?_
      exact kk _ _ _ e1.2.symm H A K sf.rf
end P31
