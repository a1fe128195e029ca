/-! ===== the class's calls: the sheets ===== -/
section P33
variable {d k pc a i j c p b t n m part q : Nat} {v : Int} {L L' : mx_L} {st r : List Value} {P : mx_Pm} {h : mx_H} {s : mx_St} {Q : Option Value → mx_H → Prop} {x y w z u : Int32} {β κ : Nat → Nat} {C : Nat → Nat → Int32} {E : Nat → Nat → Nat} {ik tz : Nat} {tp : Nat → Nat} {σ : Nat → Int32} {sz : Nat → Nat} {cl : Nat → Nat → Int32}
def up1 {α : Type} (f : Nat → α) (j : Nat) (v : α) : Nat → α := fun i => if i = j then v else f i
theorem up1_s {α : Type} {f : Nat → α} {j : Nat} {v : α} : up1 f j v j = v := if_pos rfl
theorem up1_n {α : Type} {f : Nat → α} {i j : Nat} {v : α} (h : i ≠ j) : up1 f j v i = f i := if_neg h
abbrev shT : Type := (Nat → Int32) × (Nat → Nat) × (Nat → Nat → Int32)
abbrev isT (x : Int32) : Prop := x = -1 ∨ x = 0 ∨ x = 1 ∨ x = 2
theorem CA.sh {P : mx_Pm} {s s' : mx_St} {q : Nat} {σ' : Nat → Int32} {sz' : Nat → Nat} {cl' : Nat → Nat → Int32} (A : CA P s β κ ik tp tz C E σ sz cl) (hq : q < 4) (f : sf s s' (fun i => 43 + 2 * q ≤ i ∧ i < 43 + 2 * q + 2)) (e1 : s' (43 + 2 * q) 1 = σ' q) (e2 : s' (43 + 2 * q) 2 = nI (sz' q)) (e3 : ∀ i, i < 40 → s' (43 + 2 * q + 1) i = cl' q i) (o : ∀ p, p ≠ q → σ' p = σ p ∧ sz' p = sz p ∧ cl' p = cl p) : CA P s' β κ ik tp tz C E σ' sz' cl' ∧ sf s s' cS := by
  obtain ⟨h1, h2, h3, h4, h5, h6, h7⟩ := A
  have e : ∀ i, ¬ (43 + 2 * q ≤ i ∧ i < 43 + 2 * q + 2) → s' i = s i := fun i hi => f i hi
  refine ⟨⟨h1.fr f (fun i g1 g2 z => by omega), h2.fr f (fun i g1 g2 z => by omega), (congrFun (e 0 (by omega)) 3).trans h3, fun i hi => (congrFun (e 26 (by omega)) i).trans (h4 i hi), (congrFun (e 25 (by omega)) 1).trans h5, h6.fr f (fun i z => by omega), fun p hp => ?_⟩, f.mono (fun i g => Or.inl (by omega))⟩
  by_cases g : p = q
  · subst g
    exact ⟨e1, e2, e3⟩
  · obtain ⟨g1, g2, g3⟩ := h7 p hp
    obtain ⟨o1, o2, o3⟩ := o p g
    rw [o1, o2, o3]
    exact ⟨(congrFun (e _ (by omega)) _).trans g1, (congrFun (e _ (by omega)) _).trans g2, fun i hi => (congrFun (e _ (by omega)) _).trans (g3 i hi)⟩
theorem AOK.sh {q : Nat} {σ' : Nat → Int32} {sz' : Nat → Nat} (K : AOK n β κ ik tp tz σ sz) (h1 : sz' q ≤ 40) (h2 : isσ (σ' q)) (o : ∀ p, p ≠ q → σ' p = σ p ∧ sz' p = sz p) : AOK n β κ ik tp tz σ' sz' := by
  obtain ⟨a1, a2, a3, a4, a5, a6, a7, a8⟩ := K
  refine ⟨a1, a2, a3, a4, a5, a6, a7, fun p hp => ?_⟩
  by_cases g : p = q
  · subst g
    exact ⟨h1, h2⟩
  · rw [(o p g).1, (o p g).2]
    exact a8 p hp
theorem c_sheetAt (H : HR P h s) (hl : 51 ≤ P.1) (ht : ∀ q, q < 4 → x = nI q → Q (some (.ref (43 + 2 * q))) h) (hf : (x < 0 ∨ nI 4 ≤ x) → Q (some .null) h) : wc d 125 [.ref 0, .int x] h Q := by
  rcases rgc 4 (by decide) x with ⟨q, hq, rfl, _⟩ | ⟨g, _⟩
  ·
    refine wc.go [_, _] rfl ?_
    refine q_iload_n (pc := 0) rfl rfl ?_
    refine q_iflt (pc := 1) rfl (fun h1 => ?_) (fun h1 => ?_)
    · first | (exfalso; omega) | exact absurd h1 (nI_pos (by omega)) | exact absurd (nI_pos' (by omega)) h1
    · refine q_iload_n (pc := 4) rfl rfl ?_
      refine q_iconst (pc := 5) rfl (nI 4) (by decide) ?_
      first | refine n_icmpge (pc := 6) rfl (by omega) (by omega) (fun h6 => ?_) (fun h6 => ?_) | refine q_icmpge (pc := 6) rfl (fun h6 => ?_) (fun h6 => ?_)
      · first | (exfalso; omega) | exact absurd h6 (nI_pos (by omega)) | exact absurd (nI_pos' (by omega)) h6
      · refine q_aload_n (pc := 9) rfl rfl rfl ?_
        refine q_getf (pc := 10) rfl (by exact HR.X' H hl) rfl rfl ?_
        refine q_iload_n (pc := 13) rfl rfl ?_
        refine n_aal (pc := 14) rfl H hl rfl rfl rfl (by omega) (if_pos (by omega)) (by decide) ?_
        refine q_goto (pc := 15) rfl ?_
        refine q_aret (pc := 19) rfl rfl ?_
        exact ht q hq rfl
  ·
    refine wc.go [_, _] rfl ?_
    refine q_iload_n (pc := 0) rfl rfl ?_
    refine q_iflt (pc := 1) rfl (fun h1 => ?_) (fun h1 => ?_)
    · first
      | (exfalso; omega (config := {splitDisjunctions := false}))
      | skip
        refine q_null (pc := 18) rfl ?_
        refine q_aretN (pc := 19) rfl rfl ?_
        exact hf g
    · first
      | (exfalso; omega (config := {splitDisjunctions := false}))
      | skip
        refine q_iload_n (pc := 4) rfl rfl ?_
        refine q_iconst (pc := 5) rfl (nI 4) (by decide) ?_
        refine q_icmpge (pc := 6) rfl (fun h6 => ?_) (fun h6 => ?_)
        · first
          | (exfalso; omega (config := {splitDisjunctions := false}))
          | skip
            refine q_null (pc := 18) rfl ?_
            refine q_aretN (pc := 19) rfl rfl ?_
            exact hf g
        · exact (g.elim h1 h6).elim
def n_sheet (σ : Nat → Int32) (sz : Nat → Nat) (cl : Nat → Nat → Int32) (x y z : Int32) : shT := if rg 4 x < 4 ∧ isT y then (if y = -1 then (up1 σ (rg 4 x) (-1), up1 sz (rg 4 x) 0, up1 cl (rg 4 x) (fun _ => 0)) else if rg 41 z < 41 then (up1 σ (rg 4 x) y, up1 sz (rg 4 x) (rg 41 z), up1 cl (rg 4 x) (fun _ => 0)) else (σ, sz, cl)) else (σ, sz, cl)
def o_sheet (x y z : Int32) : Int32 := if rg 4 x < 4 ∧ isT y then (if y = -1 then 1 else if rg 41 z < 41 then 1 else if z < 0 then -14 else -2) else -2
theorem isσ_b {y : Int32} (h : isT y) : ¬ y < -1 ∧ y < nI 3 := by
  rcases h with rfl | rfl | rfl | rfl <;> decide
theorem isσ_n {y : Int32} (h : ¬ isT y) (h1 : ¬ y < -1) (h2 : ¬ nI 3 ≤ y) : False := by
  have a1 : ¬ y.toInt < (-1 : Int32).toInt := fun z => h1 (Int32.lt_iff_toInt_lt.mpr z)
  have a2 : ¬ (nI 3).toInt ≤ y.toInt := fun z => h2 (Int32.le_iff_toInt_le.mpr z)
  have b1 : (-1 : Int32).toInt = -1 := by decide
  have b2 : (nI 3).toInt = 3 := by decide
  rcases (show y.toInt = -1 ∨ y.toInt = 0 ∨ y.toInt = 1 ∨ y.toInt = 2 by omega) with e | e | e | e
  · exact h (Or.inl (i32_is (-1) (e.trans (by decide))))
  · exact h (Or.inr (Or.inl (i32_is 0 (e.trans (by decide)))))
  · exact h (Or.inr (Or.inr (Or.inl (i32_is 1 (e.trans (by decide))))))
  · exact h (Or.inr (Or.inr (Or.inr (i32_is 2 (e.trans (by decide))))))
theorem c_sheet (hd : 20 ≤ d) (H : HR P h s) (hl : 51 ≤ P.1) (A : CA P s β κ ik tp tz C E σ sz cl) (K : AOK P.2.1 β κ ik tp tz σ sz) (kk : ∀ h' s' T', T' = n_sheet σ sz cl x y z → HR P h' s' → CA P s' β κ ik tp tz C E T'.1 T'.2.1 T'.2.2 → AOK P.2.1 β κ ik tp tz T'.1 T'.2.1 → sf s s' cS → Q (some (.int (o_sheet x y z))) h') : wc d 119 [.ref 0, .int x, .int y, .int z] h Q := by
  have K4 := K.1.2.2.1
  have KK := K.1
  have hT := A.2.2.2.2.2.1
  have hSh := A.2.2.2.2.2.2
  have kSh := K.2.2.2.2.2.2.2
  by_cases hσ : isT y
  · have y12 := isσ_b hσ
    rcases rgc 41 (by decide) z with ⟨z0, hz0, rfl, z1⟩ | ⟨g, z1⟩
    ·
      refine wc.go [_, _, _, _, _] rfl ?_
      refine q_aload_n (pc := 0) rfl rfl rfl ?_
      refine q_iload_n (pc := 1) rfl rfl ?_
      refine q_callV (pc := 2) _ rfl rfl rfl (by first | exact HR.X' H hl | exact HR.S2 H hl (isS_of hq) g2 | exact HR.S2 H hl (isS_of hq2) g5 | exact HR.S H hl (isS_of hq) | exact HR.B H hl isB1 A.1 | exact HR.R H hl hT.1 | exact HR.O H hl isB1 A.1 hp | exact HR.c H hl _ rfl) rfl (Nat.le_of_ble_eq_true rfl) (by omega) _ rfl ?_
      refine c_sheetAt H hl (fun q hq hxq => ?_) (fun gq => ?_)
      · subst hxq
        have zs : Hd (rg 4 (nI q) = q) := rg_in hq (by decide)
        refine q_astore (pc := 5) [_, _, _, _, _] rfl rfl (Nat.le_of_ble_eq_true rfl) rfl ?_
        refine q_aload (pc := 7) rfl rfl rfl ?_
        refine q_ifnull (pc := 9) rfl ?_
        refine q_iload_n (pc := 12) rfl rfl ?_
        refine q_iconst (pc := 13) rfl (-1) (by decide) ?_
        refine q_icmplt (pc := 14) rfl (fun h14 => ?_) (fun h14 => ?_)
        · exact absurd h14 y12.1
        · first
          | (exfalso; omega (config := {splitDisjunctions := false}))
          | skip
            refine q_iload_n (pc := 17) rfl rfl ?_
            refine q_iconst (pc := 18) rfl (nI 3) (by decide) ?_
            refine q_icmplt (pc := 19) rfl (fun h19 => ?_) (fun h19 => ?_)
            · first
              | (exfalso; omega (config := {splitDisjunctions := false}))
              | skip
                refine q_iload_n (pc := 25) rfl rfl ?_
                refine q_iconst (pc := 26) rfl (-1) (by decide) ?_
                refine q_icmpne (pc := 27) rfl (fun h27 => ?_) (fun h27 => ?_)
                · first
                  | (exfalso; omega (config := {splitDisjunctions := false}))
                  | exact absurd rfl h27
                  | skip
                    refine q_iload_n (pc := 39) rfl rfl ?_
                    refine q_bipush (pc := 40) rfl (nI 40) (by decide) ?_
                    first | refine n_icmple (pc := 42) rfl (by omega) (by omega) (fun h42 => ?_) (fun h42 => ?_) | refine q_icmple (pc := 42) rfl (fun h42 => ?_) (fun h42 => ?_)
                    · refine q_iload_n (pc := 48) rfl rfl ?_
                      refine q_ifge (pc := 49) rfl (fun h49 => ?_) (fun h49 => ?_)
                      · refine q_aload (pc := 55) rfl rfl rfl ?_
                        refine q_iload_n (pc := 57) rfl rfl ?_
                        refine q_iload_n (pc := 58) rfl rfl ?_
                        refine q_callV (pc := 59) _ rfl rfl rfl (by first | exact HR.X' H hl | exact HR.S2 H hl (isS_of hq) g2 | exact HR.S2 H hl (isS_of hq2) g5 | exact HR.S H hl (isS_of hq) | exact HR.B H hl isB1 A.1 | exact HR.R H hl hT.1 | exact HR.O H hl isB1 A.1 hp | exact HR.c H hl _ rfl) rfl (Nat.le_of_ble_eq_true rfl) (by omega) _ rfl ?_
                        refine c_sbecome (n := z0) (by omega) H hl (isS_of hq) (by omega) ?_
                        intro h s1 H k1 f1 f2 f3
                        refine q_iconst (pc := 62) rfl (nI 1) (by decide) ?_
                        refine q_iret (pc := 63) rfl (rfl) ?_
                        have e1 : o_sheet (nI q) y (nI z0) = 1 ∧ n_sheet σ sz cl (nI q) y (nI z0) = (up1 σ q y, up1 sz q z0, up1 cl q (fun _ => 0)) := by
                          refine ⟨?_, ?_⟩
                          · unfold o_sheet
                            rw [zs.out, z1.out, if_pos (show q < 4 ∧ isT y from ⟨hq, hσ⟩), if_neg h27, if_pos hz0]
                          · unfold n_sheet
                            first
                            | rw [zs.out, z1.out, if_pos (show q < 4 ∧ isT y from ⟨hq, hσ⟩), if_neg h27, if_pos hz0]
                            | rw [zs.out, z1.out, if_pos (show q < 4 ∧ isT y from ⟨hq, hσ⟩), if_neg h27]
                        rw [e1.1] at kk
                        exact kk _ _ _ e1.2.symm H (A.sh hq k1 (f1.trans up1_s.symm) (f2.trans (congrArg nI up1_s.symm)) (fun i hi => (f3 i hi).trans (by rw [up1_s])) (fun p hp => ⟨up1_n hp, up1_n hp, up1_n hp⟩)).1 (K.sh (q := q) (σ' := up1 σ q y) (sz' := up1 sz q z0) (by rw [up1_s]; omega) (by rw [up1_s]; exact hσ) (fun p hp => ⟨up1_n hp, up1_n hp⟩)) (A.sh hq k1 (f1.trans up1_s.symm) (f2.trans (congrArg nI up1_s.symm)) (fun i hi => (f3 i hi).trans (by rw [up1_s])) (fun p hp => ⟨up1_n hp, up1_n hp, up1_n hp⟩)).2
                      · first | (exfalso; omega) | exact absurd h49 (nI_pos (by omega)) | exact absurd (nI_pos' (by omega)) h49
                    · first | (exfalso; omega) | exact absurd h42 (nI_pos (by omega)) | exact absurd (nI_pos' (by omega)) h42
                · first
                  | (exfalso; omega (config := {splitDisjunctions := false}))
                  | exact absurd rfl h27
                  | skip
                    refine q_aload (pc := 30) rfl rfl rfl ?_
                    refine q_iconst (pc := 32) rfl (-1) (by decide) ?_
                    refine q_iconst (pc := 33) rfl (nI 0) (by decide) ?_
                    refine q_callV (pc := 34) _ rfl rfl rfl (by first | exact HR.X' H hl | exact HR.S2 H hl (isS_of hq) g2 | exact HR.S2 H hl (isS_of hq2) g5 | exact HR.S H hl (isS_of hq) | exact HR.B H hl isB1 A.1 | exact HR.R H hl hT.1 | exact HR.O H hl isB1 A.1 hp | exact HR.c H hl _ rfl) rfl (Nat.le_of_ble_eq_true rfl) (by omega) _ rfl ?_
                    refine c_sbecome (n := 0) (by omega) H hl (isS_of hq) (by omega) ?_
                    intro h s1 H k1 f1 f2 f3
                    refine q_iconst (pc := 37) rfl (nI 1) (by decide) ?_
                    refine q_iret (pc := 38) rfl (rfl) ?_
                    subst h27
                    have e1 : o_sheet (nI q) (-1) (nI z0) = 1 ∧ n_sheet σ sz cl (nI q) (-1) (nI z0) = (up1 σ q (-1), up1 sz q 0, up1 cl q (fun _ => 0)) := by
                      refine ⟨?_, ?_⟩
                      · unfold o_sheet
                        rw [zs.out, if_pos (show q < 4 ∧ isT (-1) from ⟨hq, hσ⟩), if_pos rfl]
                      · unfold n_sheet
                        first
                        | rw [zs.out, if_pos (show q < 4 ∧ isT (-1) from ⟨hq, hσ⟩), if_pos rfl]
                        | rw [zs.out, if_pos (show q < 4 ∧ isT (-1) from ⟨hq, hσ⟩)]
                    rw [e1.1] at kk
                    exact kk _ _ _ e1.2.symm H (A.sh hq k1 (f1.trans up1_s.symm) (f2.trans (congrArg nI up1_s.symm)) (fun i hi => (f3 i hi).trans (by rw [up1_s])) (fun p hp => ⟨up1_n hp, up1_n hp, up1_n hp⟩)).1 (K.sh (q := q) (σ' := up1 σ q (-1)) (sz' := up1 sz q 0) (by rw [up1_s]; omega) (by rw [up1_s]; exact hσ) (fun p hp => ⟨up1_n hp, up1_n hp⟩)) (A.sh hq k1 (f1.trans up1_s.symm) (f2.trans (congrArg nI up1_s.symm)) (fun i hi => (f3 i hi).trans (by rw [up1_s])) (fun p hp => ⟨up1_n hp, up1_n hp, up1_n hp⟩)).2
            · exact absurd y12.2 h19
      · have zs : Hd (rg 4 x = 4) := rg_out gq
        refine q_astore (pc := 5) [_, _, _, _, _] rfl rfl (Nat.le_of_ble_eq_true rfl) rfl ?_
        refine q_aload (pc := 7) rfl rfl rfl ?_
        refine q_ifnullN (pc := 9) rfl ?_
        refine q_bipush (pc := 22) rfl (-2) (by decide) ?_
        refine q_iret (pc := 24) rfl (rfl) ?_
        have e1 : o_sheet x y (nI z0) = -2 ∧ n_sheet σ sz cl x y (nI z0) = (σ, sz, cl) := by
          refine ⟨?_, ?_⟩
          · unfold o_sheet
            rw [zs.out, if_neg (fun e => absurd e.1 (by omega))]
          · unfold n_sheet
            first
            | rw [zs.out, if_neg (fun e => absurd e.1 (by omega))]
            | rw [zs.out]
        rw [e1.1] at kk
        exact kk _ _ _ e1.2.symm H A K sf.rf
    ·
      refine wc.go [_, _, _, _, _] rfl ?_
      refine q_aload_n (pc := 0) rfl rfl rfl ?_
      refine q_iload_n (pc := 1) rfl rfl ?_
      refine q_callV (pc := 2) _ rfl rfl rfl (by first | exact HR.X' H hl | exact HR.S2 H hl (isS_of hq) g2 | exact HR.S2 H hl (isS_of hq2) g5 | exact HR.S H hl (isS_of hq) | exact HR.B H hl isB1 A.1 | exact HR.R H hl hT.1 | exact HR.O H hl isB1 A.1 hp | exact HR.c H hl _ rfl) rfl (Nat.le_of_ble_eq_true rfl) (by omega) _ rfl ?_
      refine c_sheetAt H hl (fun q hq hxq => ?_) (fun gq => ?_)
      · subst hxq
        have zs : Hd (rg 4 (nI q) = q) := rg_in hq (by decide)
        refine q_astore (pc := 5) [_, _, _, _, _] rfl rfl (Nat.le_of_ble_eq_true rfl) rfl ?_
        refine q_aload (pc := 7) rfl rfl rfl ?_
        refine q_ifnull (pc := 9) rfl ?_
        refine q_iload_n (pc := 12) rfl rfl ?_
        refine q_iconst (pc := 13) rfl (-1) (by decide) ?_
        refine q_icmplt (pc := 14) rfl (fun h14 => ?_) (fun h14 => ?_)
        · exact absurd h14 y12.1
        · first
          | (exfalso; omega (config := {splitDisjunctions := false}))
          | skip
            refine q_iload_n (pc := 17) rfl rfl ?_
            refine q_iconst (pc := 18) rfl (nI 3) (by decide) ?_
            refine q_icmplt (pc := 19) rfl (fun h19 => ?_) (fun h19 => ?_)
            · first
              | (exfalso; omega (config := {splitDisjunctions := false}))
              | skip
                refine q_iload_n (pc := 25) rfl rfl ?_
                refine q_iconst (pc := 26) rfl (-1) (by decide) ?_
                refine q_icmpne (pc := 27) rfl (fun h27 => ?_) (fun h27 => ?_)
                · first
                  | (exfalso; omega (config := {splitDisjunctions := false}))
                  | exact absurd rfl h27
                  | skip
                    refine q_iload_n (pc := 39) rfl rfl ?_
                    refine q_bipush (pc := 40) rfl (nI 40) (by decide) ?_
                    refine q_icmple (pc := 42) rfl (fun h42 => ?_) (fun h42 => ?_)
                    · first
                      | (exfalso; omega (config := {splitDisjunctions := false}))
                      | skip
                        refine q_iload_n (pc := 48) rfl rfl ?_
                        refine q_ifge (pc := 49) rfl (fun h49 => ?_) (fun h49 => ?_)
                        · exact False.elim (g.elim (fun e => absurd h49 (Int32.not_le.mpr e)) (fun e => absurd (Int32.le_trans e h42) (by decide)))
                        · first
                          | (exfalso; omega (config := {splitDisjunctions := false}))
                          | skip
                            refine q_bipush (pc := 52) rfl (-14) (by decide) ?_
                            refine q_iret (pc := 54) rfl (rfl) ?_
                            have e1 : o_sheet (nI q) y z = -14 ∧ n_sheet σ sz cl (nI q) y z = (σ, sz, cl) := by
                              refine ⟨?_, ?_⟩
                              · unfold o_sheet
                                rw [zs.out, z1.out, if_pos (show q < 4 ∧ isT y from ⟨hq, hσ⟩), if_neg h27, if_neg (by decide), if_pos (Int32.not_le.mp h49)]
                              · unfold n_sheet
                                first
                                | rw [zs.out, z1.out, if_pos (show q < 4 ∧ isT y from ⟨hq, hσ⟩), if_neg h27, if_neg (by decide), if_pos (Int32.not_le.mp h49)]
                                | rw [zs.out, z1.out, if_pos (show q < 4 ∧ isT y from ⟨hq, hσ⟩), if_neg h27, if_neg (by decide)]
                            rw [e1.1] at kk
                            exact kk _ _ _ e1.2.symm H A K sf.rf
                    · first
                      | (exfalso; omega (config := {splitDisjunctions := false}))
                      | skip
                        refine q_bipush (pc := 45) rfl (-2) (by decide) ?_
                        refine q_iret (pc := 47) rfl (rfl) ?_
                        have e1 : o_sheet (nI q) y z = -2 ∧ n_sheet σ sz cl (nI q) y z = (σ, sz, cl) := by
                          refine ⟨?_, ?_⟩
                          · unfold o_sheet
                            rw [zs.out, z1.out, if_pos (show q < 4 ∧ isT y from ⟨hq, hσ⟩), if_neg h27, if_neg (by decide), if_neg (fun e => absurd (Int32.lt_trans (Int32.not_le.mp h42) e) (by decide))]
                          · unfold n_sheet
                            first
                            | rw [zs.out, z1.out, if_pos (show q < 4 ∧ isT y from ⟨hq, hσ⟩), if_neg h27, if_neg (by decide), if_neg (fun e => absurd (Int32.lt_trans (Int32.not_le.mp h42) e) (by decide))]
                            | rw [zs.out, z1.out, if_pos (show q < 4 ∧ isT y from ⟨hq, hσ⟩), if_neg h27, if_neg (by decide)]
                        rw [e1.1] at kk
                        exact kk _ _ _ e1.2.symm H A K sf.rf
                · first
                  | (exfalso; omega (config := {splitDisjunctions := false}))
                  | exact absurd rfl h27
                  | skip
                    refine q_aload (pc := 30) rfl rfl rfl ?_
                    refine q_iconst (pc := 32) rfl (-1) (by decide) ?_
                    refine q_iconst (pc := 33) rfl (nI 0) (by decide) ?_
                    refine q_callV (pc := 34) _ rfl rfl rfl (by first | exact HR.X' H hl | exact HR.S2 H hl (isS_of hq) g2 | exact HR.S2 H hl (isS_of hq2) g5 | exact HR.S H hl (isS_of hq) | exact HR.B H hl isB1 A.1 | exact HR.R H hl hT.1 | exact HR.O H hl isB1 A.1 hp | exact HR.c H hl _ rfl) rfl (Nat.le_of_ble_eq_true rfl) (by omega) _ rfl ?_
                    refine c_sbecome (n := 0) (by omega) H hl (isS_of hq) (by omega) ?_
                    intro h s1 H k1 f1 f2 f3
                    refine q_iconst (pc := 37) rfl (nI 1) (by decide) ?_
                    refine q_iret (pc := 38) rfl (rfl) ?_
                    subst h27
                    have e1 : o_sheet (nI q) (-1) z = 1 ∧ n_sheet σ sz cl (nI q) (-1) z = (up1 σ q (-1), up1 sz q 0, up1 cl q (fun _ => 0)) := by
                      refine ⟨?_, ?_⟩
                      · unfold o_sheet
                        rw [zs.out, if_pos (show q < 4 ∧ isT (-1) from ⟨hq, hσ⟩), if_pos rfl]
                      · unfold n_sheet
                        first
                        | rw [zs.out, if_pos (show q < 4 ∧ isT (-1) from ⟨hq, hσ⟩), if_pos rfl]
                        | rw [zs.out, if_pos (show q < 4 ∧ isT (-1) from ⟨hq, hσ⟩)]
                    rw [e1.1] at kk
                    exact kk _ _ _ e1.2.symm H (A.sh hq k1 (f1.trans up1_s.symm) (f2.trans (congrArg nI up1_s.symm)) (fun i hi => (f3 i hi).trans (by rw [up1_s])) (fun p hp => ⟨up1_n hp, up1_n hp, up1_n hp⟩)).1 (K.sh (q := q) (σ' := up1 σ q (-1)) (sz' := up1 sz q 0) (by rw [up1_s]; omega) (by rw [up1_s]; exact hσ) (fun p hp => ⟨up1_n hp, up1_n hp⟩)) (A.sh hq k1 (f1.trans up1_s.symm) (f2.trans (congrArg nI up1_s.symm)) (fun i hi => (f3 i hi).trans (by rw [up1_s])) (fun p hp => ⟨up1_n hp, up1_n hp, up1_n hp⟩)).2
            · exact absurd y12.2 h19
      · have zs : Hd (rg 4 x = 4) := rg_out gq
        refine q_astore (pc := 5) [_, _, _, _, _] rfl rfl (Nat.le_of_ble_eq_true rfl) rfl ?_
        refine q_aload (pc := 7) rfl rfl rfl ?_
        refine q_ifnullN (pc := 9) rfl ?_
        refine q_bipush (pc := 22) rfl (-2) (by decide) ?_
        refine q_iret (pc := 24) rfl (rfl) ?_
        have e1 : o_sheet x y z = -2 ∧ n_sheet σ sz cl x y z = (σ, sz, cl) := by
          refine ⟨?_, ?_⟩
          · unfold o_sheet
            rw [zs.out, if_neg (fun e => absurd e.1 (by omega))]
          · unfold n_sheet
            first
            | rw [zs.out, if_neg (fun e => absurd e.1 (by omega))]
            | rw [zs.out]
        rw [e1.1] at kk
        exact kk _ _ _ e1.2.symm H A K sf.rf
  · have e0 : ∀ x, o_sheet x y z = -2 ∧ n_sheet σ sz cl x y z = (σ, sz, cl) := fun x => by
      unfold o_sheet n_sheet
      rw [if_neg (fun e => hσ e.2), if_neg (fun e => hσ e.2)]
      exact ⟨rfl, rfl⟩
    have e1 := e0 x
    rw [e1.1] at kk
    refine wc.go [_, _, _, _, _] rfl ?_
    refine q_aload_n (pc := 0) rfl rfl rfl ?_
    refine q_iload_n (pc := 1) rfl rfl ?_
    refine q_callV (pc := 2) _ rfl rfl rfl (by first | exact HR.X' H hl | exact HR.S2 H hl (isS_of hq) g2 | exact HR.S2 H hl (isS_of hq2) g5 | exact HR.S H hl (isS_of hq) | exact HR.B H hl isB1 A.1 | exact HR.R H hl hT.1 | exact HR.O H hl isB1 A.1 hp | exact HR.c H hl _ rfl) rfl (Nat.le_of_ble_eq_true rfl) (by omega) _ rfl ?_
    refine c_sheetAt H hl (fun q hq hxq => ?_) (fun gq => ?_)
    · subst hxq
      refine q_astore (pc := 5) [_, _, _, _, _] rfl rfl (Nat.le_of_ble_eq_true rfl) rfl ?_
      refine q_aload (pc := 7) rfl rfl rfl ?_
      refine q_ifnull (pc := 9) rfl ?_
      refine q_iload_n (pc := 12) rfl rfl ?_
      refine q_iconst (pc := 13) rfl (-1) (by decide) ?_
      refine q_icmplt (pc := 14) rfl (fun h14 => ?_) (fun h14 => ?_)
      · first
        | (exfalso; omega (config := {splitDisjunctions := false}))
        | skip
          refine q_bipush (pc := 22) rfl (-2) (by decide) ?_
          refine q_iret (pc := 24) rfl (rfl) ?_
          exact kk _ _ _ (e0 _).2.symm H A K sf.rf
      · first
        | (exfalso; omega (config := {splitDisjunctions := false}))
        | skip
          refine q_iload_n (pc := 17) rfl rfl ?_
          refine q_iconst (pc := 18) rfl (nI 3) (by decide) ?_
          refine q_icmplt (pc := 19) rfl (fun h19 => ?_) (fun h19 => ?_)
          · exact (isσ_n hσ h14 (Int32.not_le.mpr h19)).elim
          · first
            | (exfalso; omega (config := {splitDisjunctions := false}))
            | skip
              refine q_bipush (pc := 22) rfl (-2) (by decide) ?_
              refine q_iret (pc := 24) rfl (rfl) ?_
              exact kk _ _ _ (e0 _).2.symm H A K sf.rf
    · refine q_astore (pc := 5) [_, _, _, _, _] rfl rfl (Nat.le_of_ble_eq_true rfl) rfl ?_
      refine q_aload (pc := 7) rfl rfl rfl ?_
      refine q_ifnullN (pc := 9) rfl ?_
      refine q_bipush (pc := 22) rfl (-2) (by decide) ?_
      refine q_iret (pc := 24) rfl (rfl) ?_
      exact kk _ _ _ (e0 _).2.symm H A K sf.rf
def o_cell (σ : Nat → Int32) (sz : Nat → Nat) (x y : Int32) : Int32 := if rg 4 x < 4 then (if σ (rg 4 x) = -1 then -11 else if rg (sz (rg 4 x)) y < sz (rg 4 x) then 1 else -12) else -2
def n_cell (σ : Nat → Int32) (sz : Nat → Nat) (cl : Nat → Nat → Int32) (x y z : Int32) : shT := if rg 4 x < 4 then (if σ (rg 4 x) = -1 then (σ, sz, cl) else if rg (sz (rg 4 x)) y < sz (rg 4 x) then (σ, sz, up1 cl (rg 4 x) (upd (cl (rg 4 x)) (rg (sz (rg 4 x)) y) (narS (σ (rg 4 x)) z))) else (σ, sz, cl)) else (σ, sz, cl)
theorem c_cell (hd : 20 ≤ d) (H : HR P h s) (hl : 51 ≤ P.1) (A : CA P s β κ ik tp tz C E σ sz cl) (K : AOK P.2.1 β κ ik tp tz σ sz) (kk : ∀ h' s' T', T' = n_cell σ sz cl x y z → HR P h' s' → CA P s' β κ ik tp tz C E T'.1 T'.2.1 T'.2.2 → AOK P.2.1 β κ ik tp tz T'.1 T'.2.1 → sf s s' cS → Q (some (.int (o_cell σ sz x y))) h') : wc d 120 [.ref 0, .int x, .int y, .int z] h Q := by
  have K4 := K.1.2.2.1
  have KK := K.1
  have hT := A.2.2.2.2.2.1
  have hSh := A.2.2.2.2.2.2
  have kSh := K.2.2.2.2.2.2.2
  refine wc.go [_, _, _, _, _] rfl ?_
  refine q_aload_n (pc := 0) rfl rfl rfl ?_
  refine q_iload_n (pc := 1) rfl rfl ?_
  refine q_callV (pc := 2) _ rfl rfl rfl (by first | exact HR.X' H hl | exact HR.S2 H hl (isS_of hq) g2 | exact HR.S2 H hl (isS_of hq2) g5 | exact HR.S H hl (isS_of hq) | exact HR.B H hl isB1 A.1 | exact HR.R H hl hT.1 | exact HR.O H hl isB1 A.1 hp | exact HR.c H hl _ rfl) rfl (Nat.le_of_ble_eq_true rfl) (by omega) _ rfl ?_
  refine c_sheetAt H hl (fun q hq hxq => ?_) (fun gq => ?_)
  · subst hxq
    have zs : Hd (rg 4 (nI q) = q) := rg_in hq (by decide)
    obtain ⟨g1, g2, g3⟩ := hSh q hq
    obtain ⟨k40, kσ⟩ := kSh q hq
    refine q_astore (pc := 5) [_, _, _, _, _] rfl rfl (Nat.le_of_ble_eq_true rfl) rfl ?_
    refine q_aload (pc := 7) rfl rfl rfl ?_
    refine q_ifnonnull (pc := 9) rfl ?_
    refine q_aload (pc := 15) rfl rfl rfl ?_
    refine q_callV (pc := 17) _ rfl rfl rfl (by first | exact HR.X' H hl | exact HR.S2 H hl (isS_of hq) g2 | exact HR.S2 H hl (isS_of hq2) g5 | exact HR.S H hl (isS_of hq) | exact HR.B H hl isB1 A.1 | exact HR.R H hl hT.1 | exact HR.O H hl isB1 A.1 hp | exact HR.c H hl _ rfl) rfl (Nat.le_of_ble_eq_true rfl) (by omega) _ rfl ?_
    refine c_isThere H hl (isS_of hq) (fun gs => ?_) (fun gs => ?_)
    · rw [g1] at gs
      refine q_ifne (pc := 20) rfl (fun _ => ?_) (fun z => absurd z (by decide))
      refine q_iload_n (pc := 26) rfl rfl ?_
      refine q_iflt (pc := 27) rfl (fun h27 => ?_) (fun h27 => ?_)
      · first
        | (exfalso; omega (config := {splitDisjunctions := false}))
        | skip
          refine q_bipush (pc := 39) rfl (-12) (by decide) ?_
          refine q_iret (pc := 41) rfl (rfl) ?_
          have z2 : Hd (rg (sz q) y = sz q) := rg_out (by first | exact Or.inl h27 | exact Or.inr h36 | exact Or.inr (Int32.not_lt.mp h36))
          have e1 : o_cell σ sz (nI q) y = -12 ∧ n_cell σ sz cl (nI q) y z = (σ, sz, cl) := by
            refine ⟨?_, ?_⟩
            · unfold o_cell
              rw [zs.out, if_pos hq, if_neg gs, z2.out, if_neg (by omega)]
            · unfold n_cell
              first
              | rw [zs.out, if_pos hq, if_neg gs, z2.out, if_neg (by omega)]
              | rw [zs.out, if_pos hq, if_neg gs, z2.out]
          rw [e1.1] at kk
          exact kk _ _ _ e1.2.symm H A K sf.rf
      · first
        | (exfalso; omega (config := {splitDisjunctions := false}))
        | skip
          refine q_iload_n (pc := 30) rfl rfl ?_
          refine q_aload (pc := 31) rfl rfl rfl ?_
          refine q_getf (pc := 33) rfl (by first | exact HR.X' H hl | exact HR.S2 H hl (isS_of hq) g2 | exact HR.S2 H hl (isS_of hq2) g5 | exact HR.S H hl (isS_of hq) | exact HR.B H hl isB1 A.1 | exact HR.R H hl hT.1 | exact HR.O H hl isB1 A.1 hp | exact HR.c H hl _ rfl) rfl rfl ?_
          refine q_icmplt (pc := 36) rfl (fun h36 => ?_) (fun h36 => ?_)
          · first
            | (exfalso; omega (config := {splitDisjunctions := false}))
            | skip
              refine q_aload (pc := 42) rfl rfl rfl ?_
              refine q_iload_n (pc := 44) rfl rfl ?_
              refine q_iload_n (pc := 45) rfl rfl ?_
              refine q_callV (pc := 46) _ rfl rfl rfl (by first | exact HR.X' H hl | exact HR.S2 H hl (isS_of hq) g2 | exact HR.S2 H hl (isS_of hq2) g5 | exact HR.S H hl (isS_of hq) | exact HR.B H hl isB1 A.1 | exact HR.R H hl hT.1 | exact HR.O H hl isB1 A.1 hp | exact HR.c H hl _ rfl) rfl (Nat.le_of_ble_eq_true rfl) (by omega) _ rfl ?_
              obtain ⟨j0, hj0, rfl⟩ := x_big (n := sz q) (by omega) h27 (by first | exact h36 | exact Int32.not_le.mpr h36)
              have z2 : Hd (rg (sz q) (nI j0) = j0) := rg_in hj0 (by omega)
              refine c_put H hl (isS_of hq) g2 k40 hj0 ?_
              intro h H
              rw [g1] at H
              refine q_iconst (pc := 49) rfl (nI 1) (by decide) ?_
              refine q_iret (pc := 50) rfl (rfl) ?_
              have e1 : o_cell σ sz (nI q) (nI j0) = 1 ∧ n_cell σ sz cl (nI q) (nI j0) z = (σ, sz, up1 cl q (upd (cl q) j0 (narS (σ q) z))) := by
                refine ⟨?_, ?_⟩
                · unfold o_cell
                  rw [zs.out, if_pos hq, if_neg gs, z2.out, if_pos hj0]
                · unfold n_cell
                  first
                  | rw [zs.out, if_pos hq, if_neg gs, z2.out, if_pos hj0]
                  | rw [zs.out, if_pos hq, if_neg gs, z2.out]
              rw [e1.1] at kk
              exact kk _ _ _ e1.2.symm H (A.sh (σ' := σ) (sz' := sz) (cl' := up1 cl q (upd (cl q) j0 (narS (σ q) z))) hq (sf.rf.st (by omega)) ((congrFun (stv_n (by omega)) _).trans g1) ((congrFun (stv_n (by omega)) _).trans g2) (fun i hi => by rw [up1_s, stv_s]; unfold upd; split; rfl; exact g3 i hi) (fun p hp => ⟨rfl, rfl, up1_n hp⟩)).1 K (A.sh (σ' := σ) (sz' := sz) (cl' := up1 cl q (upd (cl q) j0 (narS (σ q) z))) hq (sf.rf.st (by omega)) ((congrFun (stv_n (by omega)) _).trans g1) ((congrFun (stv_n (by omega)) _).trans g2) (fun i hi => by rw [up1_s, stv_s]; unfold upd; split; rfl; exact g3 i hi) (fun p hp => ⟨rfl, rfl, up1_n hp⟩)).2
          · first
            | (exfalso; omega (config := {splitDisjunctions := false}))
            | skip
              refine q_bipush (pc := 39) rfl (-12) (by decide) ?_
              refine q_iret (pc := 41) rfl (rfl) ?_
              have z2 : Hd (rg (sz q) y = sz q) := rg_out (by first | exact Or.inl h27 | exact Or.inr h36 | exact Or.inr (Int32.not_lt.mp h36))
              have e1 : o_cell σ sz (nI q) y = -12 ∧ n_cell σ sz cl (nI q) y z = (σ, sz, cl) := by
                refine ⟨?_, ?_⟩
                · unfold o_cell
                  rw [zs.out, if_pos hq, if_neg gs, z2.out, if_neg (by omega)]
                · unfold n_cell
                  first
                  | rw [zs.out, if_pos hq, if_neg gs, z2.out, if_neg (by omega)]
                  | rw [zs.out, if_pos hq, if_neg gs, z2.out]
              rw [e1.1] at kk
              exact kk _ _ _ e1.2.symm H A K sf.rf
    · rw [g1] at gs
      refine q_ifne (pc := 20) rfl (fun z => absurd z (by decide)) (fun _ => ?_)
      refine q_bipush (pc := 23) rfl (-11) (by decide) ?_
      refine q_iret (pc := 25) rfl (rfl) ?_
      have e1 : o_cell σ sz (nI q) y = -11 ∧ n_cell σ sz cl (nI q) y z = (σ, sz, cl) := by
        refine ⟨?_, ?_⟩
        · unfold o_cell
          rw [zs.out, if_pos hq, if_pos gs]
        · unfold n_cell
          first
          | rw [zs.out, if_pos hq, if_pos gs]
          | rw [zs.out, if_pos hq]
      rw [e1.1] at kk
      exact kk _ _ _ e1.2.symm H A K sf.rf
  · have zs : Hd (rg 4 x = 4) := rg_out gq
    refine q_astore (pc := 5) [_, _, _, _, _] rfl rfl (Nat.le_of_ble_eq_true rfl) rfl ?_
    refine q_aload (pc := 7) rfl rfl rfl ?_
    refine q_ifnonnullN (pc := 9) rfl ?_
    refine q_bipush (pc := 12) rfl (-2) (by decide) ?_
    refine q_iret (pc := 14) rfl (rfl) ?_
    have e1 : o_cell σ sz x y = -2 ∧ n_cell σ sz cl x y z = (σ, sz, cl) := by
      refine ⟨?_, ?_⟩
      · unfold o_cell
        rw [zs.out, if_neg (by omega)]
      · unfold n_cell
        first
        | rw [zs.out, if_neg (by omega)]
        | rw [zs.out]
    rw [e1.1] at kk
    exact kk _ _ _ e1.2.symm H A K sf.rf
end P33
