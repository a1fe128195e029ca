/-! ===== the class's calls: copy, crew, film, tour ===== -/
section P34
variable {d k pc a i j c p b t n m part q : Nat} {v : Int} {L L' : mx_L} {st r : List Value} {P : mx_Pm} {h : mx_H} {s : mx_St} {Q : Option Value → mx_H → Prop} {x y w z u : Int32} {β κ : Nat → Nat} {C : Nat → Nat → Int32} {E : Nat → Nat → Nat} {ik tz : Nat} {tp : Nat → Nat} {σ : Nat → Int32} {sz : Nat → Nat} {cl : Nat → Nat → Int32}
theorem cpl {a i n : Nat} (ha : a < 2 ^ 30) (hi : i < 2 ^ 31) (hn : n < 2 ^ 31) : nI a - nI i < nI n ↔ a < n + i := by
  by_cases h : i ≤ a
  · rw [x_sub h, nI_ltI (by omega) hn]
    omega
  · have h1 : nI a - nI i < 0 := by
      rw [Int32.lt_iff_toInt_lt, Int32.toInt_sub, nI_toInt (by omega), nI_toInt hi, Int.bmod_eq_of_le (by omega) (by omega), show (0 : Int32).toInt = 0 from by decide]
      omega
    exact ⟨fun _ => by omega, fun _ => Int32.lt_of_lt_of_le h1 (nI_pos' hn)⟩
abbrev cpk (y w u : Int32) (a b : Nat) : Prop := ¬ y < 0 ∧ ¬ w < 0 ∧ ¬ u < 0 ∧ u.toNatClampNeg + y.toNatClampNeg ≤ a ∧ u.toNatClampNeg + w.toNatClampNeg ≤ b
def o_copy (σ : Nat → Int32) (sz : Nat → Nat) (x y z w u : Int32) : Int32 := if rg 4 x < 4 ∧ rg 4 z < 4 then (if σ (rg 4 x) = -1 ∨ σ (rg 4 z) = -1 then -11 else if ¬ σ (rg 4 x) = σ (rg 4 z) then -13 else if cpk y w u (sz (rg 4 x)) (sz (rg 4 z)) then u else -12) else -2
def n_cpyS (σ : Nat → Int32) (sz : Nat → Nat) (cl : Nat → Nat → Int32) (x y z w u : Int32) : shT := if rg 4 x < 4 ∧ rg 4 z < 4 then (if σ (rg 4 x) = -1 ∨ σ (rg 4 z) = -1 then (σ, sz, cl) else if ¬ σ (rg 4 x) = σ (rg 4 z) then (σ, sz, cl) else if cpk y w u (sz (rg 4 x)) (sz (rg 4 z)) then (σ, sz, up1 cl (rg 4 z) (va_cpy (cl (rg 4 x)) (cl (rg 4 z)) y.toNatClampNeg w.toNatClampNeg u.toNatClampNeg)) else (σ, sz, cl)) else (σ, sz, cl)
theorem va_cpy_e {f g f' g' : Nat → Int32} {a b n m : Nat} (h1 : ∀ i, i < m → f i = f' i) (h2 : ∀ i, i < m → g i = g' i) (ha : a + n ≤ m) (hb : b + n ≤ m) : ∀ i, i < m → va_cpy f g a b n i = va_cpy f' g' a b n i := by
  intro i hi
  unfold va_cpy
  split
  · exact h1 _ (by omega)
  · exact h2 i hi
theorem c_copy (hd : 20 ≤ d) (H : HR P h s) (hl : 51 ≤ P.1) (A : CA P s β κ ik tp tz C E σ sz cl) (K : AOK P.2.1 β κ ik tp tz σ sz) (kk : ∀ h' s' T', T' = n_cpyS σ sz cl x y z w u → HR P h' s' → CA P s' β κ ik tp tz C E T'.1 T'.2.1 T'.2.2 → AOK P.2.1 β κ ik tp tz T'.1 T'.2.1 → sf s s' cS → Q (some (.int (o_copy σ sz x y z w u))) h') : wc d 121 [.ref 0, .int x, .int y, .int z, .int w, .int u] h Q := by
  have K4 := K.1.2.2.1
  have KK := K.1
  have hT := A.2.2.2.2.2.1
  have hSh := A.2.2.2.2.2.2
  have kSh := K.2.2.2.2.2.2.2
  refine wc.go [_, _, _, _, _, _, _, _] rfl ?_
  refine q_aload_n (pc := 0) rfl rfl rfl ?_
  refine q_iload_n (pc := 1) rfl rfl ?_
  refine q_callV (pc := 2) _ rfl rfl rfl (by first | exact HR.X' H hl | exact HR.S2 H hl (isS_of hq) g2 | exact HR.S2 H hl (isS_of hq2) g5 | exact HR.S H hl (isS_of hq) | exact HR.B H hl isB1 A.1 | exact HR.R H hl hT.1 | exact HR.O H hl isB1 A.1 hp | exact HR.c H hl _ rfl) rfl (Nat.le_of_ble_eq_true rfl) (by omega) _ rfl ?_
  refine c_sheetAt H hl (fun q hq hxq => ?_) (fun gq => ?_)
  · subst hxq
    have zs : Hd (rg 4 (nI q) = q) := rg_in hq (by decide)
    obtain ⟨g1, g2, g3⟩ := hSh q hq
    obtain ⟨k40, kσ⟩ := kSh q hq
    refine q_astore (pc := 5) [_, _, _, _, _, _, _, _] rfl rfl (Nat.le_of_ble_eq_true rfl) rfl ?_
    refine q_aload_n (pc := 7) rfl rfl rfl ?_
    refine q_iload_n (pc := 8) rfl rfl ?_
    refine q_callV (pc := 9) _ rfl rfl rfl (by first | exact HR.X' H hl | exact HR.S2 H hl (isS_of hq) g2 | exact HR.S2 H hl (isS_of hq2) g5 | exact HR.S H hl (isS_of hq) | exact HR.B H hl isB1 A.1 | exact HR.R H hl hT.1 | exact HR.O H hl isB1 A.1 hp | exact HR.c H hl _ rfl) rfl (Nat.le_of_ble_eq_true rfl) (by omega) _ rfl ?_
    refine c_sheetAt H hl (fun q2 hq2 hxq => ?_) (fun gq => ?_)
    · subst hxq
      have zt : Hd (rg 4 (nI q2) = q2) := rg_in hq2 (by decide)
      obtain ⟨g4, g5, g6⟩ := hSh q2 hq2
      obtain ⟨j40, jσ⟩ := kSh q2 hq2
      refine q_astore (pc := 12) [_, _, _, _, _, _, _, _] rfl rfl (Nat.le_of_ble_eq_true rfl) rfl ?_
      refine q_aload (pc := 14) rfl rfl rfl ?_
      refine q_ifnull (pc := 16) rfl ?_
      refine q_aload (pc := 19) rfl rfl rfl ?_
      refine q_ifnonnull (pc := 21) rfl ?_
      refine q_aload (pc := 27) rfl rfl rfl ?_
      refine q_callV (pc := 29) _ rfl rfl rfl (by first | exact HR.X' H hl | exact HR.S2 H hl (isS_of hq) g2 | exact HR.S2 H hl (isS_of hq2) g5 | exact HR.S H hl (isS_of hq) | exact HR.B H hl isB1 A.1 | exact HR.R H hl hT.1 | exact HR.O H hl isB1 A.1 hp | exact HR.c H hl _ rfl) rfl (Nat.le_of_ble_eq_true rfl) (by omega) _ rfl ?_
      refine c_isThere H hl (isS_of hq) (fun gs => ?_) (fun gs => ?_)
      · rw [g1] at gs
        refine q_ifeq (pc := 32) rfl (fun z => absurd z (by decide)) (fun _ => ?_)
        refine q_aload (pc := 35) rfl rfl rfl ?_
        refine q_callV (pc := 37) _ rfl rfl rfl (by first | exact HR.X' H hl | exact HR.S2 H hl (isS_of hq) g2 | exact HR.S2 H hl (isS_of hq2) g5 | exact HR.S H hl (isS_of hq) | exact HR.B H hl isB1 A.1 | exact HR.R H hl hT.1 | exact HR.O H hl isB1 A.1 hp | exact HR.c H hl _ rfl) rfl (Nat.le_of_ble_eq_true rfl) (by omega) _ rfl ?_
        refine c_isThere H hl (isS_of hq2) (fun gt => ?_) (fun gt => ?_)
        · rw [g4] at gt
          refine q_ifne (pc := 40) rfl (fun _ => ?_) (fun z => absurd z (by decide))
          refine q_aload (pc := 46) rfl rfl rfl ?_
          refine q_getf (pc := 48) rfl (by first | exact HR.X' H hl | exact HR.S2 H hl (isS_of hq) g2 | exact HR.S2 H hl (isS_of hq2) g5 | exact HR.S H hl (isS_of hq) | exact HR.B H hl isB1 A.1 | exact HR.R H hl hT.1 | exact HR.O H hl isB1 A.1 hp | exact HR.c H hl _ rfl) rfl rfl ?_
          rw [g1]
          refine q_aload (pc := 51) rfl rfl rfl ?_
          refine q_getf (pc := 53) rfl (by first | exact HR.X' H hl | exact HR.S2 H hl (isS_of hq) g2 | exact HR.S2 H hl (isS_of hq2) g5 | exact HR.S H hl (isS_of hq) | exact HR.B H hl isB1 A.1 | exact HR.R H hl hT.1 | exact HR.O H hl isB1 A.1 hp | exact HR.c H hl _ rfl) rfl rfl ?_
          rw [g4]
          refine q_icmpeq (pc := 56) rfl (fun h56 => ?_) (fun h56 => ?_)
          · 
            first
            | (exfalso; omega (config := {splitDisjunctions := false}))
            | exact absurd rfl h56
            | skip
              refine q_iload_n (pc := 62) rfl rfl ?_
              refine q_iflt (pc := 63) rfl (fun h63 => ?_) (fun h63 => ?_)
              · first
                | (exfalso; omega (config := {splitDisjunctions := false}))
                | skip
                  refine q_bipush (pc := 101) rfl (-12) (by decide) ?_
                  refine q_iret (pc := 103) rfl (rfl) ?_
                  first
                  | (have e1 : o_copy σ sz (nI q) y (nI q2) w u = -12 ∧ n_cpyS σ sz cl (nI q) y (nI q2) w u = (σ, sz, cl) := by
                       refine ⟨?_, ?_⟩
                       · unfold o_copy
                         first | rw [zs.out, zt.out, if_pos (show q < 4 ∧ q2 < 4 from ⟨hq, hq2⟩), if_neg (fun e => e.elim gs gt), if_neg (fun e => e h56), if_neg (fun e => e.1 h63)] | rw [zs.out, zt.out, if_pos (show q < 4 ∧ q2 < 4 from ⟨hq, hq2⟩), if_neg (fun e => e.elim gs gt), if_neg (fun e => e h56)]
                       · unfold n_cpyS
                         first | rw [zs.out, zt.out, if_pos (show q < 4 ∧ q2 < 4 from ⟨hq, hq2⟩), if_neg (fun e => e.elim gs gt), if_neg (fun e => e h56), if_neg (fun e => e.1 h63)] | rw [zs.out, zt.out, if_pos (show q < 4 ∧ q2 < 4 from ⟨hq, hq2⟩), if_neg (fun e => e.elim gs gt), if_neg (fun e => e h56)]
                     rw [e1.1] at kk
                     exact kk _ _ _ e1.2.symm H A K sf.rf)
                  | (have e1 : o_copy σ sz (nI q) (nI i0) (nI q2) w u = -12 ∧ n_cpyS σ sz cl (nI q) (nI i0) (nI q2) w u = (σ, sz, cl) := by
                       refine ⟨?_, ?_⟩
                       · unfold o_copy
                         first | rw [zs.out, zt.out, if_pos (show q < 4 ∧ q2 < 4 from ⟨hq, hq2⟩), if_neg (fun e => e.elim gs gt), if_neg (fun e => e h56), if_neg (fun e => e.2.1 h68)] | rw [zs.out, zt.out, if_pos (show q < 4 ∧ q2 < 4 from ⟨hq, hq2⟩), if_neg (fun e => e.elim gs gt), if_neg (fun e => e h56)]
                       · unfold n_cpyS
                         first | rw [zs.out, zt.out, if_pos (show q < 4 ∧ q2 < 4 from ⟨hq, hq2⟩), if_neg (fun e => e.elim gs gt), if_neg (fun e => e h56), if_neg (fun e => e.2.1 h68)] | rw [zs.out, zt.out, if_pos (show q < 4 ∧ q2 < 4 from ⟨hq, hq2⟩), if_neg (fun e => e.elim gs gt), if_neg (fun e => e h56)]
                     rw [e1.1] at kk
                     exact kk _ _ _ e1.2.symm H A K sf.rf)
                  | (have e1 : o_copy σ sz (nI q) (nI i0) (nI q2) (nI j0) u = -12 ∧ n_cpyS σ sz cl (nI q) (nI i0) (nI q2) (nI j0) u = (σ, sz, cl) := by
                       refine ⟨?_, ?_⟩
                       · unfold o_copy
                         first | rw [zs.out, zt.out, if_pos (show q < 4 ∧ q2 < 4 from ⟨hq, hq2⟩), if_neg (fun e => e.elim gs gt), if_neg (fun e => e h56), if_neg (fun e => e.2.2.1 h73)] | rw [zs.out, zt.out, if_pos (show q < 4 ∧ q2 < 4 from ⟨hq, hq2⟩), if_neg (fun e => e.elim gs gt), if_neg (fun e => e h56)]
                       · unfold n_cpyS
                         first | rw [zs.out, zt.out, if_pos (show q < 4 ∧ q2 < 4 from ⟨hq, hq2⟩), if_neg (fun e => e.elim gs gt), if_neg (fun e => e h56), if_neg (fun e => e.2.2.1 h73)] | rw [zs.out, zt.out, if_pos (show q < 4 ∧ q2 < 4 from ⟨hq, hq2⟩), if_neg (fun e => e.elim gs gt), if_neg (fun e => e h56)]
                     rw [e1.1] at kk
                     exact kk _ _ _ e1.2.symm H A K sf.rf)
                  | (have e1 : o_copy σ sz (nI q) (nI i0) (nI q2) (nI j0) (nI n0) = -12 ∧ n_cpyS σ sz cl (nI q) (nI i0) (nI q2) (nI j0) (nI n0) = (σ, sz, cl) := by
                       refine ⟨?_, ?_⟩
                       · unfold o_copy
                         first | rw [zs.out, zt.out, if_pos (show q < 4 ∧ q2 < 4 from ⟨hq, hq2⟩), if_neg (fun e => e.elim gs gt), if_neg (fun e => e h56), if_neg (fun e => by have e' := e; unfold cpk at e'; rw [x_cl hi0, x_cl hj0, x_cl hn0] at e'; omega)] | rw [zs.out, zt.out, if_pos (show q < 4 ∧ q2 < 4 from ⟨hq, hq2⟩), if_neg (fun e => e.elim gs gt), if_neg (fun e => e h56)]
                       · unfold n_cpyS
                         first | rw [zs.out, zt.out, if_pos (show q < 4 ∧ q2 < 4 from ⟨hq, hq2⟩), if_neg (fun e => e.elim gs gt), if_neg (fun e => e h56), if_neg (fun e => by have e' := e; unfold cpk at e'; rw [x_cl hi0, x_cl hj0, x_cl hn0] at e'; omega)] | rw [zs.out, zt.out, if_pos (show q < 4 ∧ q2 < 4 from ⟨hq, hq2⟩), if_neg (fun e => e.elim gs gt), if_neg (fun e => e h56)]
                     rw [e1.1] at kk
                     exact kk _ _ _ e1.2.symm H A K sf.rf)
              · obtain ⟨i0, hi0, rfl⟩ := x_of h63
                first
                | (exfalso; omega (config := {splitDisjunctions := false}))
                | skip
                  refine q_iload (pc := 66) rfl rfl ?_
                  refine q_iflt (pc := 68) rfl (fun h68 => ?_) (fun h68 => ?_)
                  · first
                    | (exfalso; omega (config := {splitDisjunctions := false}))
                    | skip
                      refine q_bipush (pc := 101) rfl (-12) (by decide) ?_
                      refine q_iret (pc := 103) rfl (rfl) ?_
                      first
                      | (have e1 : o_copy σ sz (nI q) y (nI q2) w u = -12 ∧ n_cpyS σ sz cl (nI q) y (nI q2) w u = (σ, sz, cl) := by
                           refine ⟨?_, ?_⟩
                           · unfold o_copy
                             first | rw [zs.out, zt.out, if_pos (show q < 4 ∧ q2 < 4 from ⟨hq, hq2⟩), if_neg (fun e => e.elim gs gt), if_neg (fun e => e h56), if_neg (fun e => e.1 h63)] | rw [zs.out, zt.out, if_pos (show q < 4 ∧ q2 < 4 from ⟨hq, hq2⟩), if_neg (fun e => e.elim gs gt), if_neg (fun e => e h56)]
                           · unfold n_cpyS
                             first | rw [zs.out, zt.out, if_pos (show q < 4 ∧ q2 < 4 from ⟨hq, hq2⟩), if_neg (fun e => e.elim gs gt), if_neg (fun e => e h56), if_neg (fun e => e.1 h63)] | rw [zs.out, zt.out, if_pos (show q < 4 ∧ q2 < 4 from ⟨hq, hq2⟩), if_neg (fun e => e.elim gs gt), if_neg (fun e => e h56)]
                         rw [e1.1] at kk
                         exact kk _ _ _ e1.2.symm H A K sf.rf)
                      | (have e1 : o_copy σ sz (nI q) (nI i0) (nI q2) w u = -12 ∧ n_cpyS σ sz cl (nI q) (nI i0) (nI q2) w u = (σ, sz, cl) := by
                           refine ⟨?_, ?_⟩
                           · unfold o_copy
                             first | rw [zs.out, zt.out, if_pos (show q < 4 ∧ q2 < 4 from ⟨hq, hq2⟩), if_neg (fun e => e.elim gs gt), if_neg (fun e => e h56), if_neg (fun e => e.2.1 h68)] | rw [zs.out, zt.out, if_pos (show q < 4 ∧ q2 < 4 from ⟨hq, hq2⟩), if_neg (fun e => e.elim gs gt), if_neg (fun e => e h56)]
                           · unfold n_cpyS
                             first | rw [zs.out, zt.out, if_pos (show q < 4 ∧ q2 < 4 from ⟨hq, hq2⟩), if_neg (fun e => e.elim gs gt), if_neg (fun e => e h56), if_neg (fun e => e.2.1 h68)] | rw [zs.out, zt.out, if_pos (show q < 4 ∧ q2 < 4 from ⟨hq, hq2⟩), if_neg (fun e => e.elim gs gt), if_neg (fun e => e h56)]
                         rw [e1.1] at kk
                         exact kk _ _ _ e1.2.symm H A K sf.rf)
                      | (have e1 : o_copy σ sz (nI q) (nI i0) (nI q2) (nI j0) u = -12 ∧ n_cpyS σ sz cl (nI q) (nI i0) (nI q2) (nI j0) u = (σ, sz, cl) := by
                           refine ⟨?_, ?_⟩
                           · unfold o_copy
                             first | rw [zs.out, zt.out, if_pos (show q < 4 ∧ q2 < 4 from ⟨hq, hq2⟩), if_neg (fun e => e.elim gs gt), if_neg (fun e => e h56), if_neg (fun e => e.2.2.1 h73)] | rw [zs.out, zt.out, if_pos (show q < 4 ∧ q2 < 4 from ⟨hq, hq2⟩), if_neg (fun e => e.elim gs gt), if_neg (fun e => e h56)]
                           · unfold n_cpyS
                             first | rw [zs.out, zt.out, if_pos (show q < 4 ∧ q2 < 4 from ⟨hq, hq2⟩), if_neg (fun e => e.elim gs gt), if_neg (fun e => e h56), if_neg (fun e => e.2.2.1 h73)] | rw [zs.out, zt.out, if_pos (show q < 4 ∧ q2 < 4 from ⟨hq, hq2⟩), if_neg (fun e => e.elim gs gt), if_neg (fun e => e h56)]
                         rw [e1.1] at kk
                         exact kk _ _ _ e1.2.symm H A K sf.rf)
                      | (have e1 : o_copy σ sz (nI q) (nI i0) (nI q2) (nI j0) (nI n0) = -12 ∧ n_cpyS σ sz cl (nI q) (nI i0) (nI q2) (nI j0) (nI n0) = (σ, sz, cl) := by
                           refine ⟨?_, ?_⟩
                           · unfold o_copy
                             first | rw [zs.out, zt.out, if_pos (show q < 4 ∧ q2 < 4 from ⟨hq, hq2⟩), if_neg (fun e => e.elim gs gt), if_neg (fun e => e h56), if_neg (fun e => by have e' := e; unfold cpk at e'; rw [x_cl hi0, x_cl hj0, x_cl hn0] at e'; omega)] | rw [zs.out, zt.out, if_pos (show q < 4 ∧ q2 < 4 from ⟨hq, hq2⟩), if_neg (fun e => e.elim gs gt), if_neg (fun e => e h56)]
                           · unfold n_cpyS
                             first | rw [zs.out, zt.out, if_pos (show q < 4 ∧ q2 < 4 from ⟨hq, hq2⟩), if_neg (fun e => e.elim gs gt), if_neg (fun e => e h56), if_neg (fun e => by have e' := e; unfold cpk at e'; rw [x_cl hi0, x_cl hj0, x_cl hn0] at e'; omega)] | rw [zs.out, zt.out, if_pos (show q < 4 ∧ q2 < 4 from ⟨hq, hq2⟩), if_neg (fun e => e.elim gs gt), if_neg (fun e => e h56)]
                         rw [e1.1] at kk
                         exact kk _ _ _ e1.2.symm H A K sf.rf)
                  · obtain ⟨j0, hj0, rfl⟩ := x_of h68
                    first
                    | (exfalso; omega (config := {splitDisjunctions := false}))
                    | skip
                      refine q_iload (pc := 71) rfl rfl ?_
                      refine q_iflt (pc := 73) rfl (fun h73 => ?_) (fun h73 => ?_)
                      · first
                        | (exfalso; omega (config := {splitDisjunctions := false}))
                        | skip
                          refine q_bipush (pc := 101) rfl (-12) (by decide) ?_
                          refine q_iret (pc := 103) rfl (rfl) ?_
                          first
                          | (have e1 : o_copy σ sz (nI q) y (nI q2) w u = -12 ∧ n_cpyS σ sz cl (nI q) y (nI q2) w u = (σ, sz, cl) := by
                               refine ⟨?_, ?_⟩
                               · unfold o_copy
                                 first | rw [zs.out, zt.out, if_pos (show q < 4 ∧ q2 < 4 from ⟨hq, hq2⟩), if_neg (fun e => e.elim gs gt), if_neg (fun e => e h56), if_neg (fun e => e.1 h63)] | rw [zs.out, zt.out, if_pos (show q < 4 ∧ q2 < 4 from ⟨hq, hq2⟩), if_neg (fun e => e.elim gs gt), if_neg (fun e => e h56)]
                               · unfold n_cpyS
                                 first | rw [zs.out, zt.out, if_pos (show q < 4 ∧ q2 < 4 from ⟨hq, hq2⟩), if_neg (fun e => e.elim gs gt), if_neg (fun e => e h56), if_neg (fun e => e.1 h63)] | rw [zs.out, zt.out, if_pos (show q < 4 ∧ q2 < 4 from ⟨hq, hq2⟩), if_neg (fun e => e.elim gs gt), if_neg (fun e => e h56)]
                             rw [e1.1] at kk
                             exact kk _ _ _ e1.2.symm H A K sf.rf)
                          | (have e1 : o_copy σ sz (nI q) (nI i0) (nI q2) w u = -12 ∧ n_cpyS σ sz cl (nI q) (nI i0) (nI q2) w u = (σ, sz, cl) := by
                               refine ⟨?_, ?_⟩
                               · unfold o_copy
                                 first | rw [zs.out, zt.out, if_pos (show q < 4 ∧ q2 < 4 from ⟨hq, hq2⟩), if_neg (fun e => e.elim gs gt), if_neg (fun e => e h56), if_neg (fun e => e.2.1 h68)] | rw [zs.out, zt.out, if_pos (show q < 4 ∧ q2 < 4 from ⟨hq, hq2⟩), if_neg (fun e => e.elim gs gt), if_neg (fun e => e h56)]
                               · unfold n_cpyS
                                 first | rw [zs.out, zt.out, if_pos (show q < 4 ∧ q2 < 4 from ⟨hq, hq2⟩), if_neg (fun e => e.elim gs gt), if_neg (fun e => e h56), if_neg (fun e => e.2.1 h68)] | rw [zs.out, zt.out, if_pos (show q < 4 ∧ q2 < 4 from ⟨hq, hq2⟩), if_neg (fun e => e.elim gs gt), if_neg (fun e => e h56)]
                             rw [e1.1] at kk
                             exact kk _ _ _ e1.2.symm H A K sf.rf)
                          | (have e1 : o_copy σ sz (nI q) (nI i0) (nI q2) (nI j0) u = -12 ∧ n_cpyS σ sz cl (nI q) (nI i0) (nI q2) (nI j0) u = (σ, sz, cl) := by
                               refine ⟨?_, ?_⟩
                               · unfold o_copy
                                 first | rw [zs.out, zt.out, if_pos (show q < 4 ∧ q2 < 4 from ⟨hq, hq2⟩), if_neg (fun e => e.elim gs gt), if_neg (fun e => e h56), if_neg (fun e => e.2.2.1 h73)] | rw [zs.out, zt.out, if_pos (show q < 4 ∧ q2 < 4 from ⟨hq, hq2⟩), if_neg (fun e => e.elim gs gt), if_neg (fun e => e h56)]
                               · unfold n_cpyS
                                 first | rw [zs.out, zt.out, if_pos (show q < 4 ∧ q2 < 4 from ⟨hq, hq2⟩), if_neg (fun e => e.elim gs gt), if_neg (fun e => e h56), if_neg (fun e => e.2.2.1 h73)] | rw [zs.out, zt.out, if_pos (show q < 4 ∧ q2 < 4 from ⟨hq, hq2⟩), if_neg (fun e => e.elim gs gt), if_neg (fun e => e h56)]
                             rw [e1.1] at kk
                             exact kk _ _ _ e1.2.symm H A K sf.rf)
                          | (have e1 : o_copy σ sz (nI q) (nI i0) (nI q2) (nI j0) (nI n0) = -12 ∧ n_cpyS σ sz cl (nI q) (nI i0) (nI q2) (nI j0) (nI n0) = (σ, sz, cl) := by
                               refine ⟨?_, ?_⟩
                               · unfold o_copy
                                 first | rw [zs.out, zt.out, if_pos (show q < 4 ∧ q2 < 4 from ⟨hq, hq2⟩), if_neg (fun e => e.elim gs gt), if_neg (fun e => e h56), if_neg (fun e => by have e' := e; unfold cpk at e'; rw [x_cl hi0, x_cl hj0, x_cl hn0] at e'; omega)] | rw [zs.out, zt.out, if_pos (show q < 4 ∧ q2 < 4 from ⟨hq, hq2⟩), if_neg (fun e => e.elim gs gt), if_neg (fun e => e h56)]
                               · unfold n_cpyS
                                 first | rw [zs.out, zt.out, if_pos (show q < 4 ∧ q2 < 4 from ⟨hq, hq2⟩), if_neg (fun e => e.elim gs gt), if_neg (fun e => e h56), if_neg (fun e => by have e' := e; unfold cpk at e'; rw [x_cl hi0, x_cl hj0, x_cl hn0] at e'; omega)] | rw [zs.out, zt.out, if_pos (show q < 4 ∧ q2 < 4 from ⟨hq, hq2⟩), if_neg (fun e => e.elim gs gt), if_neg (fun e => e h56)]
                             rw [e1.1] at kk
                             exact kk _ _ _ e1.2.symm H A K sf.rf)
                      · obtain ⟨n0, hn0, rfl⟩ := x_of h73
                        first
                        | (exfalso; omega (config := {splitDisjunctions := false}))
                        | skip
                          refine q_iload (pc := 76) rfl rfl ?_
                          refine q_aload (pc := 78) rfl rfl rfl ?_
                          refine q_getf (pc := 80) rfl (by first | exact HR.X' H hl | exact HR.S2 H hl (isS_of hq) g2 | exact HR.S2 H hl (isS_of hq2) g5 | exact HR.S H hl (isS_of hq) | exact HR.B H hl isB1 A.1 | exact HR.R H hl hT.1 | exact HR.O H hl isB1 A.1 hp | exact HR.c H hl _ rfl) rfl rfl ?_
                          refine q_iload_n (pc := 83) rfl rfl ?_
                          first | refine n_isub (pc := 84) rfl (by omega) ?_ | refine q_isub (pc := 84) rfl ?_
                          refine q_icmpgt (pc := 85) rfl (fun h85 => ?_) (fun h85 => ?_)
                          · have h85 : sz q < n0 + i0 := (cpl (by omega) hi0 hn0).mp h85
                            first
                            | (exfalso; omega (config := {splitDisjunctions := false}))
                            | skip
                              refine q_bipush (pc := 101) rfl (-12) (by decide) ?_
                              refine q_iret (pc := 103) rfl (rfl) ?_
                              first
                              | (have e1 : o_copy σ sz (nI q) y (nI q2) w u = -12 ∧ n_cpyS σ sz cl (nI q) y (nI q2) w u = (σ, sz, cl) := by
                                   refine ⟨?_, ?_⟩
                                   · unfold o_copy
                                     first | rw [zs.out, zt.out, if_pos (show q < 4 ∧ q2 < 4 from ⟨hq, hq2⟩), if_neg (fun e => e.elim gs gt), if_neg (fun e => e h56), if_neg (fun e => e.1 h63)] | rw [zs.out, zt.out, if_pos (show q < 4 ∧ q2 < 4 from ⟨hq, hq2⟩), if_neg (fun e => e.elim gs gt), if_neg (fun e => e h56)]
                                   · unfold n_cpyS
                                     first | rw [zs.out, zt.out, if_pos (show q < 4 ∧ q2 < 4 from ⟨hq, hq2⟩), if_neg (fun e => e.elim gs gt), if_neg (fun e => e h56), if_neg (fun e => e.1 h63)] | rw [zs.out, zt.out, if_pos (show q < 4 ∧ q2 < 4 from ⟨hq, hq2⟩), if_neg (fun e => e.elim gs gt), if_neg (fun e => e h56)]
                                 rw [e1.1] at kk
                                 exact kk _ _ _ e1.2.symm H A K sf.rf)
                              | (have e1 : o_copy σ sz (nI q) (nI i0) (nI q2) w u = -12 ∧ n_cpyS σ sz cl (nI q) (nI i0) (nI q2) w u = (σ, sz, cl) := by
                                   refine ⟨?_, ?_⟩
                                   · unfold o_copy
                                     first | rw [zs.out, zt.out, if_pos (show q < 4 ∧ q2 < 4 from ⟨hq, hq2⟩), if_neg (fun e => e.elim gs gt), if_neg (fun e => e h56), if_neg (fun e => e.2.1 h68)] | rw [zs.out, zt.out, if_pos (show q < 4 ∧ q2 < 4 from ⟨hq, hq2⟩), if_neg (fun e => e.elim gs gt), if_neg (fun e => e h56)]
                                   · unfold n_cpyS
                                     first | rw [zs.out, zt.out, if_pos (show q < 4 ∧ q2 < 4 from ⟨hq, hq2⟩), if_neg (fun e => e.elim gs gt), if_neg (fun e => e h56), if_neg (fun e => e.2.1 h68)] | rw [zs.out, zt.out, if_pos (show q < 4 ∧ q2 < 4 from ⟨hq, hq2⟩), if_neg (fun e => e.elim gs gt), if_neg (fun e => e h56)]
                                 rw [e1.1] at kk
                                 exact kk _ _ _ e1.2.symm H A K sf.rf)
                              | (have e1 : o_copy σ sz (nI q) (nI i0) (nI q2) (nI j0) u = -12 ∧ n_cpyS σ sz cl (nI q) (nI i0) (nI q2) (nI j0) u = (σ, sz, cl) := by
                                   refine ⟨?_, ?_⟩
                                   · unfold o_copy
                                     first | rw [zs.out, zt.out, if_pos (show q < 4 ∧ q2 < 4 from ⟨hq, hq2⟩), if_neg (fun e => e.elim gs gt), if_neg (fun e => e h56), if_neg (fun e => e.2.2.1 h73)] | rw [zs.out, zt.out, if_pos (show q < 4 ∧ q2 < 4 from ⟨hq, hq2⟩), if_neg (fun e => e.elim gs gt), if_neg (fun e => e h56)]
                                   · unfold n_cpyS
                                     first | rw [zs.out, zt.out, if_pos (show q < 4 ∧ q2 < 4 from ⟨hq, hq2⟩), if_neg (fun e => e.elim gs gt), if_neg (fun e => e h56), if_neg (fun e => e.2.2.1 h73)] | rw [zs.out, zt.out, if_pos (show q < 4 ∧ q2 < 4 from ⟨hq, hq2⟩), if_neg (fun e => e.elim gs gt), if_neg (fun e => e h56)]
                                 rw [e1.1] at kk
                                 exact kk _ _ _ e1.2.symm H A K sf.rf)
                              | (have e1 : o_copy σ sz (nI q) (nI i0) (nI q2) (nI j0) (nI n0) = -12 ∧ n_cpyS σ sz cl (nI q) (nI i0) (nI q2) (nI j0) (nI n0) = (σ, sz, cl) := by
                                   refine ⟨?_, ?_⟩
                                   · unfold o_copy
                                     first | rw [zs.out, zt.out, if_pos (show q < 4 ∧ q2 < 4 from ⟨hq, hq2⟩), if_neg (fun e => e.elim gs gt), if_neg (fun e => e h56), if_neg (fun e => by have e' := e; unfold cpk at e'; rw [x_cl hi0, x_cl hj0, x_cl hn0] at e'; omega)] | rw [zs.out, zt.out, if_pos (show q < 4 ∧ q2 < 4 from ⟨hq, hq2⟩), if_neg (fun e => e.elim gs gt), if_neg (fun e => e h56)]
                                   · unfold n_cpyS
                                     first | rw [zs.out, zt.out, if_pos (show q < 4 ∧ q2 < 4 from ⟨hq, hq2⟩), if_neg (fun e => e.elim gs gt), if_neg (fun e => e h56), if_neg (fun e => by have e' := e; unfold cpk at e'; rw [x_cl hi0, x_cl hj0, x_cl hn0] at e'; omega)] | rw [zs.out, zt.out, if_pos (show q < 4 ∧ q2 < 4 from ⟨hq, hq2⟩), if_neg (fun e => e.elim gs gt), if_neg (fun e => e h56)]
                                 rw [e1.1] at kk
                                 exact kk _ _ _ e1.2.symm H A K sf.rf)
                          · have h85 : ¬ sz q < n0 + i0 := (fun z => h85 ((cpl (by omega) hi0 hn0).mpr z))
                            first
                            | (exfalso; omega (config := {splitDisjunctions := false}))
                            | skip
                              refine q_iload (pc := 88) rfl rfl ?_
                              refine q_aload (pc := 90) rfl rfl rfl ?_
                              refine q_getf (pc := 92) rfl (by first | exact HR.X' H hl | exact HR.S2 H hl (isS_of hq) g2 | exact HR.S2 H hl (isS_of hq2) g5 | exact HR.S H hl (isS_of hq) | exact HR.B H hl isB1 A.1 | exact HR.R H hl hT.1 | exact HR.O H hl isB1 A.1 hp | exact HR.c H hl _ rfl) rfl rfl ?_
                              refine q_iload (pc := 95) rfl rfl ?_
                              first | refine n_isub (pc := 97) rfl (by omega) ?_ | refine q_isub (pc := 97) rfl ?_
                              refine q_icmple (pc := 98) rfl (fun h98 => ?_) (fun h98 => ?_)
                              · have h98 : ¬ sz q2 < n0 + j0 := (fun z => (Int32.not_lt.mpr h98) ((cpl (by omega) hj0 hn0).mpr z))
                                first
                                | (exfalso; omega (config := {splitDisjunctions := false}))
                                | skip
                                  refine q_aload (pc := 104) rfl rfl rfl ?_
                                  refine q_getf (pc := 106) rfl (by first | exact HR.X' H hl | exact HR.S2 H hl (isS_of hq) g2 | exact HR.S2 H hl (isS_of hq2) g5 | exact HR.S H hl (isS_of hq) | exact HR.B H hl isB1 A.1 | exact HR.R H hl hT.1 | exact HR.O H hl isB1 A.1 hp | exact HR.c H hl _ rfl) rfl rfl ?_
                                  refine q_iload_n (pc := 109) rfl rfl ?_
                                  refine q_aload (pc := 110) rfl rfl rfl ?_
                                  refine q_getf (pc := 112) rfl (by first | exact HR.X' H hl | exact HR.S2 H hl (isS_of hq) g2 | exact HR.S2 H hl (isS_of hq2) g5 | exact HR.S H hl (isS_of hq) | exact HR.B H hl isB1 A.1 | exact HR.R H hl hT.1 | exact HR.O H hl isB1 A.1 hp | exact HR.c H hl _ rfl) rfl rfl ?_
                                  refine q_iload (pc := 115) rfl rfl ?_
                                  refine q_iload (pc := 117) rfl rfl ?_
                                  refine n_copy (pc := 119) rfl H hl (okS1 (isS_of hq)) (okS1 (isS_of hq2)) (ecS1 (isS_of hq) _) (ecS1 (isS_of hq2)) rfl (by omega) (by omega) ?_
                                  intro h H
                                  refine q_iload (pc := 122) rfl rfl ?_
                                  refine q_iret (pc := 124) rfl (rfl) ?_
                                  have kc : cpk (nI i0) (nI j0) (nI n0) (sz q) (sz q2) := ⟨nI_pos hi0, nI_pos hj0, nI_pos hn0, by rw [x_cl hi0, x_cl hn0]; omega, by rw [x_cl hj0, x_cl hn0]; omega⟩
                                  have e1 : o_copy σ sz (nI q) (nI i0) (nI q2) (nI j0) (nI n0) = nI n0 ∧ n_cpyS σ sz cl (nI q) (nI i0) (nI q2) (nI j0) (nI n0) = (σ, sz, up1 cl q2 (va_cpy (cl q) (cl q2) i0 j0 n0)) := by
                                    refine ⟨?_, ?_⟩
                                    · unfold o_copy
                                      first | rw [zs.out, zt.out, if_pos (show q < 4 ∧ q2 < 4 from ⟨hq, hq2⟩), if_neg (fun e => e.elim gs gt), if_neg (fun e => e h56), if_pos kc, x_cl hi0, x_cl hj0, x_cl hn0] | rw [zs.out, zt.out, if_pos (show q < 4 ∧ q2 < 4 from ⟨hq, hq2⟩), if_neg (fun e => e.elim gs gt), if_neg (fun e => e h56), if_pos kc] | rw [zs.out, zt.out, if_pos (show q < 4 ∧ q2 < 4 from ⟨hq, hq2⟩), if_neg (fun e => e.elim gs gt), if_neg (fun e => e h56)]
                                    · unfold n_cpyS
                                      first | rw [zs.out, zt.out, if_pos (show q < 4 ∧ q2 < 4 from ⟨hq, hq2⟩), if_neg (fun e => e.elim gs gt), if_neg (fun e => e h56), if_pos kc, x_cl hi0, x_cl hj0, x_cl hn0] | rw [zs.out, zt.out, if_pos (show q < 4 ∧ q2 < 4 from ⟨hq, hq2⟩), if_neg (fun e => e.elim gs gt), if_neg (fun e => e h56), if_pos kc] | rw [zs.out, zt.out, if_pos (show q < 4 ∧ q2 < 4 from ⟨hq, hq2⟩), if_neg (fun e => e.elim gs gt), if_neg (fun e => e h56)]
                                  rw [e1.1] at kk
                                  exact kk _ _ _ e1.2.symm H (A.sh (σ' := σ) (sz' := sz) (cl' := up1 cl q2 (va_cpy (cl q) (cl q2) i0 j0 n0)) hq2 (fun i hi => stF_n _ _ (fun e => hi (by omega))) ((congrFun (stF_n _ _ (by omega)) _).trans g4) ((congrFun (stF_n _ _ (by omega)) _).trans g5) (fun i hi => by rw [up1_s, stF_s]; exact va_cpy_e g3 g6 (by omega) (by omega) i hi) (fun p hp => ⟨rfl, rfl, up1_n hp⟩)).1 K (A.sh (σ' := σ) (sz' := sz) (cl' := up1 cl q2 (va_cpy (cl q) (cl q2) i0 j0 n0)) hq2 (fun i hi => stF_n _ _ (fun e => hi (by omega))) ((congrFun (stF_n _ _ (by omega)) _).trans g4) ((congrFun (stF_n _ _ (by omega)) _).trans g5) (fun i hi => by rw [up1_s, stF_s]; exact va_cpy_e g3 g6 (by omega) (by omega) i hi) (fun p hp => ⟨rfl, rfl, up1_n hp⟩)).2
                              · have h98 : sz q2 < n0 + j0 := (cpl (by omega) hj0 hn0).mp (Int32.not_le.mp h98)
                                first
                                | (exfalso; omega (config := {splitDisjunctions := false}))
                                | skip
                                  refine q_bipush (pc := 101) rfl (-12) (by decide) ?_
                                  refine q_iret (pc := 103) rfl (rfl) ?_
                                  first
                                  | (have e1 : o_copy σ sz (nI q) y (nI q2) w u = -12 ∧ n_cpyS σ sz cl (nI q) y (nI q2) w u = (σ, sz, cl) := by
                                       refine ⟨?_, ?_⟩
                                       · unfold o_copy
                                         first | rw [zs.out, zt.out, if_pos (show q < 4 ∧ q2 < 4 from ⟨hq, hq2⟩), if_neg (fun e => e.elim gs gt), if_neg (fun e => e h56), if_neg (fun e => e.1 h63)] | rw [zs.out, zt.out, if_pos (show q < 4 ∧ q2 < 4 from ⟨hq, hq2⟩), if_neg (fun e => e.elim gs gt), if_neg (fun e => e h56)]
                                       · unfold n_cpyS
                                         first | rw [zs.out, zt.out, if_pos (show q < 4 ∧ q2 < 4 from ⟨hq, hq2⟩), if_neg (fun e => e.elim gs gt), if_neg (fun e => e h56), if_neg (fun e => e.1 h63)] | rw [zs.out, zt.out, if_pos (show q < 4 ∧ q2 < 4 from ⟨hq, hq2⟩), if_neg (fun e => e.elim gs gt), if_neg (fun e => e h56)]
                                     rw [e1.1] at kk
                                     exact kk _ _ _ e1.2.symm H A K sf.rf)
                                  | (have e1 : o_copy σ sz (nI q) (nI i0) (nI q2) w u = -12 ∧ n_cpyS σ sz cl (nI q) (nI i0) (nI q2) w u = (σ, sz, cl) := by
                                       refine ⟨?_, ?_⟩
                                       · unfold o_copy
                                         first | rw [zs.out, zt.out, if_pos (show q < 4 ∧ q2 < 4 from ⟨hq, hq2⟩), if_neg (fun e => e.elim gs gt), if_neg (fun e => e h56), if_neg (fun e => e.2.1 h68)] | rw [zs.out, zt.out, if_pos (show q < 4 ∧ q2 < 4 from ⟨hq, hq2⟩), if_neg (fun e => e.elim gs gt), if_neg (fun e => e h56)]
                                       · unfold n_cpyS
                                         first | rw [zs.out, zt.out, if_pos (show q < 4 ∧ q2 < 4 from ⟨hq, hq2⟩), if_neg (fun e => e.elim gs gt), if_neg (fun e => e h56), if_neg (fun e => e.2.1 h68)] | rw [zs.out, zt.out, if_pos (show q < 4 ∧ q2 < 4 from ⟨hq, hq2⟩), if_neg (fun e => e.elim gs gt), if_neg (fun e => e h56)]
                                     rw [e1.1] at kk
                                     exact kk _ _ _ e1.2.symm H A K sf.rf)
                                  | (have e1 : o_copy σ sz (nI q) (nI i0) (nI q2) (nI j0) u = -12 ∧ n_cpyS σ sz cl (nI q) (nI i0) (nI q2) (nI j0) u = (σ, sz, cl) := by
                                       refine ⟨?_, ?_⟩
                                       · unfold o_copy
                                         first | rw [zs.out, zt.out, if_pos (show q < 4 ∧ q2 < 4 from ⟨hq, hq2⟩), if_neg (fun e => e.elim gs gt), if_neg (fun e => e h56), if_neg (fun e => e.2.2.1 h73)] | rw [zs.out, zt.out, if_pos (show q < 4 ∧ q2 < 4 from ⟨hq, hq2⟩), if_neg (fun e => e.elim gs gt), if_neg (fun e => e h56)]
                                       · unfold n_cpyS
                                         first | rw [zs.out, zt.out, if_pos (show q < 4 ∧ q2 < 4 from ⟨hq, hq2⟩), if_neg (fun e => e.elim gs gt), if_neg (fun e => e h56), if_neg (fun e => e.2.2.1 h73)] | rw [zs.out, zt.out, if_pos (show q < 4 ∧ q2 < 4 from ⟨hq, hq2⟩), if_neg (fun e => e.elim gs gt), if_neg (fun e => e h56)]
                                     rw [e1.1] at kk
                                     exact kk _ _ _ e1.2.symm H A K sf.rf)
                                  | (have e1 : o_copy σ sz (nI q) (nI i0) (nI q2) (nI j0) (nI n0) = -12 ∧ n_cpyS σ sz cl (nI q) (nI i0) (nI q2) (nI j0) (nI n0) = (σ, sz, cl) := by
                                       refine ⟨?_, ?_⟩
                                       · unfold o_copy
                                         first | rw [zs.out, zt.out, if_pos (show q < 4 ∧ q2 < 4 from ⟨hq, hq2⟩), if_neg (fun e => e.elim gs gt), if_neg (fun e => e h56), if_neg (fun e => by have e' := e; unfold cpk at e'; rw [x_cl hi0, x_cl hj0, x_cl hn0] at e'; omega)] | rw [zs.out, zt.out, if_pos (show q < 4 ∧ q2 < 4 from ⟨hq, hq2⟩), if_neg (fun e => e.elim gs gt), if_neg (fun e => e h56)]
                                       · unfold n_cpyS
                                         first | rw [zs.out, zt.out, if_pos (show q < 4 ∧ q2 < 4 from ⟨hq, hq2⟩), if_neg (fun e => e.elim gs gt), if_neg (fun e => e h56), if_neg (fun e => by have e' := e; unfold cpk at e'; rw [x_cl hi0, x_cl hj0, x_cl hn0] at e'; omega)] | rw [zs.out, zt.out, if_pos (show q < 4 ∧ q2 < 4 from ⟨hq, hq2⟩), if_neg (fun e => e.elim gs gt), if_neg (fun e => e h56)]
                                     rw [e1.1] at kk
                                     exact kk _ _ _ e1.2.symm H A K sf.rf)
          · 
            first
            | (exfalso; omega (config := {splitDisjunctions := false}))
            | exact absurd rfl h56
            | skip
              refine q_bipush (pc := 59) rfl (-13) (by decide) ?_
              refine q_iret (pc := 61) rfl (rfl) ?_
              have e1 : o_copy σ sz (nI q) y (nI q2) w u = -13 ∧ n_cpyS σ sz cl (nI q) y (nI q2) w u = (σ, sz, cl) := by
                refine ⟨?_, ?_⟩
                · unfold o_copy
                  first | rw [zs.out, zt.out, if_pos (show q < 4 ∧ q2 < 4 from ⟨hq, hq2⟩), if_neg (fun e => e.elim gs gt), if_pos h56] | rw [zs.out, zt.out, if_pos (show q < 4 ∧ q2 < 4 from ⟨hq, hq2⟩), if_neg (fun e => e.elim gs gt)]
                · unfold n_cpyS
                  first | rw [zs.out, zt.out, if_pos (show q < 4 ∧ q2 < 4 from ⟨hq, hq2⟩), if_neg (fun e => e.elim gs gt), if_pos h56] | rw [zs.out, zt.out, if_pos (show q < 4 ∧ q2 < 4 from ⟨hq, hq2⟩), if_neg (fun e => e.elim gs gt)]
              rw [e1.1] at kk
              exact kk _ _ _ e1.2.symm H A K sf.rf
        · rw [g4] at gt
          refine q_ifne (pc := 40) rfl (fun z => absurd z (by decide)) (fun _ => ?_)
          refine q_bipush (pc := 43) rfl (-11) (by decide) ?_
          refine q_iret (pc := 45) rfl (rfl) ?_
          first
          | (have e1 : o_copy σ sz (nI q) y (nI q2) w u = -11 ∧ n_cpyS σ sz cl (nI q) y (nI q2) w u = (σ, sz, cl) := by
               refine ⟨?_, ?_⟩
               · unfold o_copy
                 first | rw [zs.out, zt.out, if_pos (show q < 4 ∧ q2 < 4 from ⟨hq, hq2⟩), if_pos (Or.inl gs)] | rw [zs.out, zt.out, if_pos (show q < 4 ∧ q2 < 4 from ⟨hq, hq2⟩)]
               · unfold n_cpyS
                 first | rw [zs.out, zt.out, if_pos (show q < 4 ∧ q2 < 4 from ⟨hq, hq2⟩), if_pos (Or.inl gs)] | rw [zs.out, zt.out, if_pos (show q < 4 ∧ q2 < 4 from ⟨hq, hq2⟩)]
             rw [e1.1] at kk
             exact kk _ _ _ e1.2.symm H A K sf.rf)
          | (have e1 : o_copy σ sz (nI q) y (nI q2) w u = -11 ∧ n_cpyS σ sz cl (nI q) y (nI q2) w u = (σ, sz, cl) := by
               refine ⟨?_, ?_⟩
               · unfold o_copy
                 first | rw [zs.out, zt.out, if_pos (show q < 4 ∧ q2 < 4 from ⟨hq, hq2⟩), if_pos (Or.inr gt)] | rw [zs.out, zt.out, if_pos (show q < 4 ∧ q2 < 4 from ⟨hq, hq2⟩)]
               · unfold n_cpyS
                 first | rw [zs.out, zt.out, if_pos (show q < 4 ∧ q2 < 4 from ⟨hq, hq2⟩), if_pos (Or.inr gt)] | rw [zs.out, zt.out, if_pos (show q < 4 ∧ q2 < 4 from ⟨hq, hq2⟩)]
             rw [e1.1] at kk
             exact kk _ _ _ e1.2.symm H A K sf.rf)
      · rw [g1] at gs
        refine q_ifeq (pc := 32) rfl (fun _ => ?_) (fun z => absurd (by decide) z)
        refine q_bipush (pc := 43) rfl (-11) (by decide) ?_
        refine q_iret (pc := 45) rfl (rfl) ?_
        first
        | (have e1 : o_copy σ sz (nI q) y (nI q2) w u = -11 ∧ n_cpyS σ sz cl (nI q) y (nI q2) w u = (σ, sz, cl) := by
             refine ⟨?_, ?_⟩
             · unfold o_copy
               first | rw [zs.out, zt.out, if_pos (show q < 4 ∧ q2 < 4 from ⟨hq, hq2⟩), if_pos (Or.inl gs)] | rw [zs.out, zt.out, if_pos (show q < 4 ∧ q2 < 4 from ⟨hq, hq2⟩)]
             · unfold n_cpyS
               first | rw [zs.out, zt.out, if_pos (show q < 4 ∧ q2 < 4 from ⟨hq, hq2⟩), if_pos (Or.inl gs)] | rw [zs.out, zt.out, if_pos (show q < 4 ∧ q2 < 4 from ⟨hq, hq2⟩)]
           rw [e1.1] at kk
           exact kk _ _ _ e1.2.symm H A K sf.rf)
        | (have e1 : o_copy σ sz (nI q) y (nI q2) w u = -11 ∧ n_cpyS σ sz cl (nI q) y (nI q2) w u = (σ, sz, cl) := by
             refine ⟨?_, ?_⟩
             · unfold o_copy
               first | rw [zs.out, zt.out, if_pos (show q < 4 ∧ q2 < 4 from ⟨hq, hq2⟩), if_pos (Or.inr gt)] | rw [zs.out, zt.out, if_pos (show q < 4 ∧ q2 < 4 from ⟨hq, hq2⟩)]
             · unfold n_cpyS
               first | rw [zs.out, zt.out, if_pos (show q < 4 ∧ q2 < 4 from ⟨hq, hq2⟩), if_pos (Or.inr gt)] | rw [zs.out, zt.out, if_pos (show q < 4 ∧ q2 < 4 from ⟨hq, hq2⟩)]
           rw [e1.1] at kk
           exact kk _ _ _ e1.2.symm H A K sf.rf)
    · have zt : Hd (rg 4 z = 4) := rg_out gq
      refine q_astore (pc := 12) [_, _, _, _, _, _, _, _] rfl rfl (Nat.le_of_ble_eq_true rfl) rfl ?_
      refine q_aload (pc := 14) rfl rfl rfl ?_
      refine q_ifnull (pc := 16) rfl ?_
      refine q_aload (pc := 19) rfl rfl rfl ?_
      refine q_ifnonnullN (pc := 21) rfl ?_
      refine q_bipush (pc := 24) rfl (-2) (by decide) ?_
      refine q_iret (pc := 26) rfl (rfl) ?_
      first
      | (have e1 : o_copy σ sz (nI q) y z w u = -2 ∧ n_cpyS σ sz cl (nI q) y z w u = (σ, sz, cl) := by
           refine ⟨?_, ?_⟩
           · unfold o_copy
             first | rw [zt.out, if_neg (by omega)] | rw [zt.out]
           · unfold n_cpyS
             first | rw [zt.out, if_neg (by omega)] | rw [zt.out]
         rw [e1.1] at kk
         exact kk _ _ _ e1.2.symm H A K sf.rf)
      | (have e1 : o_copy σ sz x y z w u = -2 ∧ n_cpyS σ sz cl x y z w u = (σ, sz, cl) := by
           refine ⟨?_, ?_⟩
           · unfold o_copy
             first | rw [zs.out, if_neg (by omega)] | rw [zs.out]
           · unfold n_cpyS
             first | rw [zs.out, if_neg (by omega)] | rw [zs.out]
         rw [e1.1] at kk
         exact kk _ _ _ e1.2.symm H A K sf.rf)
      | (have e1 : o_copy σ sz x y (nI q2) w u = -2 ∧ n_cpyS σ sz cl x y (nI q2) w u = (σ, sz, cl) := by
           refine ⟨?_, ?_⟩
           · unfold o_copy
             first | rw [zs.out, if_neg (by omega)] | rw [zs.out]
           · unfold n_cpyS
             first | rw [zs.out, if_neg (by omega)] | rw [zs.out]
         rw [e1.1] at kk
         exact kk _ _ _ e1.2.symm H A K sf.rf)
  · have zs : Hd (rg 4 x = 4) := rg_out gq
    refine q_astore (pc := 5) [_, _, _, _, _, _, _, _] rfl rfl (Nat.le_of_ble_eq_true rfl) rfl ?_
    refine q_aload_n (pc := 7) rfl rfl rfl ?_
    refine q_iload_n (pc := 8) rfl rfl ?_
    refine q_callV (pc := 9) _ rfl rfl rfl (by first | exact HR.X' H hl | exact HR.S2 H hl (isS_of hq) g2 | exact HR.S2 H hl (isS_of hq2) g5 | exact HR.S H hl (isS_of hq) | exact HR.B H hl isB1 A.1 | exact HR.R H hl hT.1 | exact HR.O H hl isB1 A.1 hp | exact HR.c H hl _ rfl) rfl (Nat.le_of_ble_eq_true rfl) (by omega) _ rfl ?_
    refine c_sheetAt H hl (fun q2 hq2 hxq => ?_) (fun gq => ?_)
    · subst hxq
      have zt : Hd (rg 4 (nI q2) = q2) := rg_in hq2 (by decide)
      obtain ⟨g4, g5, g6⟩ := hSh q2 hq2
      obtain ⟨j40, jσ⟩ := kSh q2 hq2
      refine q_astore (pc := 12) [_, _, _, _, _, _, _, _] rfl rfl (Nat.le_of_ble_eq_true rfl) rfl ?_
      refine q_aload (pc := 14) rfl rfl rfl ?_
      refine q_ifnullN (pc := 16) rfl ?_
      refine q_bipush (pc := 24) rfl (-2) (by decide) ?_
      refine q_iret (pc := 26) rfl (rfl) ?_
      first
      | (have e1 : o_copy σ sz (nI q) y z w u = -2 ∧ n_cpyS σ sz cl (nI q) y z w u = (σ, sz, cl) := by
           refine ⟨?_, ?_⟩
           · unfold o_copy
             first | rw [zt.out, if_neg (by omega)] | rw [zt.out]
           · unfold n_cpyS
             first | rw [zt.out, if_neg (by omega)] | rw [zt.out]
         rw [e1.1] at kk
         exact kk _ _ _ e1.2.symm H A K sf.rf)
      | (have e1 : o_copy σ sz x y z w u = -2 ∧ n_cpyS σ sz cl x y z w u = (σ, sz, cl) := by
           refine ⟨?_, ?_⟩
           · unfold o_copy
             first | rw [zs.out, if_neg (by omega)] | rw [zs.out]
           · unfold n_cpyS
             first | rw [zs.out, if_neg (by omega)] | rw [zs.out]
         rw [e1.1] at kk
         exact kk _ _ _ e1.2.symm H A K sf.rf)
      | (have e1 : o_copy σ sz x y (nI q2) w u = -2 ∧ n_cpyS σ sz cl x y (nI q2) w u = (σ, sz, cl) := by
           refine ⟨?_, ?_⟩
           · unfold o_copy
             first | rw [zs.out, if_neg (by omega)] | rw [zs.out]
           · unfold n_cpyS
             first | rw [zs.out, if_neg (by omega)] | rw [zs.out]
         rw [e1.1] at kk
         exact kk _ _ _ e1.2.symm H A K sf.rf)
    · have zt : Hd (rg 4 z = 4) := rg_out gq
      refine q_astore (pc := 12) [_, _, _, _, _, _, _, _] rfl rfl (Nat.le_of_ble_eq_true rfl) rfl ?_
      refine q_aload (pc := 14) rfl rfl rfl ?_
      refine q_ifnullN (pc := 16) rfl ?_
      refine q_bipush (pc := 24) rfl (-2) (by decide) ?_
      refine q_iret (pc := 26) rfl (rfl) ?_
      first
      | (have e1 : o_copy σ sz (nI q) y z w u = -2 ∧ n_cpyS σ sz cl (nI q) y z w u = (σ, sz, cl) := by
           refine ⟨?_, ?_⟩
           · unfold o_copy
             first | rw [zt.out, if_neg (by omega)] | rw [zt.out]
           · unfold n_cpyS
             first | rw [zt.out, if_neg (by omega)] | rw [zt.out]
         rw [e1.1] at kk
         exact kk _ _ _ e1.2.symm H A K sf.rf)
      | (have e1 : o_copy σ sz x y z w u = -2 ∧ n_cpyS σ sz cl x y z w u = (σ, sz, cl) := by
           refine ⟨?_, ?_⟩
           · unfold o_copy
             first | rw [zs.out, if_neg (by omega)] | rw [zs.out]
           · unfold n_cpyS
             first | rw [zs.out, if_neg (by omega)] | rw [zs.out]
         rw [e1.1] at kk
         exact kk _ _ _ e1.2.symm H A K sf.rf)
      | (have e1 : o_copy σ sz x y (nI q2) w u = -2 ∧ n_cpyS σ sz cl x y (nI q2) w u = (σ, sz, cl) := by
           refine ⟨?_, ?_⟩
           · unfold o_copy
             first | rw [zs.out, if_neg (by omega)] | rw [zs.out]
           · unfold n_cpyS
             first | rw [zs.out, if_neg (by omega)] | rw [zs.out]
         rw [e1.1] at kk
         exact kk _ _ _ e1.2.symm H A K sf.rf)
/-- the staff out of a row -/
def crF (F : Nat → Int32) (a z0 : Nat) : Nat → Nat → (Nat → Nat) → Nat → (Nat → Nat) × Int32
  | 0, _, β, came => (β, nI came)
  | m + 1, i, β, came => if z0 + 3 * i + 3 ≤ a then crF F a z0 m (i + 1) (n_staff β (F (z0 + 3 * i)) (F (z0 + 3 * i + 1)) (F (z0 + 3 * i + 2))) (if o_staff β (F (z0 + 3 * i)) (F (z0 + 3 * i + 1)) (F (z0 + 3 * i + 2)) < 0 then came else came + 1) else (β, -12)
def crC (σ : Nat → Int32) (x y w : Int32) : Prop := rg 4 x < 4 ∧ rg 3 y < 3 ∧ rg 5 w < 5
def crZ (z : Int32) : Nat := if z < 0 then 1000 else z.toNatClampNeg
def crR (sz : Nat → Nat) (cl : Nat → Nat → Int32) (β : Nat → Nat) (x z w : Int32) : (Nat → Nat) × Int32 := crF (cl (rg 4 x)) (sz (rg 4 x)) (crZ z) (rg 5 w) 0 β 0
def o_crew (σ : Nat → Int32) (sz : Nat → Nat) (cl : Nat → Nat → Int32) (β : Nat → Nat) (x y z w : Int32) : Int32 := if rg 4 x < 4 ∧ rg 3 y < 3 ∧ rg 5 w < 5 then (if σ (rg 4 x) = -1 then -11 else if σ (rg 4 x) = y then (crR sz cl β x z w).2 else -13) else -2
def n_crew (σ : Nat → Int32) (sz : Nat → Nat) (cl : Nat → Nat → Int32) (β : Nat → Nat) (x y z w : Int32) : Nat → Nat := if rg 4 x < 4 ∧ rg 3 y < 3 ∧ rg 5 w < 5 then (if σ (rg 4 x) = -1 then β else if σ (rg 4 x) = y then (crR sz cl β x z w).1 else β) else β
theorem c_crewL (hd : 20 ≤ d) {s0 : mx_St} {q z0 N : Nat} {y : Int32} (hl : 51 ≤ P.1) (hq : q < 4) (r : (Nat → Nat) × Int32) (hz0 : z0 < 2 ^ 31) (hN : N ≤ 4) (kk : ∀ h' s', HR P h' s' → CA P s' r.1 κ ik tp tz C E σ sz cl → AOK P.2.1 r.1 κ ik tp tz σ sz → sf s0 s' cS → Q (some (.int r.2)) h') (n i came : Nat) (hi : i + n = N) (hz : i = 0 ∨ z0 + 3 * i ≤ 40) (hc : came ≤ i) (β : Nat → Nat) (hr : crF (cl q) (sz q) z0 n i β came = r) (h : mx_H) (s : mx_St) (H : HR P h s) (A : CA P s β κ ik tp tz C E σ sz cl) (K : AOK P.2.1 β κ ik tp tz σ sz) (hs : sf s0 s cS) (z8 z9 : Option Value) : wq d 122 72 [some (.ref 0), some (.int x), some (.int y), some (.int (nI z0)), some (.int (nI N)), some (.ref (43 + 2 * q)), some (.int (nI came)), some (.int (nI i)), z8, z9] [] h Q := by
  obtain ⟨g1, g2, g3⟩ := A.2.2.2.2.2.2 q hq
  obtain ⟨k40, kσ⟩ := K.2.2.2.2.2.2.2 q hq
  match n, hi, hr with
  | 0, hi, hr =>
    subst hr
    refine q_iload (pc := 72) rfl rfl ?_
    refine q_iload (pc := 74) rfl rfl ?_
    first | refine n_icmpge (pc := 76) rfl (by omega) (by omega) (fun h76 => ?_) (fun h76 => ?_) | refine q_icmpge (pc := 76) rfl (fun h76 => ?_) (fun h76 => ?_)
    · refine q_iload (pc := 159) rfl rfl ?_
      refine q_iret (pc := 161) rfl (rfl) ?_
      exact kk _ _ H A K hs
    · first | (exfalso; omega) | exact absurd h76 (nI_pos (by omega)) | exact absurd (nI_pos' (by omega)) h76
  | n + 1, hi, hr =>
    unfold crF at hr
    refine q_iload (pc := 72) rfl rfl ?_
    refine q_iload (pc := 74) rfl rfl ?_
    first | refine n_icmpge (pc := 76) rfl (by omega) (by omega) (fun h76 => ?_) (fun h76 => ?_) | refine q_icmpge (pc := 76) rfl (fun h76 => ?_) (fun h76 => ?_)
    · first | (exfalso; omega) | exact absurd h76 (nI_pos (by omega)) | exact absurd (nI_pos' (by omega)) h76
    · refine q_iload_n (pc := 79) rfl rfl ?_
      refine q_iconst (pc := 80) rfl (nI 3) (by decide) ?_
      refine q_iload (pc := 81) rfl rfl ?_
      first | refine n_imul (pc := 83) rfl ?_ | refine q_imul (pc := 83) rfl ?_
      first | refine n_iadd (pc := 84) rfl ?_ | refine q_iadd (pc := 84) rfl ?_
      refine q_istore (pc := 85) [_, _, _, _, _, _, _, _, _, _] rfl (Nat.le_of_ble_eq_true rfl) rfl ?_
      refine q_iload (pc := 87) rfl rfl ?_
      refine q_iflt (pc := 89) rfl (fun h89 => ?_) (fun h89 => ?_)
      · first | (exfalso; omega) | exact absurd h89 (nI_pos (by omega)) | exact absurd (nI_pos' (by omega)) h89
      · refine q_iload (pc := 92) rfl rfl ?_
        refine q_aload (pc := 94) rfl rfl rfl ?_
        refine q_getf (pc := 96) rfl (by first | exact HR.X' H hl | exact HR.S2 H hl (isS_of hq) g2 | exact HR.S2 H hl (isS_of hq2) g5 | exact HR.S H hl (isS_of hq) | exact HR.B H hl isB1 A.1 | exact HR.R H hl hT.1 | exact HR.O H hl isB1 A.1 hp | exact HR.c H hl _ rfl) rfl rfl ?_
        refine q_iconst (pc := 99) rfl (nI 3) (by decide) ?_
        first | refine n_isub (pc := 100) rfl (by omega) ?_ | refine q_isub (pc := 100) rfl ?_
        refine q_icmple (pc := 101) rfl (fun h101 => ?_) (fun h101 => ?_)
        · have h101 : z0 + 3 * i + 3 ≤ sz q := Nat.not_lt.mp ((fun z => (Int32.not_lt.mpr h101) ((cpl (by omega) (by omega) (by omega)).mpr z)))
          first
          | (exfalso; omega (config := {splitDisjunctions := false}))
          | skip
            refine q_aload_n (pc := 107) rfl rfl rfl ?_
            refine q_aload (pc := 108) rfl rfl rfl ?_
            refine q_iload (pc := 110) rfl rfl ?_
            refine q_callV (pc := 112) _ rfl rfl rfl (by first | exact HR.X' H hl | exact HR.S2 H hl (isS_of hq) g2 | exact HR.S2 H hl (isS_of hq2) g5 | exact HR.S H hl (isS_of hq) | exact HR.B H hl isB1 A.1 | exact HR.R H hl hT.1 | exact HR.O H hl isB1 A.1 hp | exact HR.c H hl _ rfl) rfl (Nat.le_of_ble_eq_true rfl) (by omega) _ rfl ?_
            rw [if_pos h101] at hr
            refine c_item H hl (isS_of hq) g2 k40 (by omega) ?_
            rw [g3 _ (by omega)]
            refine q_aload (pc := 115) rfl rfl rfl ?_
            refine q_iload (pc := 117) rfl rfl ?_
            refine q_iconst (pc := 119) rfl (nI 1) (by decide) ?_
            first | refine n_iadd (pc := 120) rfl ?_ | refine q_iadd (pc := 120) rfl ?_
            refine q_callV (pc := 121) _ rfl rfl rfl (by first | exact HR.X' H hl | exact HR.S2 H hl (isS_of hq) g2 | exact HR.S2 H hl (isS_of hq2) g5 | exact HR.S H hl (isS_of hq) | exact HR.B H hl isB1 A.1 | exact HR.R H hl hT.1 | exact HR.O H hl isB1 A.1 hp | exact HR.c H hl _ rfl) rfl (Nat.le_of_ble_eq_true rfl) (by omega) _ rfl ?_
            refine c_item H hl (isS_of hq) g2 k40 (by omega) ?_
            rw [g3 _ (by omega)]
            refine q_aload (pc := 124) rfl rfl rfl ?_
            refine q_iload (pc := 126) rfl rfl ?_
            refine q_iconst (pc := 128) rfl (nI 2) (by decide) ?_
            first | refine n_iadd (pc := 129) rfl ?_ | refine q_iadd (pc := 129) rfl ?_
            refine q_callV (pc := 130) _ rfl rfl rfl (by first | exact HR.X' H hl | exact HR.S2 H hl (isS_of hq) g2 | exact HR.S2 H hl (isS_of hq2) g5 | exact HR.S H hl (isS_of hq) | exact HR.B H hl isB1 A.1 | exact HR.R H hl hT.1 | exact HR.O H hl isB1 A.1 hp | exact HR.c H hl _ rfl) rfl (Nat.le_of_ble_eq_true rfl) (by omega) _ rfl ?_
            refine c_item H hl (isS_of hq) g2 k40 (by omega) ?_
            rw [g3 _ (by omega)]
            refine q_callV (pc := 133) _ rfl rfl rfl (by first | exact HR.X' H hl | exact HR.S2 H hl (isS_of hq) g2 | exact HR.S2 H hl (isS_of hq2) g5 | exact HR.S H hl (isS_of hq) | exact HR.B H hl isB1 A.1 | exact HR.R H hl hT.1 | exact HR.O H hl isB1 A.1 hp | exact HR.c H hl _ rfl) rfl (Nat.le_of_ble_eq_true rfl) (by omega) _ rfl ?_
            refine c_staff (by omega) H hl A K ?_
            intro h s1 β1 hβ1 H A K k1
            subst hβ1
            refine q_istore (pc := 136) [_, _, _, _, _, _, _, _, _, _] rfl (Nat.le_of_ble_eq_true rfl) rfl ?_
            refine q_iload (pc := 138) rfl rfl ?_
            refine q_iload (pc := 140) rfl rfl ?_
            refine q_iflt (pc := 142) rfl (fun h142 => ?_) (fun h142 => ?_)
            · rw [if_pos h142] at hr
              first
              | (exfalso; omega (config := {splitDisjunctions := false}))
              | skip
                refine q_iconst (pc := 149) rfl (nI 0) (by decide) ?_
                first | refine n_iadd (pc := 150) rfl ?_ | refine q_iadd (pc := 150) rfl ?_
                refine q_istore (pc := 151) [_, _, _, _, _, _, _, _, _, _] rfl (Nat.le_of_ble_eq_true rfl) rfl ?_
                first | refine n_iinc (pc := 153) rfl [_, _, _, _, _, _, _, _, _, _] 1 (by decide) rfl rfl ?_ | refine q_iinc (pc := 153) [_, _, _, _, _, _, _, _, _, _] (1) rfl rfl (by decide) rfl ?_
                refine q_goto (pc := 156) rfl ?_
                exact c_crewL hd hl hq r hz0 hN kk n (i + 1) _ (by omega) (by omega) (by omega) _ hr h _ H A K (hs.tr k1) _ _
            · rw [if_neg h142] at hr
              first
              | (exfalso; omega (config := {splitDisjunctions := false}))
              | skip
                refine q_iconst (pc := 145) rfl (nI 1) (by decide) ?_
                refine q_goto (pc := 146) rfl ?_
                first | refine n_iadd (pc := 150) rfl ?_ | refine q_iadd (pc := 150) rfl ?_
                refine q_istore (pc := 151) [_, _, _, _, _, _, _, _, _, _] rfl (Nat.le_of_ble_eq_true rfl) rfl ?_
                first | refine n_iinc (pc := 153) rfl [_, _, _, _, _, _, _, _, _, _] 1 (by decide) rfl rfl ?_ | refine q_iinc (pc := 153) [_, _, _, _, _, _, _, _, _, _] (1) rfl rfl (by decide) rfl ?_
                refine q_goto (pc := 156) rfl ?_
                exact c_crewL hd hl hq r hz0 hN kk n (i + 1) _ (by omega) (by omega) (by omega) _ hr h _ H A K (hs.tr k1) _ _
        · have h101 : ¬ z0 + 3 * i + 3 ≤ sz q := Nat.not_le.mpr ((cpl (by omega) (by omega) (by omega)).mp (Int32.not_le.mp h101))
          first
          | (exfalso; omega (config := {splitDisjunctions := false}))
          | skip
            refine q_bipush (pc := 104) rfl (-12) (by decide) ?_
            refine q_iret (pc := 106) rfl (rfl) ?_
            rw [if_neg h101] at hr
            subst hr
            exact kk _ _ H A K hs
termination_by n
theorem c_crewN {q w0 : Nat} {r : (Nat → Nat) × Int32} (hd : 19 ≤ d) (hl : 51 ≤ P.1) (hq : q < 4) (hz : z < 0) (H : HR P h s) (A : CA P s β κ ik tp tz C E σ sz cl) (K : AOK P.2.1 β κ ik tp tz σ sz) (kk : HR P h s → CA P s r.1 κ ik tp tz C E σ sz cl → AOK P.2.1 r.1 κ ik tp tz σ sz → sf s s cS → Q (some (.int r.2)) h) (g1 : s (43 + 2 * q) 1 = σ q) (g2 : s (43 + 2 * q) 2 = nI (sz q)) (k40 : sz q ≤ 40) (hw0 : w0 < 5) (hr : crF (cl q) (sz q) (crZ z) w0 0 β 0 = r) (z8 z9 : Option Value) : wq d 122 72 [some (.ref 0), some (.int x), some (.int y), some (.int z), some (.int (nI w0)), some (.ref (43 + 2 * q)), some (.int (nI 0)), some (.int (nI 0)), z8, z9] [] h Q := by
  rw [show crZ z = 1000 from if_pos hz] at hr
  rcases Nat.eq_zero_or_pos w0 with e | e
  · subst e
    subst hr
    refine q_iload (pc := 72) rfl rfl ?_
    refine q_iload (pc := 74) rfl rfl ?_
    first | refine n_icmpge (pc := 76) rfl (by omega) (by omega) (fun h76 => ?_) (fun h76 => ?_) | refine q_icmpge (pc := 76) rfl (fun h76 => ?_) (fun h76 => ?_)
    · refine q_iload (pc := 159) rfl rfl ?_
      refine q_iret (pc := 161) rfl (rfl) ?_
      exact kk H A K sf.rf
    · first | (exfalso; omega) | exact absurd h76 (nI_pos (by omega)) | exact absurd (nI_pos' (by omega)) h76
  · obtain ⟨m, rfl⟩ : ∃ m, w0 = m + 1 := ⟨w0 - 1, by omega⟩
    unfold crF at hr
    rw [if_neg (by omega)] at hr
    subst hr
    refine q_iload (pc := 72) rfl rfl ?_
    refine q_iload (pc := 74) rfl rfl ?_
    first | refine n_icmpge (pc := 76) rfl (by omega) (by omega) (fun h76 => ?_) (fun h76 => ?_) | refine q_icmpge (pc := 76) rfl (fun h76 => ?_) (fun h76 => ?_)
    · first | (exfalso; omega) | exact absurd h76 (nI_pos (by omega)) | exact absurd (nI_pos' (by omega)) h76
    · refine q_iload_n (pc := 79) rfl rfl ?_
      refine q_iconst (pc := 80) rfl (nI 3) (by decide) ?_
      refine q_iload (pc := 81) rfl rfl ?_
      first | refine n_imul (pc := 83) rfl ?_ | refine q_imul (pc := 83) rfl ?_
      refine q_iadd (pc := 84) rfl ?_
      refine q_istore (pc := 85) [_, _, _, _, _, _, _, _, _, _] rfl (Nat.le_of_ble_eq_true rfl) rfl ?_
      refine q_iload (pc := 87) rfl rfl ?_
      refine q_iflt (pc := 89) rfl (fun h89 => ?_) (fun h89 => ?_)
      · first
        | (exfalso; omega (config := {splitDisjunctions := false}))
        | skip
          refine q_bipush (pc := 104) rfl (-12) (by decide) ?_
          refine q_iret (pc := 106) rfl (rfl) ?_
          exact kk H A K sf.rf
      · exact absurd (show z + nI (3 * 0) < 0 by rw [show nI (3 * 0) = 0 from rfl, Int32.add_zero]; exact hz) h89
theorem c_crew (hd : 21 ≤ d) (H : HR P h s) (hl : 51 ≤ P.1) (A : CA P s β κ ik tp tz C E σ sz cl) (K : AOK P.2.1 β κ ik tp tz σ sz) (kk : ∀ h' s' β', β' = n_crew σ sz cl β x y z w → HR P h' s' → CA P s' β' κ ik tp tz C E σ sz cl → AOK P.2.1 β' κ ik tp tz σ sz → sf s s' cS → Q (some (.int (o_crew σ sz cl β x y z w))) h') : wc d 122 [.ref 0, .int x, .int y, .int z, .int w] h Q := by
  have K4 := K.1.2.2.1
  have KK := K.1
  have hT := A.2.2.2.2.2.1
  have hSh := A.2.2.2.2.2.2
  have kSh := K.2.2.2.2.2.2.2
  rcases rgc 3 (by decide) y with ⟨y0, hy0, rfl, z1⟩ | ⟨g, z1⟩
  · rcases rgc 5 (by decide) w with ⟨w0, hw0, rfl, z2⟩ | ⟨g, z2⟩
    ·
      refine wc.go [_, _, _, _, _, _, _, _, _, _] rfl ?_
      refine q_aload_n (pc := 0) rfl rfl rfl ?_
      refine q_iload_n (pc := 1) rfl rfl ?_
      refine q_callV (pc := 2) _ rfl rfl rfl (by first | exact HR.X' H hl | exact HR.S2 H hl (isS_of hq) g2 | exact HR.S2 H hl (isS_of hq2) g5 | exact HR.S H hl (isS_of hq) | exact HR.B H hl isB1 A.1 | exact HR.R H hl hT.1 | exact HR.O H hl isB1 A.1 hp | exact HR.c H hl _ rfl) rfl (Nat.le_of_ble_eq_true rfl) (by omega) _ rfl ?_
      refine c_sheetAt H hl (fun q hq hxq => ?_) (fun gq => ?_)
      · subst hxq
        have zs : Hd (rg 4 (nI q) = q) := rg_in hq (by decide)
        obtain ⟨g1, g2, g3⟩ := hSh q hq
        obtain ⟨k40, kσ⟩ := kSh q hq
        refine q_astore (pc := 5) [_, _, _, _, _, _, _, _, _, _] rfl rfl (Nat.le_of_ble_eq_true rfl) rfl ?_
        refine q_aload (pc := 7) rfl rfl rfl ?_
        refine q_ifnull (pc := 9) rfl ?_
        refine q_iload_n (pc := 12) rfl rfl ?_
        refine q_iflt (pc := 13) rfl (fun h13 => ?_) (fun h13 => ?_)
        · first | (exfalso; omega) | exact absurd h13 (nI_pos (by omega)) | exact absurd (nI_pos' (by omega)) h13
        · refine q_iload_n (pc := 16) rfl rfl ?_
          refine q_iconst (pc := 17) rfl (nI 3) (by decide) ?_
          first | refine n_icmpge (pc := 18) rfl (by omega) (by omega) (fun h18 => ?_) (fun h18 => ?_) | refine q_icmpge (pc := 18) rfl (fun h18 => ?_) (fun h18 => ?_)
          · first | (exfalso; omega) | exact absurd h18 (nI_pos (by omega)) | exact absurd (nI_pos' (by omega)) h18
          · refine q_iload (pc := 21) rfl rfl ?_
            refine q_iflt (pc := 23) rfl (fun h23 => ?_) (fun h23 => ?_)
            · first | (exfalso; omega) | exact absurd h23 (nI_pos (by omega)) | exact absurd (nI_pos' (by omega)) h23
            · refine q_iload (pc := 26) rfl rfl ?_
              refine q_iconst (pc := 28) rfl (nI 4) (by decide) ?_
              first | refine n_icmple (pc := 29) rfl (by omega) (by omega) (fun h29 => ?_) (fun h29 => ?_) | refine q_icmple (pc := 29) rfl (fun h29 => ?_) (fun h29 => ?_)
              · refine q_aload (pc := 35) rfl rfl rfl ?_
                refine q_callV (pc := 37) _ rfl rfl rfl (by first | exact HR.X' H hl | exact HR.S2 H hl (isS_of hq) g2 | exact HR.S2 H hl (isS_of hq2) g5 | exact HR.S H hl (isS_of hq) | exact HR.B H hl isB1 A.1 | exact HR.R H hl hT.1 | exact HR.O H hl isB1 A.1 hp | exact HR.c H hl _ rfl) rfl (Nat.le_of_ble_eq_true rfl) (by omega) _ rfl ?_
                refine c_isThere H hl (isS_of hq) (fun gs => ?_) (fun gs => ?_)
                · rw [g1] at gs
                  refine q_ifeq (pc := 40) rfl (fun z => absurd z (by decide)) (fun _ => ?_)
                  refine q_aload (pc := 43) rfl rfl rfl ?_
                  refine q_getf (pc := 45) rfl (by first | exact HR.X' H hl | exact HR.S2 H hl (isS_of hq) g2 | exact HR.S2 H hl (isS_of hq2) g5 | exact HR.S H hl (isS_of hq) | exact HR.B H hl isB1 A.1 | exact HR.R H hl hT.1 | exact HR.O H hl isB1 A.1 hp | exact HR.c H hl _ rfl) rfl rfl ?_
                  rw [g1]
                  refine q_iload_n (pc := 48) rfl rfl ?_
                  refine q_icmpeq (pc := 49) rfl (fun h49 => ?_) (fun h49 => ?_)
                  · first
                    | (exfalso; omega (config := {splitDisjunctions := false}))
                    | exact absurd rfl h49
                    | skip
                      refine q_aload (pc := 55) rfl rfl rfl ?_
                      refine q_callV (pc := 57) _ rfl rfl rfl (by first | exact HR.X' H hl | exact HR.S2 H hl (isS_of hq) g2 | exact HR.S2 H hl (isS_of hq2) g5 | exact HR.S H hl (isS_of hq) | exact HR.B H hl isB1 A.1 | exact HR.R H hl hT.1 | exact HR.O H hl isB1 A.1 hp | exact HR.c H hl _ rfl) rfl (Nat.le_of_ble_eq_true rfl) (by omega) _ rfl ?_
                      refine c_isThere H hl (isS_of hq) (fun gt => ?_) (fun gt => ?_)
                      · rw [g1] at gt
                        refine q_ifne (pc := 60) rfl (fun _ => ?_) (fun z => absurd z (by decide))
                        refine q_iconst (pc := 66) rfl (nI 0) (by decide) ?_
                        refine q_istore (pc := 67) [_, _, _, _, _, _, _, _, _, _] rfl (Nat.le_of_ble_eq_true rfl) rfl ?_
                        refine q_iconst (pc := 69) rfl (nI 0) (by decide) ?_
                        refine q_istore (pc := 70) [_, _, _, _, _, _, _, _, _, _] rfl (Nat.le_of_ble_eq_true rfl) rfl ?_
                        first
                        | exact absurd gs gt
                        | (have e1 : o_crew σ sz cl β (nI q) (nI y0) z (nI w0) = (crF (cl q) (sz q) (crZ z) w0 0 β 0).2 ∧ n_crew σ sz cl β (nI q) (nI y0) z (nI w0) = (crF (cl q) (sz q) (crZ z) w0 0 β 0).1 := by
                             unfold o_crew n_crew crR
                             rw [zs.out, z1.out, z2.out, if_pos (show q < 4 ∧ y0 < 3 ∧ w0 < 5 from ⟨hq, hy0, hw0⟩), if_pos (show q < 4 ∧ y0 < 3 ∧ w0 < 5 from ⟨hq, hy0, hw0⟩), if_neg gs, if_neg gs, if_pos h49, if_pos h49]
                             exact ⟨rfl, rfl⟩
                           rw [e1.1] at kk
                           replace kk := fun h' s' => kk h' s' _ e1.2.symm
                           by_cases hz : z < 0
                           · exact c_crewN (by omega) hl hq hz H A K (kk _ _) g1 g2 k40 hw0 rfl _ _
                           · obtain ⟨z0, hz0, rfl⟩ := x_of hz
                             rw [show crZ (nI z0) = z0 from (if_neg hz).trans (x_cl hz0)] at kk
                             exact c_crewL (by omega) hl hq _ hz0 (by omega) kk w0 0 0 (by omega) (Or.inl rfl) (by omega) β rfl h s H A K sf.rf _ _)
                      · rw [g1] at gt
                        refine q_ifne (pc := 60) rfl (fun z => absurd z (by decide)) (fun _ => ?_)
                        refine q_bipush (pc := 63) rfl (-11) (by decide) ?_
                        refine q_iret (pc := 65) rfl (rfl) ?_
                        first
                        | (have e1 : o_crew σ sz cl β (nI q) (nI y0) z (nI w0) = -11 ∧ n_crew σ sz cl β (nI q) (nI y0) z (nI w0) = β := by
                             refine ⟨?_, ?_⟩
                             · unfold o_crew
                               first | rw [zs.out, z1.out, z2.out, if_pos (show q < 4 ∧ y0 < 3 ∧ w0 < 5 from ⟨hq, hy0, hw0⟩), if_pos gs] | rw [zs.out, z1.out, z2.out, if_pos (show q < 4 ∧ y0 < 3 ∧ w0 < 5 from ⟨hq, hy0, hw0⟩)]
                             · unfold n_crew
                               first | rw [zs.out, z1.out, z2.out, if_pos (show q < 4 ∧ y0 < 3 ∧ w0 < 5 from ⟨hq, hy0, hw0⟩), if_pos gs] | rw [zs.out, z1.out, z2.out, if_pos (show q < 4 ∧ y0 < 3 ∧ w0 < 5 from ⟨hq, hy0, hw0⟩)]
                           rw [e1.1] at kk
                           exact kk _ _ _ e1.2.symm H A K sf.rf)
                        | (exact absurd gt gs)
                  · first
                    | (exfalso; omega (config := {splitDisjunctions := false}))
                    | exact absurd rfl h49
                    | skip
                      refine q_bipush (pc := 52) rfl (-13) (by decide) ?_
                      refine q_iret (pc := 54) rfl (rfl) ?_
                      have e1 : o_crew σ sz cl β (nI q) (nI y0) z (nI w0) = -13 ∧ n_crew σ sz cl β (nI q) (nI y0) z (nI w0) = β := by
                        refine ⟨?_, ?_⟩
                        · unfold o_crew
                          first | rw [zs.out, z1.out, z2.out, if_pos (show q < 4 ∧ y0 < 3 ∧ w0 < 5 from ⟨hq, hy0, hw0⟩), if_neg gs, if_neg h49] | rw [zs.out, z1.out, z2.out, if_pos (show q < 4 ∧ y0 < 3 ∧ w0 < 5 from ⟨hq, hy0, hw0⟩), if_neg gs]
                        · unfold n_crew
                          first | rw [zs.out, z1.out, z2.out, if_pos (show q < 4 ∧ y0 < 3 ∧ w0 < 5 from ⟨hq, hy0, hw0⟩), if_neg gs, if_neg h49] | rw [zs.out, z1.out, z2.out, if_pos (show q < 4 ∧ y0 < 3 ∧ w0 < 5 from ⟨hq, hy0, hw0⟩), if_neg gs]
                      rw [e1.1] at kk
                      exact kk _ _ _ e1.2.symm H A K sf.rf
                · rw [g1] at gs
                  refine q_ifeq (pc := 40) rfl (fun _ => ?_) (fun z => absurd (by decide) z)
                  refine q_aload (pc := 55) rfl rfl rfl ?_
                  refine q_callV (pc := 57) _ rfl rfl rfl (by first | exact HR.X' H hl | exact HR.S2 H hl (isS_of hq) g2 | exact HR.S2 H hl (isS_of hq2) g5 | exact HR.S H hl (isS_of hq) | exact HR.B H hl isB1 A.1 | exact HR.R H hl hT.1 | exact HR.O H hl isB1 A.1 hp | exact HR.c H hl _ rfl) rfl (Nat.le_of_ble_eq_true rfl) (by omega) _ rfl ?_
                  refine c_isThere H hl (isS_of hq) (fun gt => ?_) (fun gt => ?_)
                  · rw [g1] at gt
                    refine q_ifne (pc := 60) rfl (fun _ => ?_) (fun z => absurd z (by decide))
                    refine q_iconst (pc := 66) rfl (nI 0) (by decide) ?_
                    refine q_istore (pc := 67) [_, _, _, _, _, _, _, _, _, _] rfl (Nat.le_of_ble_eq_true rfl) rfl ?_
                    refine q_iconst (pc := 69) rfl (nI 0) (by decide) ?_
                    refine q_istore (pc := 70) [_, _, _, _, _, _, _, _, _, _] rfl (Nat.le_of_ble_eq_true rfl) rfl ?_
                    first
                    | exact absurd gs gt
                    | (have e1 : o_crew σ sz cl β (nI q) (nI y0) z (nI w0) = (crF (cl q) (sz q) (crZ z) w0 0 β 0).2 ∧ n_crew σ sz cl β (nI q) (nI y0) z (nI w0) = (crF (cl q) (sz q) (crZ z) w0 0 β 0).1 := by
                         unfold o_crew n_crew crR
                         rw [zs.out, z1.out, z2.out, if_pos (show q < 4 ∧ y0 < 3 ∧ w0 < 5 from ⟨hq, hy0, hw0⟩), if_pos (show q < 4 ∧ y0 < 3 ∧ w0 < 5 from ⟨hq, hy0, hw0⟩), if_neg gs, if_neg gs, if_pos h49, if_pos h49]
                         exact ⟨rfl, rfl⟩
                       rw [e1.1] at kk
                       replace kk := fun h' s' => kk h' s' _ e1.2.symm
                       by_cases hz : z < 0
                       · exact c_crewN (by omega) hl hq hz H A K (kk _ _) g1 g2 k40 hw0 rfl _ _
                       · obtain ⟨z0, hz0, rfl⟩ := x_of hz
                         rw [show crZ (nI z0) = z0 from (if_neg hz).trans (x_cl hz0)] at kk
                         exact c_crewL (by omega) hl hq _ hz0 (by omega) kk w0 0 0 (by omega) (Or.inl rfl) (by omega) β rfl h s H A K sf.rf _ _)
                  · rw [g1] at gt
                    refine q_ifne (pc := 60) rfl (fun z => absurd z (by decide)) (fun _ => ?_)
                    refine q_bipush (pc := 63) rfl (-11) (by decide) ?_
                    refine q_iret (pc := 65) rfl (rfl) ?_
                    first
                    | (have e1 : o_crew σ sz cl β (nI q) (nI y0) z (nI w0) = -11 ∧ n_crew σ sz cl β (nI q) (nI y0) z (nI w0) = β := by
                         refine ⟨?_, ?_⟩
                         · unfold o_crew
                           first | rw [zs.out, z1.out, z2.out, if_pos (show q < 4 ∧ y0 < 3 ∧ w0 < 5 from ⟨hq, hy0, hw0⟩), if_pos gs] | rw [zs.out, z1.out, z2.out, if_pos (show q < 4 ∧ y0 < 3 ∧ w0 < 5 from ⟨hq, hy0, hw0⟩)]
                         · unfold n_crew
                           first | rw [zs.out, z1.out, z2.out, if_pos (show q < 4 ∧ y0 < 3 ∧ w0 < 5 from ⟨hq, hy0, hw0⟩), if_pos gs] | rw [zs.out, z1.out, z2.out, if_pos (show q < 4 ∧ y0 < 3 ∧ w0 < 5 from ⟨hq, hy0, hw0⟩)]
                       rw [e1.1] at kk
                       exact kk _ _ _ e1.2.symm H A K sf.rf)
                    | (exact absurd gt gs)
              · first | (exfalso; omega) | exact absurd h29 (nI_pos (by omega)) | exact absurd (nI_pos' (by omega)) h29
      · have zs : Hd (rg 4 x = 4) := rg_out gq
        refine q_astore (pc := 5) [_, _, _, _, _, _, _, _, _, _] rfl rfl (Nat.le_of_ble_eq_true rfl) rfl ?_
        refine q_aload (pc := 7) rfl rfl rfl ?_
        refine q_ifnullN (pc := 9) rfl ?_
        refine q_bipush (pc := 32) rfl (-2) (by decide) ?_
        refine q_iret (pc := 34) rfl (rfl) ?_
        have e1 : o_crew σ sz cl β x (nI y0) z (nI w0) = -2 ∧ n_crew σ sz cl β x (nI y0) z (nI w0) = β := by
          refine ⟨?_, ?_⟩
          · unfold o_crew
            first | rw [zs.out, if_neg (by omega)] | rw [zs.out]
          · unfold n_crew
            first | rw [zs.out, if_neg (by omega)] | rw [zs.out]
        rw [e1.1] at kk
        exact kk _ _ _ e1.2.symm H A K sf.rf
    · have e0 : ∀ x, o_crew σ sz cl β x (nI y0) z w = -2 ∧ n_crew σ sz cl β x (nI y0) z w = β := fun x => by
        unfold o_crew n_crew
        rw [z2.out, if_neg (by omega), if_neg (by omega)]
        exact ⟨rfl, rfl⟩
      have e1 := e0 x
      rw [e1.1] at kk
      refine wc.go [_, _, _, _, _, _, _, _, _, _] rfl ?_
      refine q_aload_n (pc := 0) rfl rfl rfl ?_
      refine q_iload_n (pc := 1) rfl rfl ?_
      refine q_callV (pc := 2) _ rfl rfl rfl (by first | exact HR.X' H hl | exact HR.S2 H hl (isS_of hq) g2 | exact HR.S2 H hl (isS_of hq2) g5 | exact HR.S H hl (isS_of hq) | exact HR.B H hl isB1 A.1 | exact HR.R H hl hT.1 | exact HR.O H hl isB1 A.1 hp | exact HR.c H hl _ rfl) rfl (Nat.le_of_ble_eq_true rfl) (by omega) _ rfl ?_
      refine c_sheetAt H hl (fun q hq hxq => ?_) (fun gq => ?_)
      · refine q_astore (pc := 5) [_, _, _, _, _, _, _, _, _, _] rfl rfl (Nat.le_of_ble_eq_true rfl) rfl ?_
        refine q_aload (pc := 7) rfl rfl rfl ?_
        refine q_ifnull (pc := 9) rfl ?_
        refine q_iload_n (pc := 12) rfl rfl ?_
        refine q_iflt (pc := 13) rfl (fun h13 => ?_) (fun h13 => ?_)
        · first | (exfalso; omega) | exact absurd h13 (nI_pos (by omega)) | exact absurd (nI_pos' (by omega)) h13
        · refine q_iload_n (pc := 16) rfl rfl ?_
          refine q_iconst (pc := 17) rfl (nI 3) (by decide) ?_
          first | refine n_icmpge (pc := 18) rfl (by omega) (by omega) (fun h18 => ?_) (fun h18 => ?_) | refine q_icmpge (pc := 18) rfl (fun h18 => ?_) (fun h18 => ?_)
          · first | (exfalso; omega) | exact absurd h18 (nI_pos (by omega)) | exact absurd (nI_pos' (by omega)) h18
          · refine q_iload (pc := 21) rfl rfl ?_
            refine q_iflt (pc := 23) rfl (fun h23 => ?_) (fun h23 => ?_)
            · first
              | (exfalso; omega (config := {splitDisjunctions := false}))
              | skip
                refine q_bipush (pc := 32) rfl (-2) (by decide) ?_
                refine q_iret (pc := 34) rfl (rfl) ?_
                exact kk _ _ _ e1.2.symm H A K sf.rf
            · first
              | (exfalso; omega (config := {splitDisjunctions := false}))
              | skip
                refine q_iload (pc := 26) rfl rfl ?_
                refine q_iconst (pc := 28) rfl (nI 4) (by decide) ?_
                refine q_icmple (pc := 29) rfl (fun h29 => ?_) (fun h29 => ?_)
                · exact (z_out (m := 5) g h23 h29 (by decide)).elim
                · first
                  | (exfalso; omega (config := {splitDisjunctions := false}))
                  | skip
                    refine q_bipush (pc := 32) rfl (-2) (by decide) ?_
                    refine q_iret (pc := 34) rfl (rfl) ?_
                    exact kk _ _ _ e1.2.symm H A K sf.rf
      · refine q_astore (pc := 5) [_, _, _, _, _, _, _, _, _, _] rfl rfl (Nat.le_of_ble_eq_true rfl) rfl ?_
        refine q_aload (pc := 7) rfl rfl rfl ?_
        refine q_ifnullN (pc := 9) rfl ?_
        refine q_bipush (pc := 32) rfl (-2) (by decide) ?_
        refine q_iret (pc := 34) rfl (rfl) ?_
        exact kk _ _ _ e1.2.symm H A K sf.rf
  · have e0 : ∀ x, o_crew σ sz cl β x y z w = -2 ∧ n_crew σ sz cl β x y z w = β := fun x => by
      unfold o_crew n_crew
      rw [z1.out, if_neg (by omega), if_neg (by omega)]
      exact ⟨rfl, rfl⟩
    have e1 := e0 x
    rw [e1.1] at kk
    refine wc.go [_, _, _, _, _, _, _, _, _, _] rfl ?_
    refine q_aload_n (pc := 0) rfl rfl rfl ?_
    refine q_iload_n (pc := 1) rfl rfl ?_
    refine q_callV (pc := 2) _ rfl rfl rfl (by first | exact HR.X' H hl | exact HR.S2 H hl (isS_of hq) g2 | exact HR.S2 H hl (isS_of hq2) g5 | exact HR.S H hl (isS_of hq) | exact HR.B H hl isB1 A.1 | exact HR.R H hl hT.1 | exact HR.O H hl isB1 A.1 hp | exact HR.c H hl _ rfl) rfl (Nat.le_of_ble_eq_true rfl) (by omega) _ rfl ?_
    refine c_sheetAt H hl (fun q hq hxq => ?_) (fun gq => ?_)
    · refine q_astore (pc := 5) [_, _, _, _, _, _, _, _, _, _] rfl rfl (Nat.le_of_ble_eq_true rfl) rfl ?_
      refine q_aload (pc := 7) rfl rfl rfl ?_
      refine q_ifnull (pc := 9) rfl ?_
      refine q_iload_n (pc := 12) rfl rfl ?_
      refine q_iflt (pc := 13) rfl (fun h13 => ?_) (fun h13 => ?_)
      · first
        | (exfalso; omega (config := {splitDisjunctions := false}))
        | skip
          refine q_bipush (pc := 32) rfl (-2) (by decide) ?_
          refine q_iret (pc := 34) rfl (rfl) ?_
          exact kk _ _ _ e1.2.symm H A K sf.rf
      · first
        | (exfalso; omega (config := {splitDisjunctions := false}))
        | skip
          refine q_iload_n (pc := 16) rfl rfl ?_
          refine q_iconst (pc := 17) rfl (nI 3) (by decide) ?_
          refine q_icmpge (pc := 18) rfl (fun h18 => ?_) (fun h18 => ?_)
          · first
            | (exfalso; omega (config := {splitDisjunctions := false}))
            | skip
              refine q_bipush (pc := 32) rfl (-2) (by decide) ?_
              refine q_iret (pc := 34) rfl (rfl) ?_
              exact kk _ _ _ e1.2.symm H A K sf.rf
          · exact (g.elim h13 h18).elim
    · refine q_astore (pc := 5) [_, _, _, _, _, _, _, _, _, _] rfl rfl (Nat.le_of_ble_eq_true rfl) rfl ?_
      refine q_aload (pc := 7) rfl rfl rfl ?_
      refine q_ifnullN (pc := 9) rfl ?_
      refine q_bipush (pc := 32) rfl (-2) (by decide) ?_
      refine q_iret (pc := 34) rfl (rfl) ?_
      exact kk _ _ _ e1.2.symm H A K sf.rf
theorem nar0 : ∀ v, v < 10 → narS 0 (nI v) = nI v := by decide
def flF (C : Nat → Nat → Int32) (E : Nat → Nat → Nat) (β : Nat → Nat) (p n : Nat) : Nat → Int32 := fun i => if i < n then nI (lyN C E β p i) else 0
def o_film (β : Nat → Nat) (x y z : Int32) : Int32 := if rg 4 x < 4 ∧ rg (β 88) y < β 88 ∧ rg 37 z < 37 then nI (rg 37 z) else -2
def n_film (C : Nat → Nat → Int32) (E : Nat → Nat → Nat) (σ : Nat → Int32) (sz : Nat → Nat) (cl : Nat → Nat → Int32) (β : Nat → Nat) (x y z : Int32) : shT := if rg 4 x < 4 ∧ rg (β 88) y < β 88 ∧ rg 37 z < 37 then (up1 σ (rg 4 x) 0, up1 sz (rg 4 x) (rg 37 z), up1 cl (rg 4 x) (flF C E β (rg (β 88) y) (rg 37 z))) else (σ, sz, cl)
theorem c_filmL (hd : 20 ≤ d) {s0 : mx_St} {q N : Nat} {σ' : Nat → Int32} {sz' : Nat → Nat} (hl : 51 ≤ P.1) (hq : q < 4) (hp : p < 4) (hN : N ≤ 36) (hσ : σ' q = 0) (hsz : sz' q = N) (KK : bok β P.2.1) (kk : ∀ h' s', HR P h' s' → CA P s' β κ ik tp tz C E σ' sz' (up1 cl q (flF C E β p N)) → sf s0 s' cS → Q (some (.int (nI N))) h') (n i : Nat) (hi : i + n = N) (h : mx_H) (s : mx_St) (H : HR P h s) (A : CA P s β κ ik tp tz C E σ' sz' (up1 cl q (flF C E β p i))) (hs : sf s0 s cS) : wq d 112 50 [some (.ref 0), some (.int x), some (.int y), some (.int (nI N)), some (.ref (43 + 2 * q)), some (.ref (1 + 4 + p)), some (.int (nI i))] [] h Q := by
  obtain ⟨g1, g2, g3⟩ := A.2.2.2.2.2.2 q hq
  rw [hsz] at g2
  rw [hσ] at g1
  match n, hi with
  | 0, hi =>
    obtain rfl : i = N := by omega
    refine q_iload (pc := 50) rfl rfl ?_
    refine q_iload_n (pc := 52) rfl rfl ?_
    first | refine n_icmpge (pc := 53) rfl (by omega) (by omega) (fun h53 => ?_) (fun h53 => ?_) | refine q_icmpge (pc := 53) rfl (fun h53 => ?_) (fun h53 => ?_)
    · refine q_iload_n (pc := 84) rfl rfl ?_
      refine q_iret (pc := 85) rfl (rfl) ?_
      exact kk _ _ H A hs
    · first | (exfalso; omega) | exact absurd h53 (nI_pos (by omega)) | exact absurd (nI_pos' (by omega)) h53
  | n + 1, hi =>
    refine q_iload (pc := 50) rfl rfl ?_
    refine q_iload_n (pc := 52) rfl rfl ?_
    first | refine n_icmpge (pc := 53) rfl (by omega) (by omega) (fun h53 => ?_) (fun h53 => ?_) | refine q_icmpge (pc := 53) rfl (fun h53 => ?_) (fun h53 => ?_)
    · first | (exfalso; omega) | exact absurd h53 (nI_pos (by omega)) | exact absurd (nI_pos' (by omega)) h53
    · refine q_aload (pc := 56) rfl rfl rfl ?_
      refine q_iload (pc := 58) rfl rfl ?_
      refine q_aload_n (pc := 60) rfl rfl rfl ?_
      refine q_getf (pc := 61) rfl (by first | exact HR.X' H hl | exact HR.S2 H hl (isS_of hq) g2 | exact HR.S H hl (isS_of hq) | exact HR.B H hl isB1 A.1 | exact HR.R H hl A.2.2.2.2.2.1.1 | exact HR.O H hl isB1 A.1 hp | exact HR.c H hl _ rfl) rfl rfl ?_
      refine q_aload_n (pc := 64) rfl rfl rfl ?_
      refine q_getf (pc := 65) rfl (by first | exact HR.X' H hl | exact HR.S2 H hl (isS_of hq) g2 | exact HR.S H hl (isS_of hq) | exact HR.B H hl isB1 A.1 | exact HR.R H hl A.2.2.2.2.2.1.1 | exact HR.O H hl isB1 A.1 hp | exact HR.c H hl _ rfl) rfl rfl ?_
      refine q_aload (pc := 68) rfl rfl rfl ?_
      refine q_iload (pc := 70) rfl rfl ?_
      refine q_callV (pc := 72) _ rfl rfl rfl (by first | exact HR.X' H hl | exact HR.S2 H hl (isS_of hq) g2 | exact HR.S H hl (isS_of hq) | exact HR.B H hl isB1 A.1 | exact HR.R H hl A.2.2.2.2.2.1.1 | exact HR.O H hl isB1 A.1 hp | exact HR.c H hl _ rfl) rfl (Nat.le_of_ble_eq_true rfl) (by omega) _ rfl ?_
      refine c_laysOf (by omega) H hl isB1 A.1 A.2.2.2.2.2.1 KK hp (by omega) ?_
      intro h s1 H k1
      obtain ⟨A, k2⟩ := th9 A k1 (fun i g => Or.inr (by omega))
      obtain ⟨g1, g2, g3⟩ := A.2.2.2.2.2.2 q hq
      rw [hsz] at g2
      rw [hσ] at g1
      refine q_callV (pc := 75) _ rfl rfl rfl (by first | exact HR.X' H hl | exact HR.S2 H hl (isS_of hq) g2 | exact HR.S H hl (isS_of hq) | exact HR.B H hl isB1 A.1 | exact HR.R H hl A.2.2.2.2.2.1.1 | exact HR.O H hl isB1 A.1 hp | exact HR.c H hl _ rfl) rfl (Nat.le_of_ble_eq_true rfl) (by omega) _ rfl ?_
      refine c_put H hl (isS_of hq) g2 (by omega) (by omega) ?_
      intro h H
      rw [g1] at H
      first | refine n_iinc (pc := 78) rfl [_, _, _, _, _, _, _] 1 (by decide) rfl rfl ?_ | refine q_iinc (pc := 78) [_, _, _, _, _, _, _] (1) rfl rfl (by decide) rfl ?_
      refine q_goto (pc := 81) rfl ?_
      have lb := lyG_le C E (β (72 + 4 * p)) (β (72 + 4 * p + 1)) (β 90) i (KK.1 (36 + i) (by omega))
      have AA := A.sh (σ' := σ') (sz' := sz') (cl' := up1 cl q (flF C E β p (i + 1))) hq (sf.rf.st (s1 := s1) (j := i) (v := narS 0 (nI (lyN C E β p i))) (b := 43 + 2 * q + 1) (by omega)) ((congrFun (stv_n (by omega)) _).trans (g1.trans hσ.symm)) ((congrFun (stv_n (by omega)) _).trans (g2.trans (congrArg nI hsz.symm))) (fun j hj => by
        rw [up1_s, stv_s]
        unfold upd flF
        split
        · rename_i e
          subst e
          rw [if_pos (by omega)]
          exact nar0 _ (by unfold lyN; omega)
        · rename_i e
          rw [g3 j hj, up1_s]
          unfold flF
          by_cases e2 : j < i
          · rw [if_pos e2, if_pos (by omega)]
          · rw [if_neg e2, if_neg (by omega)]) (fun p hp => ⟨rfl, rfl, (up1_n hp).trans (up1_n hp).symm⟩)
      exact c_filmL hd hl hq hp hN hσ hsz KK kk n (i + 1) (by omega) h _ H AA.1 ((hs.tr k2).tr AA.2)
termination_by n
theorem c_film (hd : 20 ≤ d) (H : HR P h s) (hl : 51 ≤ P.1) (A : CA P s β κ ik tp tz C E σ sz cl) (K : AOK P.2.1 β κ ik tp tz σ sz) (kk : ∀ h' s' T', T' = n_film C E σ sz cl β x y z → HR P h' s' → CA P s' β κ ik tp tz C E T'.1 T'.2.1 T'.2.2 → AOK P.2.1 β κ ik tp tz T'.1 T'.2.1 → sf s s' cS → Q (some (.int (o_film β x y z))) h') : wc d 112 [.ref 0, .int x, .int y, .int z] h Q := by
  have K4 := K.1.2.2.1
  have KK := K.1
  have hT := A.2.2.2.2.2.1
  have hSh := A.2.2.2.2.2.2
  have kSh := K.2.2.2.2.2.2.2
  rcases rgc 37 (by decide) z with ⟨w, hw, rfl, z1⟩ | ⟨g, z1⟩
  ·
    refine wc.go [_, _, _, _, _, _, _] rfl ?_
    refine q_aload_n (pc := 0) rfl rfl rfl ?_
    refine q_iload_n (pc := 1) rfl rfl ?_
    refine q_callV (pc := 2) _ rfl rfl rfl (by first | exact HR.X' H hl | exact HR.S2 H hl (isS_of hq) g2 | exact HR.S H hl (isS_of hq) | exact HR.B H hl isB1 A.1 | exact HR.R H hl A.2.2.2.2.2.1.1 | exact HR.O H hl isB1 A.1 hp | exact HR.c H hl _ rfl) rfl (Nat.le_of_ble_eq_true rfl) (by omega) _ rfl ?_
    refine c_sheetAt H hl (fun q hq hxq => ?_) (fun gq => ?_)
    · subst hxq
      have zs : Hd (rg 4 (nI q) = q) := rg_in hq (by decide)
      refine q_astore (pc := 5) [_, _, _, _, _, _, _] rfl rfl (Nat.le_of_ble_eq_true rfl) rfl ?_
      refine q_aload_n (pc := 7) rfl rfl rfl ?_
      refine q_getf (pc := 8) rfl (by first | exact HR.X' H hl | exact HR.S2 H hl (isS_of hq) g2 | exact HR.S H hl (isS_of hq) | exact HR.B H hl isB1 A.1 | exact HR.R H hl A.2.2.2.2.2.1.1 | exact HR.O H hl isB1 A.1 hp | exact HR.c H hl _ rfl) rfl rfl ?_
      refine q_iload_n (pc := 11) rfl rfl ?_
      refine q_callV (pc := 12) _ rfl rfl rfl (by first | exact HR.X' H hl | exact HR.S2 H hl (isS_of hq) g2 | exact HR.S H hl (isS_of hq) | exact HR.B H hl isB1 A.1 | exact HR.R H hl A.2.2.2.2.2.1.1 | exact HR.O H hl isB1 A.1 hp | exact HR.c H hl _ rfl) rfl (Nat.le_of_ble_eq_true rfl) (by omega) _ rfl ?_
      refine c_member H hl isB1 A.1 (fun p hp hpβ hxp => ?_) (fun gp => ?_) K4
      · subst hxp
        have zp : Hd (rg (β 88) (nI p) = p) := rg_in hpβ (by omega)
        refine q_astore (pc := 15) [_, _, _, _, _, _, _] rfl rfl (Nat.le_of_ble_eq_true rfl) rfl ?_
        refine q_aload (pc := 17) rfl rfl rfl ?_
        refine q_ifnull (pc := 19) rfl ?_
        refine q_aload (pc := 22) rfl rfl rfl ?_
        refine q_ifnull (pc := 24) rfl ?_
        refine q_iload_n (pc := 27) rfl rfl ?_
        refine q_iflt (pc := 28) rfl (fun h28 => ?_) (fun h28 => ?_)
        · first | (exfalso; omega) | exact absurd h28 (nI_pos (by omega)) | exact absurd (nI_pos' (by omega)) h28
        · refine q_iload_n (pc := 31) rfl rfl ?_
          refine q_bipush (pc := 32) rfl (nI 36) (by decide) ?_
          first | refine n_icmple (pc := 34) rfl (by omega) (by omega) (fun h34 => ?_) (fun h34 => ?_) | refine q_icmple (pc := 34) rfl (fun h34 => ?_) (fun h34 => ?_)
          · refine q_aload (pc := 40) rfl rfl rfl ?_
            refine q_iconst (pc := 42) rfl (nI 0) (by decide) ?_
            refine q_iload_n (pc := 43) rfl rfl ?_
            refine q_callV (pc := 44) _ rfl rfl rfl (by first | exact HR.X' H hl | exact HR.S2 H hl (isS_of hq) g2 | exact HR.S H hl (isS_of hq) | exact HR.B H hl isB1 A.1 | exact HR.R H hl A.2.2.2.2.2.1.1 | exact HR.O H hl isB1 A.1 hp | exact HR.c H hl _ rfl) rfl (Nat.le_of_ble_eq_true rfl) (by omega) _ rfl ?_
            refine c_sbecome (n := w) (by omega) H hl (isS_of hq) (by omega) ?_
            intro h s1 H k1 f1 f2 f3
            refine q_iconst (pc := 47) rfl (nI 0) (by decide) ?_
            refine q_istore (pc := 48) [_, _, _, _, _, _, _] rfl (Nat.le_of_ble_eq_true rfl) rfl ?_
            have e1 : o_film β (nI q) (nI p) (nI w) = nI w ∧ n_film C E σ sz cl β (nI q) (nI p) (nI w) = (up1 σ q 0, up1 sz q w, up1 cl q (flF C E β p w)) := by
              refine ⟨?_, ?_⟩
              · unfold o_film
                first | rw [zs.out, zp.out, z1.out, if_pos (by omega)] | rw [zs.out, zp.out, z1.out]
              · unfold n_film
                first | rw [zs.out, zp.out, z1.out, if_pos (by omega)] | rw [zs.out, zp.out, z1.out]
            rw [e1.1] at kk
            have AA := A.sh (σ' := up1 σ q 0) (sz' := up1 sz q w) (cl' := up1 cl q (flF C E β p 0)) hq k1 (f1.trans up1_s.symm) (f2.trans (congrArg nI up1_s.symm)) (fun i hi => (f3 i hi).trans (by rw [up1_s]; rfl)) (fun p hp => ⟨up1_n hp, up1_n hp, up1_n hp⟩)
            exact c_filmL hd hl hq hp (by omega) up1_s up1_s KK (fun h' s' H A f => kk h' s' _ e1.2.symm H A (K.sh (q := q) (σ' := up1 σ q 0) (sz' := up1 sz q w) (by rw [up1_s]; omega) (by rw [up1_s]; exact Or.inr (Or.inl rfl)) (fun p hp => ⟨up1_n hp, up1_n hp⟩)) f) w 0 (by omega) h s1 H AA.1 AA.2
          · first | (exfalso; omega) | exact absurd h34 (nI_pos (by omega)) | exact absurd (nI_pos' (by omega)) h34
      · have zp : Hd (rg (β 88) y = β 88) := rg_out gp
        refine q_astore (pc := 15) [_, _, _, _, _, _, _] rfl rfl (Nat.le_of_ble_eq_true rfl) rfl ?_
        refine q_aload (pc := 17) rfl rfl rfl ?_
        refine q_ifnull (pc := 19) rfl ?_
        refine q_aload (pc := 22) rfl rfl rfl ?_
        refine q_ifnullN (pc := 24) rfl ?_
        refine q_bipush (pc := 37) rfl (-2) (by decide) ?_
        refine q_iret (pc := 39) rfl (rfl) ?_
        first
        | (have e1 : o_film β x (nI p) (nI w) = -2 ∧ n_film C E σ sz cl β x (nI p) (nI w) = (σ, sz, cl) := by
             refine ⟨?_, ?_⟩
             · unfold o_film
               first | rw [zs.out, if_neg (by omega)] | rw [zs.out]
             · unfold n_film
               first | rw [zs.out, if_neg (by omega)] | rw [zs.out]
           rw [e1.1] at kk
           exact kk _ _ _ e1.2.symm H A K sf.rf)
        | (have e1 : o_film β x y (nI w) = -2 ∧ n_film C E σ sz cl β x y (nI w) = (σ, sz, cl) := by
             refine ⟨?_, ?_⟩
             · unfold o_film
               first | rw [zs.out, if_neg (by omega)] | rw [zs.out]
             · unfold n_film
               first | rw [zs.out, if_neg (by omega)] | rw [zs.out]
           rw [e1.1] at kk
           exact kk _ _ _ e1.2.symm H A K sf.rf)
        | (have e1 : o_film β (nI q) y (nI w) = -2 ∧ n_film C E σ sz cl β (nI q) y (nI w) = (σ, sz, cl) := by
             refine ⟨?_, ?_⟩
             · unfold o_film
               first | rw [zp.out, if_neg (by omega)] | rw [zp.out]
             · unfold n_film
               first | rw [zp.out, if_neg (by omega)] | rw [zp.out]
           rw [e1.1] at kk
           exact kk _ _ _ e1.2.symm H A K sf.rf)
    · have zs : Hd (rg 4 x = 4) := rg_out gq
      refine q_astore (pc := 5) [_, _, _, _, _, _, _] rfl rfl (Nat.le_of_ble_eq_true rfl) rfl ?_
      refine q_aload_n (pc := 7) rfl rfl rfl ?_
      refine q_getf (pc := 8) rfl (by first | exact HR.X' H hl | exact HR.S2 H hl (isS_of hq) g2 | exact HR.S H hl (isS_of hq) | exact HR.B H hl isB1 A.1 | exact HR.R H hl A.2.2.2.2.2.1.1 | exact HR.O H hl isB1 A.1 hp | exact HR.c H hl _ rfl) rfl rfl ?_
      refine q_iload_n (pc := 11) rfl rfl ?_
      refine q_callV (pc := 12) _ rfl rfl rfl (by first | exact HR.X' H hl | exact HR.S2 H hl (isS_of hq) g2 | exact HR.S H hl (isS_of hq) | exact HR.B H hl isB1 A.1 | exact HR.R H hl A.2.2.2.2.2.1.1 | exact HR.O H hl isB1 A.1 hp | exact HR.c H hl _ rfl) rfl (Nat.le_of_ble_eq_true rfl) (by omega) _ rfl ?_
      refine c_member H hl isB1 A.1 (fun p hp hpβ hxp => ?_) (fun gp => ?_) K4
      · subst hxp
        have zp : Hd (rg (β 88) (nI p) = p) := rg_in hpβ (by omega)
        refine q_astore (pc := 15) [_, _, _, _, _, _, _] rfl rfl (Nat.le_of_ble_eq_true rfl) rfl ?_
        refine q_aload (pc := 17) rfl rfl rfl ?_
        refine q_ifnullN (pc := 19) rfl ?_
        refine q_bipush (pc := 37) rfl (-2) (by decide) ?_
        refine q_iret (pc := 39) rfl (rfl) ?_
        first
        | (have e1 : o_film β x (nI p) (nI w) = -2 ∧ n_film C E σ sz cl β x (nI p) (nI w) = (σ, sz, cl) := by
             refine ⟨?_, ?_⟩
             · unfold o_film
               first | rw [zs.out, if_neg (by omega)] | rw [zs.out]
             · unfold n_film
               first | rw [zs.out, if_neg (by omega)] | rw [zs.out]
           rw [e1.1] at kk
           exact kk _ _ _ e1.2.symm H A K sf.rf)
        | (have e1 : o_film β x y (nI w) = -2 ∧ n_film C E σ sz cl β x y (nI w) = (σ, sz, cl) := by
             refine ⟨?_, ?_⟩
             · unfold o_film
               first | rw [zs.out, if_neg (by omega)] | rw [zs.out]
             · unfold n_film
               first | rw [zs.out, if_neg (by omega)] | rw [zs.out]
           rw [e1.1] at kk
           exact kk _ _ _ e1.2.symm H A K sf.rf)
        | (have e1 : o_film β (nI q) y (nI w) = -2 ∧ n_film C E σ sz cl β (nI q) y (nI w) = (σ, sz, cl) := by
             refine ⟨?_, ?_⟩
             · unfold o_film
               first | rw [zp.out, if_neg (by omega)] | rw [zp.out]
             · unfold n_film
               first | rw [zp.out, if_neg (by omega)] | rw [zp.out]
           rw [e1.1] at kk
           exact kk _ _ _ e1.2.symm H A K sf.rf)
      · have zp : Hd (rg (β 88) y = β 88) := rg_out gp
        refine q_astore (pc := 15) [_, _, _, _, _, _, _] rfl rfl (Nat.le_of_ble_eq_true rfl) rfl ?_
        refine q_aload (pc := 17) rfl rfl rfl ?_
        refine q_ifnullN (pc := 19) rfl ?_
        refine q_bipush (pc := 37) rfl (-2) (by decide) ?_
        refine q_iret (pc := 39) rfl (rfl) ?_
        first
        | (have e1 : o_film β x (nI p) (nI w) = -2 ∧ n_film C E σ sz cl β x (nI p) (nI w) = (σ, sz, cl) := by
             refine ⟨?_, ?_⟩
             · unfold o_film
               first | rw [zs.out, if_neg (by omega)] | rw [zs.out]
             · unfold n_film
               first | rw [zs.out, if_neg (by omega)] | rw [zs.out]
           rw [e1.1] at kk
           exact kk _ _ _ e1.2.symm H A K sf.rf)
        | (have e1 : o_film β x y (nI w) = -2 ∧ n_film C E σ sz cl β x y (nI w) = (σ, sz, cl) := by
             refine ⟨?_, ?_⟩
             · unfold o_film
               first | rw [zs.out, if_neg (by omega)] | rw [zs.out]
             · unfold n_film
               first | rw [zs.out, if_neg (by omega)] | rw [zs.out]
           rw [e1.1] at kk
           exact kk _ _ _ e1.2.symm H A K sf.rf)
        | (have e1 : o_film β (nI q) y (nI w) = -2 ∧ n_film C E σ sz cl β (nI q) y (nI w) = (σ, sz, cl) := by
             refine ⟨?_, ?_⟩
             · unfold o_film
               first | rw [zp.out, if_neg (by omega)] | rw [zp.out]
             · unfold n_film
               first | rw [zp.out, if_neg (by omega)] | rw [zp.out]
           rw [e1.1] at kk
           exact kk _ _ _ e1.2.symm H A K sf.rf)
  · have e1 : o_film β x y z = -2 ∧ n_film C E σ sz cl β x y z = (σ, sz, cl) := by
      unfold o_film n_film
      rw [z1.out, if_neg (by omega), if_neg (by omega)]
      exact ⟨rfl, rfl⟩
    rw [e1.1] at kk
    refine wc.go [_, _, _, _, _, _, _] rfl ?_
    refine q_aload_n (pc := 0) rfl rfl rfl ?_
    refine q_iload_n (pc := 1) rfl rfl ?_
    refine q_callV (pc := 2) _ rfl rfl rfl (by first | exact HR.X' H hl | exact HR.S2 H hl (isS_of hq) g2 | exact HR.S H hl (isS_of hq) | exact HR.B H hl isB1 A.1 | exact HR.R H hl A.2.2.2.2.2.1.1 | exact HR.O H hl isB1 A.1 hp | exact HR.c H hl _ rfl) rfl (Nat.le_of_ble_eq_true rfl) (by omega) _ rfl ?_
    refine c_sheetAt H hl (fun q hq hxq => ?_) (fun gq => ?_)
    · refine q_astore (pc := 5) [_, _, _, _, _, _, _] rfl rfl (Nat.le_of_ble_eq_true rfl) rfl ?_
      refine q_aload_n (pc := 7) rfl rfl rfl ?_
      refine q_getf (pc := 8) rfl (by first | exact HR.X' H hl | exact HR.S2 H hl (isS_of hq) g2 | exact HR.S H hl (isS_of hq) | exact HR.B H hl isB1 A.1 | exact HR.R H hl A.2.2.2.2.2.1.1 | exact HR.O H hl isB1 A.1 hp | exact HR.c H hl _ rfl) rfl rfl ?_
      refine q_iload_n (pc := 11) rfl rfl ?_
      refine q_callV (pc := 12) _ rfl rfl rfl (by first | exact HR.X' H hl | exact HR.S2 H hl (isS_of hq) g2 | exact HR.S H hl (isS_of hq) | exact HR.B H hl isB1 A.1 | exact HR.R H hl A.2.2.2.2.2.1.1 | exact HR.O H hl isB1 A.1 hp | exact HR.c H hl _ rfl) rfl (Nat.le_of_ble_eq_true rfl) (by omega) _ rfl ?_
      refine c_member H hl isB1 A.1 (fun p hp hpβ hxp => ?_) (fun gp => ?_) K4
      · refine q_astore (pc := 15) [_, _, _, _, _, _, _] rfl rfl (Nat.le_of_ble_eq_true rfl) rfl ?_
        refine q_aload (pc := 17) rfl rfl rfl ?_
        refine q_ifnull (pc := 19) rfl ?_
        refine q_aload (pc := 22) rfl rfl rfl ?_
        refine q_ifnull (pc := 24) rfl ?_
        refine q_iload_n (pc := 27) rfl rfl ?_
        refine q_iflt (pc := 28) rfl (fun h28 => ?_) (fun h28 => ?_)
        · first
          | (exfalso; omega (config := {splitDisjunctions := false}))
          | skip
            refine q_bipush (pc := 37) rfl (-2) (by decide) ?_
            refine q_iret (pc := 39) rfl (rfl) ?_
            exact kk _ _ _ e1.2.symm H A K sf.rf
        · first
          | (exfalso; omega (config := {splitDisjunctions := false}))
          | skip
            refine q_iload_n (pc := 31) rfl rfl ?_
            refine q_bipush (pc := 32) rfl (nI 36) (by decide) ?_
            refine q_icmple (pc := 34) rfl (fun h34 => ?_) (fun h34 => ?_)
            · exact (z_out (m := 37) g h28 h34 (by decide)).elim
            · first
              | (exfalso; omega (config := {splitDisjunctions := false}))
              | skip
                refine q_bipush (pc := 37) rfl (-2) (by decide) ?_
                refine q_iret (pc := 39) rfl (rfl) ?_
                exact kk _ _ _ e1.2.symm H A K sf.rf
      · refine q_astore (pc := 15) [_, _, _, _, _, _, _] rfl rfl (Nat.le_of_ble_eq_true rfl) rfl ?_
        refine q_aload (pc := 17) rfl rfl rfl ?_
        refine q_ifnull (pc := 19) rfl ?_
        refine q_aload (pc := 22) rfl rfl rfl ?_
        refine q_ifnullN (pc := 24) rfl ?_
        refine q_bipush (pc := 37) rfl (-2) (by decide) ?_
        refine q_iret (pc := 39) rfl (rfl) ?_
        exact kk _ _ _ e1.2.symm H A K sf.rf
    · refine q_astore (pc := 5) [_, _, _, _, _, _, _] rfl rfl (Nat.le_of_ble_eq_true rfl) rfl ?_
      refine q_aload_n (pc := 7) rfl rfl rfl ?_
      refine q_getf (pc := 8) rfl (by first | exact HR.X' H hl | exact HR.S2 H hl (isS_of hq) g2 | exact HR.S H hl (isS_of hq) | exact HR.B H hl isB1 A.1 | exact HR.R H hl A.2.2.2.2.2.1.1 | exact HR.O H hl isB1 A.1 hp | exact HR.c H hl _ rfl) rfl rfl ?_
      refine q_iload_n (pc := 11) rfl rfl ?_
      refine q_callV (pc := 12) _ rfl rfl rfl (by first | exact HR.X' H hl | exact HR.S2 H hl (isS_of hq) g2 | exact HR.S H hl (isS_of hq) | exact HR.B H hl isB1 A.1 | exact HR.R H hl A.2.2.2.2.2.1.1 | exact HR.O H hl isB1 A.1 hp | exact HR.c H hl _ rfl) rfl (Nat.le_of_ble_eq_true rfl) (by omega) _ rfl ?_
      refine c_member H hl isB1 A.1 (fun p hp hpβ hxp => ?_) (fun gp => ?_) K4
      · refine q_astore (pc := 15) [_, _, _, _, _, _, _] rfl rfl (Nat.le_of_ble_eq_true rfl) rfl ?_
        refine q_aload (pc := 17) rfl rfl rfl ?_
        refine q_ifnullN (pc := 19) rfl ?_
        refine q_bipush (pc := 37) rfl (-2) (by decide) ?_
        refine q_iret (pc := 39) rfl (rfl) ?_
        exact kk _ _ _ e1.2.symm H A K sf.rf
      · refine q_astore (pc := 15) [_, _, _, _, _, _, _] rfl rfl (Nat.le_of_ble_eq_true rfl) rfl ?_
        refine q_aload (pc := 17) rfl rfl rfl ?_
        refine q_ifnullN (pc := 19) rfl ?_
        refine q_bipush (pc := 37) rfl (-2) (by decide) ?_
        refine q_iret (pc := 39) rfl (rfl) ?_
        exact kk _ _ _ e1.2.symm H A K sf.rf
/-- the minutes of a tour -/
def trN (C : Nat → Nat → Int32) (E : Nat → Nat → Nat) (p : Nat) (F : Nat → Int32) : Nat → Nat → (Nat → Nat) → Nat → Nat
  | 0, _, _, sum => sum
  | m + 1, i, β, sum => trN C E p F m (i + 1) (layb C E β p (F i).toNatClampNeg) (sum + mnN C E β p (F i).toNatClampNeg)
def onB (F : Nat → Int32) (n : Nat) : Bool := decide ((∀ i, i < n → rg 36 (F i) < 36) ∧ ∀ j, j < n → ∀ i, i < j → F i ≠ F j)
theorem onB_iff {F : Nat → Int32} {n : Nat} : onB F n = true ↔ onceN F n := by
  unfold onB
  rw [decide_eq_true_iff]
  constructor
  · intro h
    refine ⟨fun i hi => ?_, fun i j hij hj => h.2 j hj i hij⟩
    rcases rgc 36 (by decide) (F i) with ⟨w, hw, e, _⟩ | ⟨g, z⟩
    · exact ⟨w, hw, e⟩
    · have := h.1 i hi
      rw [z.out] at this
      exact absurd this (by decide)
  · intro h
    refine ⟨fun i hi => ?_, fun j hj i hij => h.2 i j hij hj⟩
    obtain ⟨c, hc, e⟩ := h.1 i hi
    rw [e, rg_in hc (by decide)]
    exact hc
def o_tour (C : Nat → Nat → Int32) (E : Nat → Nat → Nat) (σ : Nat → Int32) (sz : Nat → Nat) (cl : Nat → Nat → Int32) (β : Nat → Nat) (x y : Int32) : Int32 := if rg 4 x < 4 ∧ rg (β 88) y < β 88 then (if σ (rg 4 x) = -1 then -11 else if onB (cl (rg 4 x)) (sz (rg 4 x)) = true then nI (trN C E (rg (β 88) y) (cl (rg 4 x)) (sz (rg 4 x)) 0 β 0) else -2) else -2
theorem onceN_c {F G : Nat → Int32} {n : Nat} (h : ∀ i, i < n → F i = G i) (o : onceN F n) : onceN G n := by
  refine ⟨fun i hi => ?_, fun i j hij hj => ?_⟩
  · rw [← h i hi]
    exact o.1 i hi
  · rw [← h i (by omega), ← h j hj]
    exact o.2 i j hij hj
theorem c_tourL (hd : 20 ≤ d) {s0 : mx_St} {q N : Nat} {γ0 : Nat → Nat} (hl : 51 ≤ P.1) (hq : q < 4) (hp : p < 4) (hN : sz q = N) (h40 : N ≤ 40) (ho : onceN (cl q) N) (r : Nat) (kk : ∀ h' s', HR P h' s' → CA P s' β κ ik tp tz C E σ sz cl → sf s0 s' cS → Q (some (.int (nI r))) h') (n i sum : Nat) (hi : i + n = N) (γ : Nat → Nat) (hγ : bok γ P.2.1) (hr : trN C E p (cl q) n i γ sum = r) (h : mx_H) (s : mx_St) (H : HR P h s) (A : CA P s β κ ik tp tz C E σ sz cl) (hβ : BT s 9 γ) (hs : sf s0 s cS) : wq d 97 65 [some (.ref 0), some (.int x), some (.int y), some (.ref (43 + 2 * q)), some (.ref (9 + 4 + p)), some (.int (nI sum)), some (.int (nI i))] [] h Q := by
  obtain ⟨g1, g2, g3⟩ := A.2.2.2.2.2.2 q hq
  rw [hN] at g2
  match n, hi, hr with
  | 0, hi, hr =>
    subst hr
    refine q_iload (pc := 65) rfl rfl ?_
    refine q_aload_n (pc := 67) rfl rfl rfl ?_
    refine q_getf (pc := 68) rfl (by first | exact HR.X' H hl | exact HR.S2 H hl (isS_of hq) g2 | exact HR.S H hl (isS_of hq) | exact HR.B H hl isB9 hβ | exact HR.B H hl isB1 A.1 | exact HR.R H hl A.2.2.2.2.2.1.1 | exact HR.O H hl isB9 hβ hp | exact HR.c H hl _ rfl) rfl rfl ?_
    first | refine n_icmpge (pc := 71) rfl (by omega) (by omega) (fun h71 => ?_) (fun h71 => ?_) | refine q_icmpge (pc := 71) rfl (fun h71 => ?_) (fun h71 => ?_)
    · refine q_iload (pc := 104) rfl rfl ?_
      refine q_iret (pc := 106) rfl (rfl) ?_
      exact kk _ _ H A hs
    · first | (exfalso; omega) | exact absurd h71 (nI_pos (by omega)) | exact absurd (nI_pos' (by omega)) h71
  | n + 1, hi, hr =>
    obtain ⟨c0, hc0, hF⟩ := ho.1 i (by omega)
    unfold trN at hr
    rw [hF, x_cl (by omega)] at hr
    refine q_iload (pc := 65) rfl rfl ?_
    refine q_aload_n (pc := 67) rfl rfl rfl ?_
    refine q_getf (pc := 68) rfl (by first | exact HR.X' H hl | exact HR.S2 H hl (isS_of hq) g2 | exact HR.S H hl (isS_of hq) | exact HR.B H hl isB9 hβ | exact HR.B H hl isB1 A.1 | exact HR.R H hl A.2.2.2.2.2.1.1 | exact HR.O H hl isB9 hβ hp | exact HR.c H hl _ rfl) rfl rfl ?_
    first | refine n_icmpge (pc := 71) rfl (by omega) (by omega) (fun h71 => ?_) (fun h71 => ?_) | refine q_icmpge (pc := 71) rfl (fun h71 => ?_) (fun h71 => ?_)
    · first | (exfalso; omega) | exact absurd h71 (nI_pos (by omega)) | exact absurd (nI_pos' (by omega)) h71
    · refine q_iload (pc := 74) rfl rfl ?_
      refine q_aload_n (pc := 76) rfl rfl rfl ?_
      refine q_getf (pc := 77) rfl (by first | exact HR.X' H hl | exact HR.S2 H hl (isS_of hq) g2 | exact HR.S H hl (isS_of hq) | exact HR.B H hl isB9 hβ | exact HR.B H hl isB1 A.1 | exact HR.R H hl A.2.2.2.2.2.1.1 | exact HR.O H hl isB9 hβ hp | exact HR.c H hl _ rfl) rfl rfl ?_
      refine q_aload_n (pc := 80) rfl rfl rfl ?_
      refine q_getf (pc := 81) rfl (by first | exact HR.X' H hl | exact HR.S2 H hl (isS_of hq) g2 | exact HR.S H hl (isS_of hq) | exact HR.B H hl isB9 hβ | exact HR.B H hl isB1 A.1 | exact HR.R H hl A.2.2.2.2.2.1.1 | exact HR.O H hl isB9 hβ hp | exact HR.c H hl _ rfl) rfl rfl ?_
      refine q_aload (pc := 84) rfl rfl rfl ?_
      refine q_aload_n (pc := 86) rfl rfl rfl ?_
      refine q_iload (pc := 87) rfl rfl ?_
      refine q_callV (pc := 89) _ rfl rfl rfl (by first | exact HR.X' H hl | exact HR.S2 H hl (isS_of hq) g2 | exact HR.S H hl (isS_of hq) | exact HR.B H hl isB9 hβ | exact HR.B H hl isB1 A.1 | exact HR.R H hl A.2.2.2.2.2.1.1 | exact HR.O H hl isB9 hβ hp | exact HR.c H hl _ rfl) rfl (Nat.le_of_ble_eq_true rfl) (by omega) _ rfl ?_
      refine c_item H hl (isS_of hq) g2 h40 (by omega) ?_
      rw [g3 i (by omega), hF]
      refine q_callV (pc := 92) _ rfl rfl rfl (by first | exact HR.X' H hl | exact HR.S2 H hl (isS_of hq) g2 | exact HR.S H hl (isS_of hq) | exact HR.B H hl isB9 hβ | exact HR.B H hl isB1 A.1 | exact HR.R H hl A.2.2.2.2.2.1.1 | exact HR.O H hl isB9 hβ hp | exact HR.c H hl _ rfl) rfl (Nat.le_of_ble_eq_true rfl) (by omega) _ rfl ?_
      refine c_lay (by omega) H hl isB9 hβ A.2.2.2.2.2.1 hγ hp hc0 ?_
      intro h s1 H hβ hT k1
      obtain ⟨A, k2⟩ := th9 A k1 (fun i g => by omega)
      first | refine n_iadd (pc := 95) rfl ?_ | refine q_iadd (pc := 95) rfl ?_
      refine q_istore (pc := 96) [_, _, _, _, _, _, _] rfl (Nat.le_of_ble_eq_true rfl) rfl ?_
      first | refine n_iinc (pc := 98) rfl [_, _, _, _, _, _, _] 1 (by decide) rfl rfl ?_ | refine q_iinc (pc := 98) [_, _, _, _, _, _, _] (1) rfl rfl (by decide) rfl ?_
      refine q_goto (pc := 101) rfl ?_
      exact c_tourL (γ0 := γ0) hd hl hq hp hN h40 ho r kk n (i + 1) _ (by omega) _ (bok_lay hγ hp hc0) hr h _ H A hβ (hs.tr k2)
termination_by n
theorem c_tour (hd : 20 ≤ d) (H : HR P h s) (hl : 51 ≤ P.1) (A : CA P s β κ ik tp tz C E σ sz cl) (K : AOK P.2.1 β κ ik tp tz σ sz) (kk : ∀ h' s', HR P h' s' → CA P s' β κ ik tp tz C E σ sz cl → sf s s' cS → Q (some (.int (o_tour C E σ sz cl β x y))) h') : wc d 97 [.ref 0, .int x, .int y] h Q := by
  have K4 := K.1.2.2.1
  have KK := K.1
  have hT := A.2.2.2.2.2.1
  have hSh := A.2.2.2.2.2.2
  have kSh := K.2.2.2.2.2.2.2
  refine wc.go [_, _, _, _, _, _, _] rfl ?_
  refine q_aload_n (pc := 0) rfl rfl rfl ?_
  refine q_iload_n (pc := 1) rfl rfl ?_
  refine q_callV (pc := 2) _ rfl rfl rfl (by first | exact HR.X' H hl | exact HR.S2 H hl (isS_of hq) g2 | exact HR.S H hl (isS_of hq) | exact HR.B H hl isB9 hβ | exact HR.B H hl isB1 A.1 | exact HR.R H hl A.2.2.2.2.2.1.1 | exact HR.O H hl isB9 hβ hp | exact HR.c H hl _ rfl) rfl (Nat.le_of_ble_eq_true rfl) (by omega) _ rfl ?_
  refine c_sheetAt H hl (fun q hq hxq => ?_) (fun gq => ?_)
  · subst hxq
    have zs : Hd (rg 4 (nI q) = q) := rg_in hq (by decide)
    refine q_astore_n (pc := 5) [_, _, _, _, _, _, _] rfl rfl (Nat.le_of_ble_eq_true rfl) rfl ?_
    refine q_aload_n (pc := 6) rfl rfl rfl ?_
    refine q_getf (pc := 7) rfl (by first | exact HR.X' H hl | exact HR.S2 H hl (isS_of hq) g2 | exact HR.S H hl (isS_of hq) | exact HR.B H hl isB9 hβ | exact HR.B H hl isB1 A.1 | exact HR.R H hl A.2.2.2.2.2.1.1 | exact HR.O H hl isB9 hβ hp | exact HR.c H hl _ rfl) rfl rfl ?_
    refine q_aload_n (pc := 10) rfl rfl rfl ?_
    refine q_getf (pc := 11) rfl (by first | exact HR.X' H hl | exact HR.S2 H hl (isS_of hq) g2 | exact HR.S H hl (isS_of hq) | exact HR.B H hl isB9 hβ | exact HR.B H hl isB1 A.1 | exact HR.R H hl A.2.2.2.2.2.1.1 | exact HR.O H hl isB9 hβ hp | exact HR.c H hl _ rfl) rfl rfl ?_
    refine q_callV (pc := 14) _ rfl rfl rfl (by first | exact HR.X' H hl | exact HR.S2 H hl (isS_of hq) g2 | exact HR.S H hl (isS_of hq) | exact HR.B H hl isB9 hβ | exact HR.B H hl isB1 A.1 | exact HR.R H hl A.2.2.2.2.2.1.1 | exact HR.O H hl isB9 hβ hp | exact HR.c H hl _ rfl) rfl (Nat.le_of_ble_eq_true rfl) (by omega) _ rfl ?_
    refine c_become (by omega) hl H isB9 isB1 (by decide) A.1 ?_
    intro h s1 H hβ k0
    obtain ⟨A, k1⟩ := th9 A k0 (fun i g => Or.inl (by omega))
    have hT := A.2.2.2.2.2.1
    refine q_aload_n (pc := 17) rfl rfl rfl ?_
    refine q_getf (pc := 18) rfl (by first | exact HR.X' H hl | exact HR.S2 H hl (isS_of hq) g2 | exact HR.S H hl (isS_of hq) | exact HR.B H hl isB9 hβ | exact HR.B H hl isB1 A.1 | exact HR.R H hl A.2.2.2.2.2.1.1 | exact HR.O H hl isB9 hβ hp | exact HR.c H hl _ rfl) rfl rfl ?_
    refine q_iload_n (pc := 21) rfl rfl ?_
    refine q_callV (pc := 22) _ rfl rfl rfl (by first | exact HR.X' H hl | exact HR.S2 H hl (isS_of hq) g2 | exact HR.S H hl (isS_of hq) | exact HR.B H hl isB9 hβ | exact HR.B H hl isB1 A.1 | exact HR.R H hl A.2.2.2.2.2.1.1 | exact HR.O H hl isB9 hβ hp | exact HR.c H hl _ rfl) rfl (Nat.le_of_ble_eq_true rfl) (by omega) _ rfl ?_
    refine c_member H hl isB9 hβ (fun p hp hpβ hxp => ?_) (fun gp => ?_) K4
    · subst hxp
      have zp : Hd (rg (β 88) (nI p) = p) := rg_in hpβ (by omega)
      refine q_astore (pc := 25) [_, _, _, _, _, _, _] rfl rfl (Nat.le_of_ble_eq_true rfl) rfl ?_
      refine q_aload_n (pc := 27) rfl rfl rfl ?_
      refine q_ifnull (pc := 28) rfl ?_
      refine q_aload (pc := 31) rfl rfl rfl ?_
      refine q_ifnonnull (pc := 33) rfl ?_
      refine q_aload_n (pc := 39) rfl rfl rfl ?_
      refine q_callV (pc := 40) _ rfl rfl rfl (by first | exact HR.X' H hl | exact HR.S2 H hl (isS_of hq) g2 | exact HR.S H hl (isS_of hq) | exact HR.B H hl isB9 hβ | exact HR.B H hl isB1 A.1 | exact HR.R H hl A.2.2.2.2.2.1.1 | exact HR.O H hl isB9 hβ hp | exact HR.c H hl _ rfl) rfl (Nat.le_of_ble_eq_true rfl) (by omega) _ rfl ?_
      obtain ⟨g1, g2, g3⟩ := A.2.2.2.2.2.2 q hq
      obtain ⟨k40, kσ⟩ := kSh q hq
      refine c_isThere H hl (isS_of hq) (fun gs => ?_) (fun gs => ?_)
      · rw [g1] at gs
        refine q_ifne (pc := 43) rfl (fun _ => ?_) (fun z => absurd z (by decide))
        refine q_aload_n (pc := 49) rfl rfl rfl ?_
        refine q_callV (pc := 50) _ rfl rfl rfl (by first | exact HR.X' H hl | exact HR.S2 H hl (isS_of hq) g2 | exact HR.S H hl (isS_of hq) | exact HR.B H hl isB9 hβ | exact HR.B H hl isB1 A.1 | exact HR.R H hl A.2.2.2.2.2.1.1 | exact HR.O H hl isB9 hβ hp | exact HR.c H hl _ rfl) rfl (Nat.le_of_ble_eq_true rfl) (by omega) _ rfl ?_
        refine c_once (by omega) H hl (isS_of hq) g2 k40 (fun go => ?_) (fun go => ?_)
        · have go : onceN (cl q) (sz q) := onceN_c (fun i hi => g3 i (by omega)) go
          refine q_ifne (pc := 53) rfl (fun _ => ?_) (fun z => absurd z (by decide))
          refine q_iconst (pc := 59) rfl (nI 0) (by decide) ?_
          refine q_istore (pc := 60) [_, _, _, _, _, _, _] rfl (Nat.le_of_ble_eq_true rfl) rfl ?_
          refine q_iconst (pc := 62) rfl (nI 0) (by decide) ?_
          refine q_istore (pc := 63) [_, _, _, _, _, _, _] rfl (Nat.le_of_ble_eq_true rfl) rfl ?_
          have e1 : o_tour C E σ sz cl β (nI q) (nI p) = nI (trN C E p (cl q) (sz q) 0 β 0) := by
            unfold o_tour
            rw [zs.out, zp.out, if_pos (by omega), if_neg gs, if_pos (onB_iff.mpr go)]
          rw [e1] at kk
          exact c_tourL (γ0 := β) hd hl hq hp rfl k40 go _ kk _ 0 0 (by omega) β KK rfl h _ H A hβ k1
        · have go : ¬ onceN (cl q) (sz q) := fun e => go (onceN_c (fun i hi => (g3 i (by omega)).symm) e)
          refine q_ifne (pc := 53) rfl (fun z => absurd z (by decide)) (fun _ => ?_)
          refine q_bipush (pc := 56) rfl (-2) (by decide) ?_
          refine q_iret (pc := 58) rfl (rfl) ?_
          refine eqQ (v' := o_tour C E σ sz cl β (nI q) (nI p)) ?_ (kk _ _ H A k1)
          unfold o_tour
          rw [zs.out, zp.out, if_pos (by omega), if_neg gs, if_neg (fun e => go (onB_iff.mp e))]
      · rw [g1] at gs
        refine q_ifne (pc := 43) rfl (fun z => absurd z (by decide)) (fun _ => ?_)
        refine q_bipush (pc := 46) rfl (-11) (by decide) ?_
        refine q_iret (pc := 48) rfl (rfl) ?_
        refine eqQ (v' := o_tour C E σ sz cl β (nI q) (nI p)) ?_ (kk _ _ H A k1)
        unfold o_tour
        rw [zs.out, zp.out, if_pos (by omega), if_pos gs]
    · have zp : Hd (rg (β 88) y = β 88) := rg_out gp
      refine q_astore (pc := 25) [_, _, _, _, _, _, _] rfl rfl (Nat.le_of_ble_eq_true rfl) rfl ?_
      refine q_aload_n (pc := 27) rfl rfl rfl ?_
      refine q_ifnull (pc := 28) rfl ?_
      refine q_aload (pc := 31) rfl rfl rfl ?_
      refine q_ifnonnullN (pc := 33) rfl ?_
      refine q_bipush (pc := 36) rfl (-2) (by decide) ?_
      refine q_iret (pc := 38) rfl (rfl) ?_
      first
      | (refine eqQ (v' := o_tour C E σ sz cl β x (nI p)) ?_ (kk _ _ H A k1)
         unfold o_tour
         rw [zs.out, if_neg (by omega)])
      | (refine eqQ (v' := o_tour C E σ sz cl β x y) ?_ (kk _ _ H A k1)
         unfold o_tour
         rw [zs.out, if_neg (by omega)])
      | (refine eqQ (v' := o_tour C E σ sz cl β (nI q) y) ?_ (kk _ _ H A k1)
         unfold o_tour
         rw [zp.out, if_neg (by omega)])
  · have zs : Hd (rg 4 x = 4) := rg_out gq
    refine q_astore_n (pc := 5) [_, _, _, _, _, _, _] rfl rfl (Nat.le_of_ble_eq_true rfl) rfl ?_
    refine q_aload_n (pc := 6) rfl rfl rfl ?_
    refine q_getf (pc := 7) rfl (by first | exact HR.X' H hl | exact HR.S2 H hl (isS_of hq) g2 | exact HR.S H hl (isS_of hq) | exact HR.B H hl isB9 hβ | exact HR.B H hl isB1 A.1 | exact HR.R H hl A.2.2.2.2.2.1.1 | exact HR.O H hl isB9 hβ hp | exact HR.c H hl _ rfl) rfl rfl ?_
    refine q_aload_n (pc := 10) rfl rfl rfl ?_
    refine q_getf (pc := 11) rfl (by first | exact HR.X' H hl | exact HR.S2 H hl (isS_of hq) g2 | exact HR.S H hl (isS_of hq) | exact HR.B H hl isB9 hβ | exact HR.B H hl isB1 A.1 | exact HR.R H hl A.2.2.2.2.2.1.1 | exact HR.O H hl isB9 hβ hp | exact HR.c H hl _ rfl) rfl rfl ?_
    refine q_callV (pc := 14) _ rfl rfl rfl (by first | exact HR.X' H hl | exact HR.S2 H hl (isS_of hq) g2 | exact HR.S H hl (isS_of hq) | exact HR.B H hl isB9 hβ | exact HR.B H hl isB1 A.1 | exact HR.R H hl A.2.2.2.2.2.1.1 | exact HR.O H hl isB9 hβ hp | exact HR.c H hl _ rfl) rfl (Nat.le_of_ble_eq_true rfl) (by omega) _ rfl ?_
    refine c_become (by omega) hl H isB9 isB1 (by decide) A.1 ?_
    intro h s1 H hβ k0
    obtain ⟨A, k1⟩ := th9 A k0 (fun i g => Or.inl (by omega))
    have hT := A.2.2.2.2.2.1
    refine q_aload_n (pc := 17) rfl rfl rfl ?_
    refine q_getf (pc := 18) rfl (by first | exact HR.X' H hl | exact HR.S2 H hl (isS_of hq) g2 | exact HR.S H hl (isS_of hq) | exact HR.B H hl isB9 hβ | exact HR.B H hl isB1 A.1 | exact HR.R H hl A.2.2.2.2.2.1.1 | exact HR.O H hl isB9 hβ hp | exact HR.c H hl _ rfl) rfl rfl ?_
    refine q_iload_n (pc := 21) rfl rfl ?_
    refine q_callV (pc := 22) _ rfl rfl rfl (by first | exact HR.X' H hl | exact HR.S2 H hl (isS_of hq) g2 | exact HR.S H hl (isS_of hq) | exact HR.B H hl isB9 hβ | exact HR.B H hl isB1 A.1 | exact HR.R H hl A.2.2.2.2.2.1.1 | exact HR.O H hl isB9 hβ hp | exact HR.c H hl _ rfl) rfl (Nat.le_of_ble_eq_true rfl) (by omega) _ rfl ?_
    refine c_member H hl isB9 hβ (fun p hp hpβ hxp => ?_) (fun gp => ?_) K4
    · subst hxp
      have zp : Hd (rg (β 88) (nI p) = p) := rg_in hpβ (by omega)
      refine q_astore (pc := 25) [_, _, _, _, _, _, _] rfl rfl (Nat.le_of_ble_eq_true rfl) rfl ?_
      refine q_aload_n (pc := 27) rfl rfl rfl ?_
      refine q_ifnullN (pc := 28) rfl ?_
      refine q_bipush (pc := 36) rfl (-2) (by decide) ?_
      refine q_iret (pc := 38) rfl (rfl) ?_
      first
      | (refine eqQ (v' := o_tour C E σ sz cl β x (nI p)) ?_ (kk _ _ H A k1)
         unfold o_tour
         rw [zs.out, if_neg (by omega)])
      | (refine eqQ (v' := o_tour C E σ sz cl β x y) ?_ (kk _ _ H A k1)
         unfold o_tour
         rw [zs.out, if_neg (by omega)])
      | (refine eqQ (v' := o_tour C E σ sz cl β (nI q) y) ?_ (kk _ _ H A k1)
         unfold o_tour
         rw [zp.out, if_neg (by omega)])
    · have zp : Hd (rg (β 88) y = β 88) := rg_out gp
      refine q_astore (pc := 25) [_, _, _, _, _, _, _] rfl rfl (Nat.le_of_ble_eq_true rfl) rfl ?_
      refine q_aload_n (pc := 27) rfl rfl rfl ?_
      refine q_ifnullN (pc := 28) rfl ?_
      refine q_bipush (pc := 36) rfl (-2) (by decide) ?_
      refine q_iret (pc := 38) rfl (rfl) ?_
      first
      | (refine eqQ (v' := o_tour C E σ sz cl β x (nI p)) ?_ (kk _ _ H A k1)
         unfold o_tour
         rw [zs.out, if_neg (by omega)])
      | (refine eqQ (v' := o_tour C E σ sz cl β x y) ?_ (kk _ _ H A k1)
         unfold o_tour
         rw [zs.out, if_neg (by omega)])
      | (refine eqQ (v' := o_tour C E σ sz cl β (nI q) y) ?_ (kk _ _ H A k1)
         unfold o_tour
         rw [zp.out, if_neg (by omega)])
end P34
