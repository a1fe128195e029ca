/-! ===== the reference: the sheets ===== -/
section P54
variable {d k pc a i j c p b t n m part q : Nat} {v : Int} {L L' : mx_L} {st r : List Value} {P : mx_Pm} {h : mx_H} {s : mx_St} {Q : Option Value → mx_H → Prop} {x y w z u : Int32} {β κ : Nat → Nat} {C : Nat → Nat → Int32} {E : Nat → Nat → Nat} {ik tz : Nat} {tp : Nat → Nat} {σ : Nat → Int32} {sz : Nat → Nat} {cl : Nat → Nat → Int32}
def hS (i : Nat) : Prop := 54 ≤ i ∧ i < 75
def sS (i : Nat) : Prop := i = 70 ∨ i = 71 ∨ i = 72
theorem MK.sh {s s' : mx_St} {n : Nat} {σ' : Nat → Int32} {sz' : Nat → Nat} {cl' : Nat → Nat → Int32} (M : MK s n κ ik tp tz C E σ sz cl) (f : sf s s' sS) (hq : ∀ q, q < 4 → s' 70 q = σ' q ∧ s' 71 q = nI (sz' q) ∧ ∀ i, i < 40 → s' 72 (40 * q + i) = cl' q i) : MK s' n κ ik tp tz C E σ' sz' cl' := by
  obtain ⟨h1, h2, h3, h4, ⟨h5, h5', h5''⟩, h6, h7, h8⟩ := M
  have e : ∀ i, ¬ sS i → s' i = s i := fun i hi => f i hi
  refine ⟨fun i hi => (congrFun (e 56 (by unfold sS; omega)) _).trans (h1 i hi), (congrFun (e 54 (by unfold sS; omega)) _).trans h2, fun i hi => (congrFun (e 58 (by unfold sS; omega)) _).trans (h3 i hi), (congrFun (e 54 (by unfold sS; omega)) _).trans h4, ⟨(congrFun (e 54 (by unfold sS; omega)) _).trans h5, h5', fun t ht => ?_⟩, hq, fun k hk i hi => (congrFun (e 61 (by unfold sS; omega)) _).trans (h7 k hk i hi), fun i hi => (congrFun (e 74 (by unfold sS; omega)) _).trans (h8 i hi)⟩
  obtain ⟨g1, g2, g3⟩ := h5'' t ht
  exact ⟨fun i hi => (congrFun (e 59 (by unfold sS; omega)) _).trans (g1 i hi), fun p hp => (congrFun (e 60 (by unfold sS; omega)) _).trans (g2 p hp), g3⟩
def SQ (s : mx_St) (σ : Nat → Int32) (sz : Nat → Nat) (cl : Nat → Nat → Int32) : Prop := ∀ q, q < 4 → s 70 q = σ q ∧ s 71 q = nI (sz q) ∧ ∀ i, i < 40 → s 72 (40 * q + i) = cl q i
theorem isT_in {y : Int32} : (-1 ≤ y ∧ y ≤ nI 2) ↔ isT y := by
  constructor
  · rintro ⟨h1, h2⟩
    exact Classical.byContradiction (fun h => isσ_n h (Int32.not_lt.mpr h1) (fun g => absurd (Int32.le_trans g h2) (by decide)))
  · rintro (rfl | rfl | rfl | rfl) <;> decide
theorem m_zeroL {q : Nat} {z2 z3 : Int32} {z1 : Option Value} (hl : 75 ≤ P.1) (hq : q < 4) {s0 : mx_St} (kk : ∀ h' s', HR P h' s' → sf s0 s' (fun i => i = 72) → (∀ i, s' 72 i = if 40 * q ≤ i ∧ i < 40 * q + 40 then 0 else s0 72 i) → Q (some (.int 1)) h') (n i : Nat) (hi : i + n = 40) (h : mx_H) (s : mx_St) (H : HR P h s) (f : sf s0 s (fun i => i = 72)) (c1 : ∀ j, s 72 j = if 40 * q ≤ j ∧ j < 40 * q + i then 0 else s0 72 j) : wq d 197 68 [some (.ref 54), some (.int (nI q)), some (.int z2), some (.int z3), some (.int (nI i))] [] h Q := by
  match n, hi with
  | 0, hi =>
    obtain rfl : i = 40 := by omega
    refine q_iload (pc := 68) rfl rfl ?_
    refine q_bipush (pc := 70) rfl (nI 40) (by decide) ?_
    first | refine n_icmpge (pc := 72) rfl (by omega) (by omega) (fun h72 => ?_) (fun h72 => ?_) | refine q_icmpge (pc := 72) rfl (fun h72 => ?_) (fun h72 => ?_)
    · refine q_iconst (pc := 94) rfl (nI 1) (by decide) ?_
      refine q_iret (pc := 95) rfl (rfl) ?_
      exact kk _ _ H f c1
    · first | (exfalso; omega) | exact absurd h72 (nI_pos (by omega)) | exact absurd (nI_pos' (by omega)) h72
  | n + 1, hi =>
    refine q_iload (pc := 68) rfl rfl ?_
    refine q_bipush (pc := 70) rfl (nI 40) (by decide) ?_
    first | refine n_icmpge (pc := 72) rfl (by omega) (by omega) (fun h72 => ?_) (fun h72 => ?_) | refine q_icmpge (pc := 72) rfl (fun h72 => ?_) (fun h72 => ?_)
    · first | (exfalso; omega) | exact absurd h72 (nI_pos (by omega)) | exact absurd (nI_pos' (by omega)) h72
    · refine q_aload_n (pc := 75) rfl rfl rfl ?_
      refine q_getf (pc := 76) rfl (by exact HR.c H hl _ rfl) rfl rfl ?_
      refine q_bipush (pc := 79) rfl (nI 40) (by decide) ?_
      refine q_iload_n (pc := 81) rfl rfl ?_
      first | refine n_imul (pc := 82) rfl ?_ | refine q_imul (pc := 82) rfl ?_
      refine q_iload (pc := 83) rfl rfl ?_
      first | refine n_iadd (pc := 85) rfl ?_ | refine q_iadd (pc := 85) rfl ?_
      refine q_iconst (pc := 86) rfl (nI 0) (by decide) ?_
      refine r_ist2 (pc := 87) rfl H hl rfl (fun _ => rfl) rfl (by omega) (by omega) ?_
      intro h H
      first | refine n_iinc (pc := 88) rfl [_, _, _, _, _] 1 (by decide) rfl rfl ?_ | refine q_iinc (pc := 88) [_, _, _, _, _] (1) rfl rfl (by decide) rfl ?_
      refine q_goto (pc := 91) rfl ?_
      refine m_zeroL (z1 := z1) hl hq kk n (i + 1) (by omega) h _ H (f.st (by rfl)) (fun j => ?_)
      by_cases e : j = 40 * q + i
      · subst e
        rw [stv_a, if_pos (by omega)]
        rfl
      · rw [stv_o e, c1 j]
        by_cases g : 40 * q ≤ j ∧ j < 40 * q + i
        · rw [if_pos g, if_pos (by omega)]
        · rw [if_neg g, if_neg (by omega)]
termination_by n
theorem m_sheetW {q v : Nat} {y z : Int32} {z4 : Option Value} (hl : 75 ≤ P.1) (hq : q < 4) (H : HR P h s) (S0 : SQ s σ sz cl) (hv : (y = -1 ∧ v = 0) ∨ (y ≠ -1 ∧ z = nI v)) (kk : ∀ h' s', HR P h' s' → sf s s' sS → SQ s' (up1 σ q y) (up1 sz q v) (up1 cl q (fun _ => 0)) → Q (some (.int 1)) h') : wq d 197 42 [some (.ref 54), some (.int (nI q)), some (.int y), some (.int z), z4] [] h Q := by
  have key : ∀ h2, HR P h2 (stv (stv s 70 q y) 71 q (nI v)) → wq d 197 65 [some (.ref 54), some (.int (nI q)), some (.int y), some (.int z), z4] [] h2 Q := by
    intro h H
    have f0 : sf s (stv (stv s 70 q y) 71 q (nI v)) sS := (sf.rf.st (Or.inl rfl)).st (Or.inr (Or.inl rfl))
    refine q_iconst (pc := 65) rfl (nI 0) (by decide) ?_
    refine q_istore (pc := 66) [_, _, _, _, _] rfl (Nat.le_of_ble_eq_true rfl) rfl ?_
    refine m_zeroL (z1 := none) hl hq (fun h' s' H f c1 => kk _ _ H (f0.tr (f.mono (fun i g => Or.inr (Or.inr g)))) (fun p hp => ?_)) 40 0 (by omega) h _ H sf.rf (fun j => by rw [if_neg (by omega)])
    obtain ⟨g1, g2, g3⟩ := S0 p hp
    rw [f 70 (by decide), f 71 (by decide)]
    by_cases e : p = q
    · subst e
      rw [up1_s, up1_s, up1_s]
      refine ⟨?_, stv_a, fun i hi => ?_⟩
      · rw [stv_n (by decide), stv_a]
      · rw [c1, if_pos (by omega)]
    · rw [up1_n e, up1_n e, up1_n e]
      refine ⟨?_, ?_, fun i hi => ?_⟩
      · rw [stv_n (by decide), stv_o e]
        exact g1
      · rw [stv_o e, stv_n (by decide)]
        exact g2
      · rw [c1, if_neg (by omega), stv_n (by decide), stv_n (by decide)]
        exact g3 i hi
  refine q_aload_n (pc := 42) rfl rfl rfl ?_
  refine q_getf (pc := 43) rfl (by exact HR.c H hl _ rfl) rfl rfl ?_
  refine q_iload_n (pc := 46) rfl rfl ?_
  refine q_iload_n (pc := 47) rfl rfl ?_
  refine r_ist2 (pc := 48) rfl H hl rfl (fun _ => rfl) rfl (by omega) (by omega) ?_
  intro h H
  refine q_aload_n (pc := 49) rfl rfl rfl ?_
  refine q_getf (pc := 50) rfl (by exact HR.c H hl _ rfl) rfl rfl ?_
  refine q_iload_n (pc := 53) rfl rfl ?_
  refine q_iload_n (pc := 54) rfl rfl ?_
  refine q_iconst (pc := 55) rfl (-1) (by decide) ?_
  refine q_icmpne (pc := 56) rfl (fun h56 => ?_) (fun h56 => ?_)
  · have q56 : y ≠ -1 := h56
    first
    | (exfalso; omega (config := {splitDisjunctions := false}))
    | exact absurd rfl h56
    | skip
      refine q_iload_n (pc := 63) rfl rfl ?_
      refine r_ist2 (pc := 64) rfl H hl rfl (fun _ => rfl) rfl (by omega) (by omega) ?_
      intro h H
      first
      | (obtain ⟨_, rfl⟩ : y ≠ -1 ∧ z = nI v := hv.elim (fun e => absurd e.1 q56) id
         exact key _ H)
      | (obtain ⟨_, rfl⟩ : y = -1 ∧ v = 0 := hv.elim id (fun e => absurd q56 e.1)
         exact key _ H)
  · have q56 : y = -1 := h56
    first
    | (exfalso; omega (config := {splitDisjunctions := false}))
    | exact absurd rfl h56
    | skip
      refine q_iconst (pc := 59) rfl (nI 0) (by decide) ?_
      refine q_goto (pc := 60) rfl ?_
      refine r_ist2 (pc := 64) rfl H hl rfl (fun _ => rfl) rfl (by omega) (by omega) ?_
      intro h H
      first
      | (obtain ⟨_, rfl⟩ : y ≠ -1 ∧ z = nI v := hv.elim (fun e => absurd e.1 q56) id
         exact key _ H)
      | (obtain ⟨_, rfl⟩ : y = -1 ∧ v = 0 := hv.elim id (fun e => absurd q56 e.1)
         exact key _ H)
theorem m_sheet (hd : 3 ≤ d) (H : HR P h s) (hl : 75 ≤ P.1) (N : NW s β) (K : AOK P.2.1 β κ ik tp tz σ sz) (Mk : MK s P.2.1 κ ik tp tz C E σ sz cl) (kk : ∀ h' s' T', T' = n_sheet σ sz cl x y z → HR P h' s' → NW s' β → MK s' P.2.1 κ ik tp tz C E T'.1 T'.2.1 T'.2.2 → sf s s' hS → Q (some (.int (o_sheet x y z))) h') : wc d 197 [.ref 54, .int x, .int y, .int z] h Q := by
  have K4 := K.1.2.2.1
  have KK := K.1
  have kSh := K.2.2.2.2.2.2.2
  have hSh := Mk.2.2.2.2.2.1
  rcases rgc 41 (by decide) z with ⟨z0, hz0, rfl, z1⟩ | ⟨g, z1⟩
  ·
    refine wc.go [_, _, _, _, _] rfl ?_
    refine q_iload_n (pc := 0) rfl rfl ?_
    refine q_callS (pc := 1) _ (by decide) rfl rfl rfl rfl (Nat.le_of_ble_eq_true rfl) (by omega) _ rfl ?_
    refine m_isSheet (by omega) (fun q hq e => ?_) (fun g4 => ?_)
    · subst e
      have zs : Hd (rg 4 (nI q) = q) := rg_in hq (by decide)
      refine q_ifeq (pc := 4) rfl (fun z => absurd z (by decide)) (fun _ => ?_)
      refine q_iload_n (pc := 7) rfl rfl ?_
      refine q_iconst (pc := 8) rfl (-1) (by decide) ?_
      refine q_iconst (pc := 9) rfl (nI 2) (by decide) ?_
      refine q_callS (pc := 10) _ (by decide) rfl rfl rfl rfl (Nat.le_of_ble_eq_true rfl) (by omega) _ rfl ?_
      refine c_isIn (fun h1 h2 => ?_) (fun gT => ?_)
      · have hσ : isT y := isT_in.mp ⟨h1, h2⟩
        refine q_ifeq (pc := 13) rfl (fun z => absurd z (by decide)) (fun _ => ?_)
        refine q_iload_n (pc := 16) rfl rfl ?_
        refine q_iconst (pc := 17) rfl (-1) (by decide) ?_
        refine q_icmpeq (pc := 18) rfl (fun h18 => ?_) (fun h18 => ?_)
        · have q18 : y = -1 := h18
          first
          | (exfalso; omega (config := {splitDisjunctions := false}))
          | exact absurd rfl h18
          | skip
            refine q_iload_n (pc := 30) rfl rfl ?_
            refine q_iconst (pc := 31) rfl (-1) (by decide) ?_
            refine q_icmpeq (pc := 32) rfl (fun h32 => ?_) (fun h32 => ?_)
            · have q32 : y = -1 := h32
              first
              | (exfalso; omega (config := {splitDisjunctions := false}))
              | exact absurd rfl h32
              | skip
                first
                | (subst q32
                   have e1 : o_sheet (nI q) (-1) (nI z0) = 1 ∧ n_sheet σ sz cl (nI q) (-1) (nI z0) = (up1 σ q (-1), up1 sz q 0, up1 cl q (fun _ => 0)) := by
                     refine ⟨?_, ?_⟩
                     · unfold o_sheet
                       first | rw [zs.out, if_pos (show q < 4 ∧ isT (-1) from ⟨hq, hσ⟩), if_pos rfl] | rw [zs.out, if_pos (show q < 4 ∧ isT (-1) from ⟨hq, hσ⟩)]
                     · unfold n_sheet
                       first | rw [zs.out, if_pos (show q < 4 ∧ isT (-1) from ⟨hq, hσ⟩), if_pos rfl] | rw [zs.out, if_pos (show q < 4 ∧ isT (-1) from ⟨hq, hσ⟩)]
                   rw [e1.1] at kk
                   refine m_sheetW (v := 0) hl hq H hSh (Or.inl ⟨rfl, rfl⟩) (fun h' s' H f SQ' => ?_)
                   exact kk _ _ _ e1.2.symm H (N.fr f (by unfold sS; decide)) (Mk.sh f SQ') (f.mono (fun i g => by unfold sS at g; unfold hS; omega)))
                | (exact absurd q32 q18)
                | (exact absurd q18 q32)
                | (have e1 : o_sheet (nI q) y (nI z0) = 1 ∧ n_sheet σ sz cl (nI q) y (nI z0) = (up1 σ q y, up1 sz q z0, up1 cl q (fun _ => 0)) := by
                     refine ⟨?_, ?_⟩
                     · unfold o_sheet
                       first | rw [zs.out, z1.out, if_pos (show q < 4 ∧ isT y from ⟨hq, hσ⟩), if_neg q32, if_pos hz0] | rw [zs.out, z1.out, if_pos (show q < 4 ∧ isT y from ⟨hq, hσ⟩), if_neg q32]
                     · unfold n_sheet
                       first | rw [zs.out, z1.out, if_pos (show q < 4 ∧ isT y from ⟨hq, hσ⟩), if_neg q32, if_pos hz0] | rw [zs.out, z1.out, if_pos (show q < 4 ∧ isT y from ⟨hq, hσ⟩), if_neg q32]
                   rw [e1.1] at kk
                   refine m_sheetW (v := z0) hl hq H hSh (Or.inr ⟨q32, rfl⟩) (fun h' s' H f SQ' => ?_)
                   exact kk _ _ _ e1.2.symm H (N.fr f (by unfold sS; decide)) (Mk.sh f SQ') (f.mono (fun i g => by unfold sS at g; unfold hS; omega)))
            · have q32 : y ≠ -1 := h32
              first
              | (exfalso; omega (config := {splitDisjunctions := false}))
              | exact absurd rfl h32
              | skip
                refine q_iload_n (pc := 35) rfl rfl ?_
                refine q_ifge (pc := 36) rfl (fun h36 => ?_) (fun h36 => ?_)
                · first
                  | (subst q32
                     have e1 : o_sheet (nI q) (-1) (nI z0) = 1 ∧ n_sheet σ sz cl (nI q) (-1) (nI z0) = (up1 σ q (-1), up1 sz q 0, up1 cl q (fun _ => 0)) := by
                       refine ⟨?_, ?_⟩
                       · unfold o_sheet
                         first | rw [zs.out, if_pos (show q < 4 ∧ isT (-1) from ⟨hq, hσ⟩), if_pos rfl] | rw [zs.out, if_pos (show q < 4 ∧ isT (-1) from ⟨hq, hσ⟩)]
                       · unfold n_sheet
                         first | rw [zs.out, if_pos (show q < 4 ∧ isT (-1) from ⟨hq, hσ⟩), if_pos rfl] | rw [zs.out, if_pos (show q < 4 ∧ isT (-1) from ⟨hq, hσ⟩)]
                     rw [e1.1] at kk
                     refine m_sheetW (v := 0) hl hq H hSh (Or.inl ⟨rfl, rfl⟩) (fun h' s' H f SQ' => ?_)
                     exact kk _ _ _ e1.2.symm H (N.fr f (by unfold sS; decide)) (Mk.sh f SQ') (f.mono (fun i g => by unfold sS at g; unfold hS; omega)))
                  | (exact absurd q32 q18)
                  | (exact absurd q18 q32)
                  | (have e1 : o_sheet (nI q) y (nI z0) = 1 ∧ n_sheet σ sz cl (nI q) y (nI z0) = (up1 σ q y, up1 sz q z0, up1 cl q (fun _ => 0)) := by
                       refine ⟨?_, ?_⟩
                       · unfold o_sheet
                         first | rw [zs.out, z1.out, if_pos (show q < 4 ∧ isT y from ⟨hq, hσ⟩), if_neg q32, if_pos hz0] | rw [zs.out, z1.out, if_pos (show q < 4 ∧ isT y from ⟨hq, hσ⟩), if_neg q32]
                       · unfold n_sheet
                         first | rw [zs.out, z1.out, if_pos (show q < 4 ∧ isT y from ⟨hq, hσ⟩), if_neg q32, if_pos hz0] | rw [zs.out, z1.out, if_pos (show q < 4 ∧ isT y from ⟨hq, hσ⟩), if_neg q32]
                     rw [e1.1] at kk
                     refine m_sheetW (v := z0) hl hq H hSh (Or.inr ⟨q32, rfl⟩) (fun h' s' H f SQ' => ?_)
                     exact kk _ _ _ e1.2.symm H (N.fr f (by unfold sS; decide)) (Mk.sh f SQ') (f.mono (fun i g => by unfold sS at g; unfold hS; omega)))
                · first | (exfalso; omega) | exact absurd h36 (nI_pos (by omega)) | exact absurd (nI_pos' (by omega)) h36
        · have q18 : y ≠ -1 := h18
          first
          | (exfalso; omega (config := {splitDisjunctions := false}))
          | exact absurd rfl h18
          | skip
            refine q_iload_n (pc := 21) rfl rfl ?_
            refine q_bipush (pc := 22) rfl (nI 40) (by decide) ?_
            first | refine n_icmple (pc := 24) rfl (by omega) (by omega) (fun h24 => ?_) (fun h24 => ?_) | refine q_icmple (pc := 24) rfl (fun h24 => ?_) (fun h24 => ?_)
            · refine q_iload_n (pc := 30) rfl rfl ?_
              refine q_iconst (pc := 31) rfl (-1) (by decide) ?_
              refine q_icmpeq (pc := 32) rfl (fun h32 => ?_) (fun h32 => ?_)
              · have q32 : y = -1 := h32
                first
                | (exfalso; omega (config := {splitDisjunctions := false}))
                | exact absurd rfl h32
                | skip
                  first
                  | (subst q32
                     have e1 : o_sheet (nI q) (-1) (nI z0) = 1 ∧ n_sheet σ sz cl (nI q) (-1) (nI z0) = (up1 σ q (-1), up1 sz q 0, up1 cl q (fun _ => 0)) := by
                       refine ⟨?_, ?_⟩
                       · unfold o_sheet
                         first | rw [zs.out, if_pos (show q < 4 ∧ isT (-1) from ⟨hq, hσ⟩), if_pos rfl] | rw [zs.out, if_pos (show q < 4 ∧ isT (-1) from ⟨hq, hσ⟩)]
                       · unfold n_sheet
                         first | rw [zs.out, if_pos (show q < 4 ∧ isT (-1) from ⟨hq, hσ⟩), if_pos rfl] | rw [zs.out, if_pos (show q < 4 ∧ isT (-1) from ⟨hq, hσ⟩)]
                     rw [e1.1] at kk
                     refine m_sheetW (v := 0) hl hq H hSh (Or.inl ⟨rfl, rfl⟩) (fun h' s' H f SQ' => ?_)
                     exact kk _ _ _ e1.2.symm H (N.fr f (by unfold sS; decide)) (Mk.sh f SQ') (f.mono (fun i g => by unfold sS at g; unfold hS; omega)))
                  | (exact absurd q32 q18)
                  | (exact absurd q18 q32)
                  | (have e1 : o_sheet (nI q) y (nI z0) = 1 ∧ n_sheet σ sz cl (nI q) y (nI z0) = (up1 σ q y, up1 sz q z0, up1 cl q (fun _ => 0)) := by
                       refine ⟨?_, ?_⟩
                       · unfold o_sheet
                         first | rw [zs.out, z1.out, if_pos (show q < 4 ∧ isT y from ⟨hq, hσ⟩), if_neg q32, if_pos hz0] | rw [zs.out, z1.out, if_pos (show q < 4 ∧ isT y from ⟨hq, hσ⟩), if_neg q32]
                       · unfold n_sheet
                         first | rw [zs.out, z1.out, if_pos (show q < 4 ∧ isT y from ⟨hq, hσ⟩), if_neg q32, if_pos hz0] | rw [zs.out, z1.out, if_pos (show q < 4 ∧ isT y from ⟨hq, hσ⟩), if_neg q32]
                     rw [e1.1] at kk
                     refine m_sheetW (v := z0) hl hq H hSh (Or.inr ⟨q32, rfl⟩) (fun h' s' H f SQ' => ?_)
                     exact kk _ _ _ e1.2.symm H (N.fr f (by unfold sS; decide)) (Mk.sh f SQ') (f.mono (fun i g => by unfold sS at g; unfold hS; omega)))
              · have q32 : y ≠ -1 := h32
                first
                | (exfalso; omega (config := {splitDisjunctions := false}))
                | exact absurd rfl h32
                | skip
                  refine q_iload_n (pc := 35) rfl rfl ?_
                  refine q_ifge (pc := 36) rfl (fun h36 => ?_) (fun h36 => ?_)
                  · first
                    | (subst q32
                       have e1 : o_sheet (nI q) (-1) (nI z0) = 1 ∧ n_sheet σ sz cl (nI q) (-1) (nI z0) = (up1 σ q (-1), up1 sz q 0, up1 cl q (fun _ => 0)) := by
                         refine ⟨?_, ?_⟩
                         · unfold o_sheet
                           first | rw [zs.out, if_pos (show q < 4 ∧ isT (-1) from ⟨hq, hσ⟩), if_pos rfl] | rw [zs.out, if_pos (show q < 4 ∧ isT (-1) from ⟨hq, hσ⟩)]
                         · unfold n_sheet
                           first | rw [zs.out, if_pos (show q < 4 ∧ isT (-1) from ⟨hq, hσ⟩), if_pos rfl] | rw [zs.out, if_pos (show q < 4 ∧ isT (-1) from ⟨hq, hσ⟩)]
                       rw [e1.1] at kk
                       refine m_sheetW (v := 0) hl hq H hSh (Or.inl ⟨rfl, rfl⟩) (fun h' s' H f SQ' => ?_)
                       exact kk _ _ _ e1.2.symm H (N.fr f (by unfold sS; decide)) (Mk.sh f SQ') (f.mono (fun i g => by unfold sS at g; unfold hS; omega)))
                    | (exact absurd q32 q18)
                    | (exact absurd q18 q32)
                    | (have e1 : o_sheet (nI q) y (nI z0) = 1 ∧ n_sheet σ sz cl (nI q) y (nI z0) = (up1 σ q y, up1 sz q z0, up1 cl q (fun _ => 0)) := by
                         refine ⟨?_, ?_⟩
                         · unfold o_sheet
                           first | rw [zs.out, z1.out, if_pos (show q < 4 ∧ isT y from ⟨hq, hσ⟩), if_neg q32, if_pos hz0] | rw [zs.out, z1.out, if_pos (show q < 4 ∧ isT y from ⟨hq, hσ⟩), if_neg q32]
                         · unfold n_sheet
                           first | rw [zs.out, z1.out, if_pos (show q < 4 ∧ isT y from ⟨hq, hσ⟩), if_neg q32, if_pos hz0] | rw [zs.out, z1.out, if_pos (show q < 4 ∧ isT y from ⟨hq, hσ⟩), if_neg q32]
                       rw [e1.1] at kk
                       refine m_sheetW (v := z0) hl hq H hSh (Or.inr ⟨q32, rfl⟩) (fun h' s' H f SQ' => ?_)
                       exact kk _ _ _ e1.2.symm H (N.fr f (by unfold sS; decide)) (Mk.sh f SQ') (f.mono (fun i g => by unfold sS at g; unfold hS; omega)))
                  · first | (exfalso; omega) | exact absurd h36 (nI_pos (by omega)) | exact absurd (nI_pos' (by omega)) h36
            · first | (exfalso; omega) | exact absurd h24 (nI_pos (by omega)) | exact absurd (nI_pos' (by omega)) h24
      · have hσ : ¬ isT y := fun e => gT (isT_in.mpr e)
        refine q_ifeq (pc := 13) rfl (fun _ => ?_) (fun z => absurd (by decide) z)
        refine q_bipush (pc := 27) rfl (-2) (by decide) ?_
        refine q_iret (pc := 29) rfl (rfl) ?_
        first
        | (have e1 : o_sheet (nI q) y (nI z0) = -2 ∧ n_sheet σ sz cl (nI q) y (nI z0) = (σ, sz, cl) := by
             refine ⟨?_, ?_⟩
             · unfold o_sheet
               first | rw [zs.out, if_neg (fun e => hσ e.2)] | rw [zs.out]
             · unfold n_sheet
               first | rw [zs.out, if_neg (fun e => hσ e.2)] | rw [zs.out]
           rw [e1.1] at kk
           exact kk _ _ _ e1.2.symm H N Mk sf.rf)
        | (have e1 : o_sheet x y (nI z0) = -2 ∧ n_sheet σ sz cl x y (nI z0) = (σ, sz, cl) := by
             refine ⟨?_, ?_⟩
             · unfold o_sheet
               first | rw [zs.out, if_neg (fun e => absurd e.1 (by decide))] | rw [zs.out]
             · unfold n_sheet
               first | rw [zs.out, if_neg (fun e => absurd e.1 (by decide))] | rw [zs.out]
           rw [e1.1] at kk
           exact kk _ _ _ e1.2.symm H N Mk sf.rf)
    · have zs : Hd (rg 4 x = 4) := rg_out g4
      refine q_ifeq (pc := 4) rfl (fun _ => ?_) (fun z => absurd (by decide) z)
      refine q_bipush (pc := 27) rfl (-2) (by decide) ?_
      refine q_iret (pc := 29) rfl (rfl) ?_
      first
      | (have e1 : o_sheet (nI q) y (nI z0) = -2 ∧ n_sheet σ sz cl (nI q) y (nI z0) = (σ, sz, cl) := by
           refine ⟨?_, ?_⟩
           · unfold o_sheet
             first | rw [zs.out, if_neg (fun e => hσ e.2)] | rw [zs.out]
           · unfold n_sheet
             first | rw [zs.out, if_neg (fun e => hσ e.2)] | rw [zs.out]
         rw [e1.1] at kk
         exact kk _ _ _ e1.2.symm H N Mk sf.rf)
      | (have e1 : o_sheet x y (nI z0) = -2 ∧ n_sheet σ sz cl x y (nI z0) = (σ, sz, cl) := by
           refine ⟨?_, ?_⟩
           · unfold o_sheet
             first | rw [zs.out, if_neg (fun e => absurd e.1 (by decide))] | rw [zs.out]
           · unfold n_sheet
             first | rw [zs.out, if_neg (fun e => absurd e.1 (by decide))] | rw [zs.out]
         rw [e1.1] at kk
         exact kk _ _ _ e1.2.symm H N Mk sf.rf)
  ·
    refine wc.go [_, _, _, _, _] rfl ?_
    refine q_iload_n (pc := 0) rfl rfl ?_
    refine q_callS (pc := 1) _ (by decide) rfl rfl rfl rfl (Nat.le_of_ble_eq_true rfl) (by omega) _ rfl ?_
    refine m_isSheet (by omega) (fun q hq e => ?_) (fun g4 => ?_)
    · subst e
      have zs : Hd (rg 4 (nI q) = q) := rg_in hq (by decide)
      refine q_ifeq (pc := 4) rfl (fun z => absurd z (by decide)) (fun _ => ?_)
      refine q_iload_n (pc := 7) rfl rfl ?_
      refine q_iconst (pc := 8) rfl (-1) (by decide) ?_
      refine q_iconst (pc := 9) rfl (nI 2) (by decide) ?_
      refine q_callS (pc := 10) _ (by decide) rfl rfl rfl rfl (Nat.le_of_ble_eq_true rfl) (by omega) _ rfl ?_
      refine c_isIn (fun h1 h2 => ?_) (fun gT => ?_)
      · have hσ : isT y := isT_in.mp ⟨h1, h2⟩
        refine q_ifeq (pc := 13) rfl (fun z => absurd z (by decide)) (fun _ => ?_)
        refine q_iload_n (pc := 16) rfl rfl ?_
        refine q_iconst (pc := 17) rfl (-1) (by decide) ?_
        refine q_icmpeq (pc := 18) rfl (fun h18 => ?_) (fun h18 => ?_)
        · have q18 : y = -1 := h18
          first
          | (exfalso; omega (config := {splitDisjunctions := false}))
          | exact absurd rfl h18
          | skip
            refine q_iload_n (pc := 30) rfl rfl ?_
            refine q_iconst (pc := 31) rfl (-1) (by decide) ?_
            refine q_icmpeq (pc := 32) rfl (fun h32 => ?_) (fun h32 => ?_)
            · have q32 : y = -1 := h32
              first
              | (exfalso; omega (config := {splitDisjunctions := false}))
              | exact absurd rfl h32
              | skip
                first
                | (subst q32
                   have e1 : o_sheet (nI q) (-1) z = 1 ∧ n_sheet σ sz cl (nI q) (-1) z = (up1 σ q (-1), up1 sz q 0, up1 cl q (fun _ => 0)) := by
                     refine ⟨?_, ?_⟩
                     · unfold o_sheet
                       first | rw [zs.out, if_pos (show q < 4 ∧ isT (-1) from ⟨hq, hσ⟩), if_pos rfl] | rw [zs.out, if_pos (show q < 4 ∧ isT (-1) from ⟨hq, hσ⟩)]
                     · unfold n_sheet
                       first | rw [zs.out, if_pos (show q < 4 ∧ isT (-1) from ⟨hq, hσ⟩), if_pos rfl] | rw [zs.out, if_pos (show q < 4 ∧ isT (-1) from ⟨hq, hσ⟩)]
                   rw [e1.1] at kk
                   refine m_sheetW (v := 0) hl hq H hSh (Or.inl ⟨rfl, rfl⟩) (fun h' s' H f SQ' => ?_)
                   exact kk _ _ _ e1.2.symm H (N.fr f (by unfold sS; decide)) (Mk.sh f SQ') (f.mono (fun i g => by unfold sS at g; unfold hS; omega)))
                | (exact absurd q32 q18)
                | (exact absurd q18 q32)
                | (exact False.elim (g.elim (fun e => absurd h36 (Int32.not_le.mpr e)) (fun e => absurd (Int32.le_trans e h24) (by decide))))
            · have q32 : y ≠ -1 := h32
              first
              | (exfalso; omega (config := {splitDisjunctions := false}))
              | exact absurd rfl h32
              | skip
                refine q_iload_n (pc := 35) rfl rfl ?_
                refine q_ifge (pc := 36) rfl (fun h36 => ?_) (fun h36 => ?_)
                · first
                  | (exfalso; omega (config := {splitDisjunctions := false}))
                  | skip
                    first
                    | (subst q32
                       have e1 : o_sheet (nI q) (-1) z = 1 ∧ n_sheet σ sz cl (nI q) (-1) z = (up1 σ q (-1), up1 sz q 0, up1 cl q (fun _ => 0)) := by
                         refine ⟨?_, ?_⟩
                         · unfold o_sheet
                           first | rw [zs.out, if_pos (show q < 4 ∧ isT (-1) from ⟨hq, hσ⟩), if_pos rfl] | rw [zs.out, if_pos (show q < 4 ∧ isT (-1) from ⟨hq, hσ⟩)]
                         · unfold n_sheet
                           first | rw [zs.out, if_pos (show q < 4 ∧ isT (-1) from ⟨hq, hσ⟩), if_pos rfl] | rw [zs.out, if_pos (show q < 4 ∧ isT (-1) from ⟨hq, hσ⟩)]
                       rw [e1.1] at kk
                       refine m_sheetW (v := 0) hl hq H hSh (Or.inl ⟨rfl, rfl⟩) (fun h' s' H f SQ' => ?_)
                       exact kk _ _ _ e1.2.symm H (N.fr f (by unfold sS; decide)) (Mk.sh f SQ') (f.mono (fun i g => by unfold sS at g; unfold hS; omega)))
                    | (exact absurd q32 q18)
                    | (exact absurd q18 q32)
                    | (exact False.elim (g.elim (fun e => absurd h36 (Int32.not_le.mpr e)) (fun e => absurd (Int32.le_trans e h24) (by decide))))
                · first
                  | (exfalso; omega (config := {splitDisjunctions := false}))
                  | skip
                    refine q_bipush (pc := 39) rfl (-14) (by decide) ?_
                    refine q_iret (pc := 41) rfl (rfl) ?_
                    first
                    | (have e1 : o_sheet (nI q) y z = -14 ∧ n_sheet σ sz cl (nI q) y z = (σ, sz, cl) := by
                         refine ⟨?_, ?_⟩
                         · unfold o_sheet
                           first | rw [zs.out, z1.out, if_pos (show q < 4 ∧ isT y from ⟨hq, hσ⟩), if_neg q32, if_neg (by decide), if_pos (Int32.not_le.mp h36)] | rw [zs.out, z1.out, if_pos (show q < 4 ∧ isT y from ⟨hq, hσ⟩), if_neg q32, if_neg (by decide)]
                         · unfold n_sheet
                           first | rw [zs.out, z1.out, if_pos (show q < 4 ∧ isT y from ⟨hq, hσ⟩), if_neg q32, if_neg (by decide), if_pos (Int32.not_le.mp h36)] | rw [zs.out, z1.out, if_pos (show q < 4 ∧ isT y from ⟨hq, hσ⟩), if_neg q32, if_neg (by decide)]
                       rw [e1.1] at kk
                       exact kk _ _ _ e1.2.symm H N Mk sf.rf)
        · have q18 : y ≠ -1 := h18
          first
          | (exfalso; omega (config := {splitDisjunctions := false}))
          | exact absurd rfl h18
          | skip
            refine q_iload_n (pc := 21) rfl rfl ?_
            refine q_bipush (pc := 22) rfl (nI 40) (by decide) ?_
            refine q_icmple (pc := 24) rfl (fun h24 => ?_) (fun h24 => ?_)
            · first
              | (exfalso; omega (config := {splitDisjunctions := false}))
              | skip
                refine q_iload_n (pc := 30) rfl rfl ?_
                refine q_iconst (pc := 31) rfl (-1) (by decide) ?_
                refine q_icmpeq (pc := 32) rfl (fun h32 => ?_) (fun h32 => ?_)
                · have q32 : y = -1 := h32
                  first
                  | (exfalso; omega (config := {splitDisjunctions := false}))
                  | exact absurd rfl h32
                  | skip
                    first
                    | (subst q32
                       have e1 : o_sheet (nI q) (-1) z = 1 ∧ n_sheet σ sz cl (nI q) (-1) z = (up1 σ q (-1), up1 sz q 0, up1 cl q (fun _ => 0)) := by
                         refine ⟨?_, ?_⟩
                         · unfold o_sheet
                           first | rw [zs.out, if_pos (show q < 4 ∧ isT (-1) from ⟨hq, hσ⟩), if_pos rfl] | rw [zs.out, if_pos (show q < 4 ∧ isT (-1) from ⟨hq, hσ⟩)]
                         · unfold n_sheet
                           first | rw [zs.out, if_pos (show q < 4 ∧ isT (-1) from ⟨hq, hσ⟩), if_pos rfl] | rw [zs.out, if_pos (show q < 4 ∧ isT (-1) from ⟨hq, hσ⟩)]
                       rw [e1.1] at kk
                       refine m_sheetW (v := 0) hl hq H hSh (Or.inl ⟨rfl, rfl⟩) (fun h' s' H f SQ' => ?_)
                       exact kk _ _ _ e1.2.symm H (N.fr f (by unfold sS; decide)) (Mk.sh f SQ') (f.mono (fun i g => by unfold sS at g; unfold hS; omega)))
                    | (exact absurd q32 q18)
                    | (exact absurd q18 q32)
                    | (exact False.elim (g.elim (fun e => absurd h36 (Int32.not_le.mpr e)) (fun e => absurd (Int32.le_trans e h24) (by decide))))
                · have q32 : y ≠ -1 := h32
                  first
                  | (exfalso; omega (config := {splitDisjunctions := false}))
                  | exact absurd rfl h32
                  | skip
                    refine q_iload_n (pc := 35) rfl rfl ?_
                    refine q_ifge (pc := 36) rfl (fun h36 => ?_) (fun h36 => ?_)
                    · first
                      | (exfalso; omega (config := {splitDisjunctions := false}))
                      | skip
                        first
                        | (subst q32
                           have e1 : o_sheet (nI q) (-1) z = 1 ∧ n_sheet σ sz cl (nI q) (-1) z = (up1 σ q (-1), up1 sz q 0, up1 cl q (fun _ => 0)) := by
                             refine ⟨?_, ?_⟩
                             · unfold o_sheet
                               first | rw [zs.out, if_pos (show q < 4 ∧ isT (-1) from ⟨hq, hσ⟩), if_pos rfl] | rw [zs.out, if_pos (show q < 4 ∧ isT (-1) from ⟨hq, hσ⟩)]
                             · unfold n_sheet
                               first | rw [zs.out, if_pos (show q < 4 ∧ isT (-1) from ⟨hq, hσ⟩), if_pos rfl] | rw [zs.out, if_pos (show q < 4 ∧ isT (-1) from ⟨hq, hσ⟩)]
                           rw [e1.1] at kk
                           refine m_sheetW (v := 0) hl hq H hSh (Or.inl ⟨rfl, rfl⟩) (fun h' s' H f SQ' => ?_)
                           exact kk _ _ _ e1.2.symm H (N.fr f (by unfold sS; decide)) (Mk.sh f SQ') (f.mono (fun i g => by unfold sS at g; unfold hS; omega)))
                        | (exact absurd q32 q18)
                        | (exact absurd q18 q32)
                        | (exact False.elim (g.elim (fun e => absurd h36 (Int32.not_le.mpr e)) (fun e => absurd (Int32.le_trans e h24) (by decide))))
                    · first
                      | (exfalso; omega (config := {splitDisjunctions := false}))
                      | skip
                        refine q_bipush (pc := 39) rfl (-14) (by decide) ?_
                        refine q_iret (pc := 41) rfl (rfl) ?_
                        first
                        | (have e1 : o_sheet (nI q) y z = -14 ∧ n_sheet σ sz cl (nI q) y z = (σ, sz, cl) := by
                             refine ⟨?_, ?_⟩
                             · unfold o_sheet
                               first | rw [zs.out, z1.out, if_pos (show q < 4 ∧ isT y from ⟨hq, hσ⟩), if_neg q32, if_neg (by decide), if_pos (Int32.not_le.mp h36)] | rw [zs.out, z1.out, if_pos (show q < 4 ∧ isT y from ⟨hq, hσ⟩), if_neg q32, if_neg (by decide)]
                             · unfold n_sheet
                               first | rw [zs.out, z1.out, if_pos (show q < 4 ∧ isT y from ⟨hq, hσ⟩), if_neg q32, if_neg (by decide), if_pos (Int32.not_le.mp h36)] | rw [zs.out, z1.out, if_pos (show q < 4 ∧ isT y from ⟨hq, hσ⟩), if_neg q32, if_neg (by decide)]
                           rw [e1.1] at kk
                           exact kk _ _ _ e1.2.symm H N Mk sf.rf)
            · first
              | (exfalso; omega (config := {splitDisjunctions := false}))
              | skip
                refine q_bipush (pc := 27) rfl (-2) (by decide) ?_
                refine q_iret (pc := 29) rfl (rfl) ?_
                first
                | (have e1 : o_sheet (nI q) y z = -2 ∧ n_sheet σ sz cl (nI q) y z = (σ, sz, cl) := by
                     refine ⟨?_, ?_⟩
                     · unfold o_sheet
                       first | rw [zs.out, if_neg (fun e => hσ e.2)] | rw [zs.out]
                     · unfold n_sheet
                       first | rw [zs.out, if_neg (fun e => hσ e.2)] | rw [zs.out]
                   rw [e1.1] at kk
                   exact kk _ _ _ e1.2.symm H N Mk sf.rf)
                | (have e1 : o_sheet x y z = -2 ∧ n_sheet σ sz cl x y z = (σ, sz, cl) := by
                     refine ⟨?_, ?_⟩
                     · unfold o_sheet
                       first | rw [zs.out, if_neg (fun e => absurd e.1 (by decide))] | rw [zs.out]
                     · unfold n_sheet
                       first | rw [zs.out, if_neg (fun e => absurd e.1 (by decide))] | rw [zs.out]
                   rw [e1.1] at kk
                   exact kk _ _ _ e1.2.symm H N Mk sf.rf)
                | (have e1 : o_sheet (nI q) y z = -2 ∧ n_sheet σ sz cl (nI q) y z = (σ, sz, cl) := by
                     refine ⟨?_, ?_⟩
                     · unfold o_sheet
                       first | rw [zs.out, z1.out, if_pos (show q < 4 ∧ isT y from ⟨hq, hσ⟩), if_neg q18, if_neg (by decide), if_neg (fun e => absurd (Int32.lt_trans (Int32.not_le.mp h24) e) (by decide))] | rw [zs.out, z1.out, if_pos (show q < 4 ∧ isT y from ⟨hq, hσ⟩), if_neg q18, if_neg (by decide)]
                     · unfold n_sheet
                       first | rw [zs.out, z1.out, if_pos (show q < 4 ∧ isT y from ⟨hq, hσ⟩), if_neg q18, if_neg (by decide), if_neg (fun e => absurd (Int32.lt_trans (Int32.not_le.mp h24) e) (by decide))] | rw [zs.out, z1.out, if_pos (show q < 4 ∧ isT y from ⟨hq, hσ⟩), if_neg q18, if_neg (by decide)]
                   rw [e1.1] at kk
                   exact kk _ _ _ e1.2.symm H N Mk sf.rf)
      · have hσ : ¬ isT y := fun e => gT (isT_in.mpr e)
        refine q_ifeq (pc := 13) rfl (fun _ => ?_) (fun z => absurd (by decide) z)
        refine q_bipush (pc := 27) rfl (-2) (by decide) ?_
        refine q_iret (pc := 29) rfl (rfl) ?_
        first
        | (have e1 : o_sheet (nI q) y z = -2 ∧ n_sheet σ sz cl (nI q) y z = (σ, sz, cl) := by
             refine ⟨?_, ?_⟩
             · unfold o_sheet
               first | rw [zs.out, if_neg (fun e => hσ e.2)] | rw [zs.out]
             · unfold n_sheet
               first | rw [zs.out, if_neg (fun e => hσ e.2)] | rw [zs.out]
           rw [e1.1] at kk
           exact kk _ _ _ e1.2.symm H N Mk sf.rf)
        | (have e1 : o_sheet x y z = -2 ∧ n_sheet σ sz cl x y z = (σ, sz, cl) := by
             refine ⟨?_, ?_⟩
             · unfold o_sheet
               first | rw [zs.out, if_neg (fun e => absurd e.1 (by decide))] | rw [zs.out]
             · unfold n_sheet
               first | rw [zs.out, if_neg (fun e => absurd e.1 (by decide))] | rw [zs.out]
           rw [e1.1] at kk
           exact kk _ _ _ e1.2.symm H N Mk sf.rf)
        | (have e1 : o_sheet (nI q) y z = -2 ∧ n_sheet σ sz cl (nI q) y z = (σ, sz, cl) := by
             refine ⟨?_, ?_⟩
             · unfold o_sheet
               first | rw [zs.out, z1.out, if_pos (show q < 4 ∧ isT y from ⟨hq, hσ⟩), if_neg q18, if_neg (by decide), if_neg (fun e => absurd (Int32.lt_trans (Int32.not_le.mp h24) e) (by decide))] | rw [zs.out, z1.out, if_pos (show q < 4 ∧ isT y from ⟨hq, hσ⟩), if_neg q18, if_neg (by decide)]
             · unfold n_sheet
               first | rw [zs.out, z1.out, if_pos (show q < 4 ∧ isT y from ⟨hq, hσ⟩), if_neg q18, if_neg (by decide), if_neg (fun e => absurd (Int32.lt_trans (Int32.not_le.mp h24) e) (by decide))] | rw [zs.out, z1.out, if_pos (show q < 4 ∧ isT y from ⟨hq, hσ⟩), if_neg q18, if_neg (by decide)]
           rw [e1.1] at kk
           exact kk _ _ _ e1.2.symm H N Mk sf.rf)
    · have zs : Hd (rg 4 x = 4) := rg_out g4
      refine q_ifeq (pc := 4) rfl (fun _ => ?_) (fun z => absurd (by decide) z)
      refine q_bipush (pc := 27) rfl (-2) (by decide) ?_
      refine q_iret (pc := 29) rfl (rfl) ?_
      first
      | (have e1 : o_sheet (nI q) y z = -2 ∧ n_sheet σ sz cl (nI q) y z = (σ, sz, cl) := by
           refine ⟨?_, ?_⟩
           · unfold o_sheet
             first | rw [zs.out, if_neg (fun e => hσ e.2)] | rw [zs.out]
           · unfold n_sheet
             first | rw [zs.out, if_neg (fun e => hσ e.2)] | rw [zs.out]
         rw [e1.1] at kk
         exact kk _ _ _ e1.2.symm H N Mk sf.rf)
      | (have e1 : o_sheet x y z = -2 ∧ n_sheet σ sz cl x y z = (σ, sz, cl) := by
           refine ⟨?_, ?_⟩
           · unfold o_sheet
             first | rw [zs.out, if_neg (fun e => absurd e.1 (by decide))] | rw [zs.out]
           · unfold n_sheet
             first | rw [zs.out, if_neg (fun e => absurd e.1 (by decide))] | rw [zs.out]
         rw [e1.1] at kk
         exact kk _ _ _ e1.2.symm H N Mk sf.rf)
      | (have e1 : o_sheet (nI q) y z = -2 ∧ n_sheet σ sz cl (nI q) y z = (σ, sz, cl) := by
           refine ⟨?_, ?_⟩
           · unfold o_sheet
             first | rw [zs.out, z1.out, if_pos (show q < 4 ∧ isT y from ⟨hq, hσ⟩), if_neg q18, if_neg (by decide), if_neg (fun e => absurd (Int32.lt_trans (Int32.not_le.mp h24) e) (by decide))] | rw [zs.out, z1.out, if_pos (show q < 4 ∧ isT y from ⟨hq, hσ⟩), if_neg q18, if_neg (by decide)]
           · unfold n_sheet
             first | rw [zs.out, z1.out, if_pos (show q < 4 ∧ isT y from ⟨hq, hσ⟩), if_neg q18, if_neg (by decide), if_neg (fun e => absurd (Int32.lt_trans (Int32.not_le.mp h24) e) (by decide))] | rw [zs.out, z1.out, if_pos (show q < 4 ∧ isT y from ⟨hq, hσ⟩), if_neg q18, if_neg (by decide)]
         rw [e1.1] at kk
         exact kk _ _ _ e1.2.symm H N Mk sf.rf)
theorem m_cell (hd : 20 ≤ d) (H : HR P h s) (hl : 75 ≤ P.1) (N : NW s β) (K : AOK P.2.1 β κ ik tp tz σ sz) (Mk : MK s P.2.1 κ ik tp tz C E σ sz cl) (kk : ∀ h' s' T', T' = n_cell σ sz cl x y z → HR P h' s' → NW s' β → MK s' P.2.1 κ ik tp tz C E T'.1 T'.2.1 T'.2.2 → sf s s' hS → Q (some (.int (o_cell σ sz x y))) h') : wc d 198 [.ref 54, .int x, .int y, .int z] h Q := by
  have K4 := K.1.2.2.1
  have KK := K.1
  have kSh := K.2.2.2.2.2.2.2
  have hSh := Mk.2.2.2.2.2.1
  refine wc.go [_, _, _, _] rfl ?_
  refine q_iload_n (pc := 0) rfl rfl ?_
  refine q_callS (pc := 1) _ (by decide) rfl rfl rfl rfl (Nat.le_of_ble_eq_true rfl) (by omega) _ rfl ?_
  refine m_isSheet (by omega) (fun q hq e => ?_) (fun g4 => ?_)
  · subst e
    have zs : Hd (rg 4 (nI q) = q) := rg_in hq (by decide)
    obtain ⟨g1, g2, g3⟩ := hSh q hq
    obtain ⟨k40, kσ⟩ := kSh q hq
    refine q_ifne (pc := 4) rfl (fun _ => ?_) (fun z => absurd z (by decide))
    refine q_aload_n (pc := 10) rfl rfl rfl ?_
    refine q_getf (pc := 11) rfl (by exact HR.c H hl _ rfl) rfl rfl ?_
    refine q_iload_n (pc := 14) rfl rfl ?_
    refine n_ild (pc := 15) rfl (by first | exact HR.la H hl rfl rfl N | exact HR.la0 H hl rfl rfl) rfl (by omega) (by omega) ?_
    rw [g1]
    refine q_iconst (pc := 16) rfl (-1) (by decide) ?_
    refine q_icmpne (pc := 17) rfl (fun h17 => ?_) (fun h17 => ?_)
    · have q17 : σ q ≠ -1 := h17
      first
      | (exfalso; omega (config := {splitDisjunctions := false}))
      | exact absurd rfl h17
      | skip
        refine q_iload_n (pc := 23) rfl rfl ?_
        refine q_iconst (pc := 24) rfl (nI 0) (by decide) ?_
        refine q_aload_n (pc := 25) rfl rfl rfl ?_
        refine q_getf (pc := 26) rfl (by exact HR.c H hl _ rfl) rfl rfl ?_
        refine q_iload_n (pc := 29) rfl rfl ?_
        refine n_ild (pc := 30) rfl (by first | exact HR.la H hl rfl rfl N | exact HR.la0 H hl rfl rfl) rfl (by omega) (by omega) ?_
        rw [g2]
        refine q_iconst (pc := 31) rfl (nI 1) (by decide) ?_
        refine q_isub (pc := 32) rfl ?_
        refine q_callS (pc := 33) _ (by decide) rfl rfl rfl rfl (Nat.le_of_ble_eq_true rfl) (by omega) _ rfl ?_
        refine m_inX (by omega) (fun j hj e => ?_) (fun g => ?_)
        · subst e
          have z2 : Hd (rg (sz q) (nI j) = j) := rg_in hj (by omega)
          have key : ∀ v, v = narS (σ q) z → wq d 198 82 [some (.ref 54), some (.int (nI q)), some (.int (nI j)), some (.int z)] [.int v, .int (nI (40 * q + j)), .ref 72] h Q := by
            intro v ev
            subst ev
            refine r_ist2 (pc := 82) rfl H hl rfl (fun _ => rfl) rfl (by omega) (by omega) ?_
            intro h H
            refine q_iconst (pc := 83) rfl (nI 1) (by decide) ?_
            refine q_iret (pc := 84) rfl (rfl) ?_
            have e1 : o_cell σ sz (nI q) (nI j) = 1 ∧ n_cell σ sz cl (nI q) (nI j) z = (σ, sz, up1 cl q (upd (cl q) j (narS (σ q) z))) := by
              refine ⟨?_, ?_⟩
              · unfold o_cell
                first | rw [zs.out, if_pos hq, if_neg q17, z2.out, if_pos hj] | rw [zs.out, if_pos hq, if_neg q17, z2.out]
              · unfold n_cell
                first | rw [zs.out, if_pos hq, if_neg q17, z2.out, if_pos hj] | rw [zs.out, if_pos hq, if_neg q17, z2.out]
            rw [e1.1] at kk
            have f : sf s (stv s 72 (40 * q + j) (narS (σ q) z)) sS := sf.rf.st (Or.inr (Or.inr rfl))
            refine kk _ _ _ e1.2.symm H (N.fr f (by unfold sS; decide)) (Mk.sh f (fun p hp => ?_)) (f.mono (fun i g => by unfold sS at g; unfold hS; omega))
            obtain ⟨u1, u2, u3⟩ := hSh p hp
            refine ⟨(congrFun (stv_n (by decide)) _).trans u1, (congrFun (stv_n (by decide)) _).trans u2, fun i hi => ?_⟩
            dsimp only
            by_cases e : p = q
            · subst e
              rw [up1_s]
              unfold upd
              by_cases e2 : i = j
              · subst e2
                rw [if_pos rfl, stv_a]
              · rw [if_neg e2, stv_o (by omega)]
                exact u3 i hi
            · rw [up1_n e, stv_o (by omega)]
              exact u3 i hi
          refine q_ifne (pc := 36) rfl (fun _ => ?_) (fun z => absurd z (by decide))
          refine q_aload_n (pc := 42) rfl rfl rfl ?_
          refine q_getf (pc := 43) rfl (by exact HR.c H hl _ rfl) rfl rfl ?_
          refine q_bipush (pc := 46) rfl (nI 40) (by decide) ?_
          refine q_iload_n (pc := 48) rfl rfl ?_
          first | refine n_imul (pc := 49) rfl ?_ | refine q_imul (pc := 49) rfl ?_
          refine q_iload_n (pc := 50) rfl rfl ?_
          first | refine n_iadd (pc := 51) rfl ?_ | refine q_iadd (pc := 51) rfl ?_
          refine q_aload_n (pc := 52) rfl rfl rfl ?_
          refine q_getf (pc := 53) rfl (by exact HR.c H hl _ rfl) rfl rfl ?_
          refine q_iload_n (pc := 56) rfl rfl ?_
          refine n_ild (pc := 57) rfl (by first | exact HR.la H hl rfl rfl N | exact HR.la0 H hl rfl rfl) rfl (by omega) (by omega) ?_
          rw [g1]
          refine q_ifne (pc := 58) rfl (fun h58 => ?_) (fun h58 => ?_)
          · first
            | (exfalso; omega (config := {splitDisjunctions := false}))
            | exact absurd rfl h58
            | skip
              refine q_aload_n (pc := 66) rfl rfl rfl ?_
              refine q_getf (pc := 67) rfl (by exact HR.c H hl _ rfl) rfl rfl ?_
              refine q_iload_n (pc := 70) rfl rfl ?_
              refine n_ild (pc := 71) rfl (by first | exact HR.la H hl rfl rfl N | exact HR.la0 H hl rfl rfl) rfl (by omega) (by omega) ?_
              rw [g1]
              refine q_iconst (pc := 72) rfl (nI 1) (by decide) ?_
              refine q_icmpne (pc := 73) rfl (fun h73 => ?_) (fun h73 => ?_)
              · first
                | (exfalso; omega (config := {splitDisjunctions := false}))
                | exact absurd rfl h73
                | skip
                  refine q_iload_n (pc := 81) rfl rfl ?_
                  refine key _ ?_
                  unfold narS
                  first
                  | rw [if_pos h58]
                  | rw [if_neg h58, if_neg (show ¬ σ q = 1 from h73)]
                  | rw [if_neg h58, if_pos (show σ q = 1 from h73)]
              · first
                | (exfalso; omega (config := {splitDisjunctions := false}))
                | exact absurd rfl h73
                | skip
                  refine q_iload_n (pc := 76) rfl rfl ?_
                  refine q_i2s (pc := 77) rfl ?_
                  refine q_goto (pc := 78) rfl ?_
                  refine key _ ?_
                  unfold narS
                  first
                  | rw [if_pos h58]
                  | rw [if_neg h58, if_neg (show ¬ σ q = 1 from h73)]
                  | rw [if_neg h58, if_pos (show σ q = 1 from h73)]
          · first
            | (exfalso; omega (config := {splitDisjunctions := false}))
            | exact absurd rfl h58
            | skip
              refine q_iload_n (pc := 61) rfl rfl ?_
              refine q_i2b (pc := 62) rfl ?_
              refine q_goto (pc := 63) rfl ?_
              refine key _ ?_
              unfold narS
              first
              | rw [if_pos h58]
              | rw [if_neg h58, if_neg (show ¬ σ q = 1 from h73)]
              | rw [if_neg h58, if_pos (show σ q = 1 from h73)]
        · have z2 : Hd (rg (sz q) y = sz q) := rg_out g
          refine q_ifne (pc := 36) rfl (fun z => absurd z (by decide)) (fun _ => ?_)
          refine q_bipush (pc := 39) rfl (-12) (by decide) ?_
          refine q_iret (pc := 41) rfl (rfl) ?_
          have e1 : o_cell σ sz (nI q) y = -12 ∧ n_cell σ sz cl (nI q) y z = (σ, sz, cl) := by
            refine ⟨?_, ?_⟩
            · unfold o_cell
              first | rw [zs.out, if_pos hq, if_neg q17, z2.out, if_neg (by omega)] | rw [zs.out, if_pos hq, if_neg q17, z2.out]
            · unfold n_cell
              first | rw [zs.out, if_pos hq, if_neg q17, z2.out, if_neg (by omega)] | rw [zs.out, if_pos hq, if_neg q17, z2.out]
          rw [e1.1] at kk
          exact kk _ _ _ e1.2.symm H N Mk sf.rf
    · have q17 : σ q = -1 := h17
      first
      | (exfalso; omega (config := {splitDisjunctions := false}))
      | exact absurd rfl h17
      | skip
        refine q_bipush (pc := 20) rfl (-11) (by decide) ?_
        refine q_iret (pc := 22) rfl (rfl) ?_
        have e1 : o_cell σ sz (nI q) y = -11 ∧ n_cell σ sz cl (nI q) y z = (σ, sz, cl) := by
          refine ⟨?_, ?_⟩
          · unfold o_cell
            first | rw [zs.out, if_pos hq, if_pos q17] | rw [zs.out, if_pos hq]
          · unfold n_cell
            first | rw [zs.out, if_pos hq, if_pos q17] | rw [zs.out, if_pos hq]
        rw [e1.1] at kk
        exact kk _ _ _ e1.2.symm H N Mk sf.rf
  · have zs : Hd (rg 4 x = 4) := rg_out g4
    refine q_ifne (pc := 4) rfl (fun z => absurd z (by decide)) (fun _ => ?_)
    refine q_bipush (pc := 7) rfl (-2) (by decide) ?_
    refine q_iret (pc := 9) rfl (rfl) ?_
    have e1 : o_cell σ sz x y = -2 ∧ n_cell σ sz cl x y z = (σ, sz, cl) := by
      refine ⟨?_, ?_⟩
      · unfold o_cell
        first | rw [zs.out, if_neg (by omega)] | rw [zs.out]
      · unfold n_cell
        first | rw [zs.out, if_neg (by omega)] | rw [zs.out]
    rw [e1.1] at kk
    exact kk _ _ _ e1.2.symm H N Mk sf.rf
theorem m_copyA {q i0 n0 : Nat} {z3 z4 : Int32} (hl : 75 ≤ P.1) (hq : q < 4) (hin : i0 + n0 ≤ 40) {s0 : mx_St} (kk : ∀ h' s', HR P h' s' → sf s0 s' (fun i => i = 73) → (∀ k, k < n0 → s' 73 k = s0 72 (40 * q + i0 + k)) → wq d 199 139 [some (.ref 54), some (.int (nI q)), some (.int (nI i0)), some (.int z3), some (.int z4), some (.int (nI n0)), some (.int (nI n0))] [] h' Q) (n i : Nat) (hi : i + n = n0) (h : mx_H) (s : mx_St) (H : HR P h s) (f : sf s0 s (fun i => i = 73)) (c1 : ∀ k, k < i → s 73 k = s0 72 (40 * q + i0 + k)) : wq d 199 105 [some (.ref 54), some (.int (nI q)), some (.int (nI i0)), some (.int z3), some (.int z4), some (.int (nI n0)), some (.int (nI i))] [] h Q := by
  match n, hi with
  | 0, hi =>
    obtain rfl : i = n0 := by omega
    refine q_iload (pc := 105) rfl rfl ?_
    refine q_iload (pc := 107) rfl rfl ?_
    first | refine n_icmpge (pc := 109) rfl (by omega) (by omega) (fun h109 => ?_) (fun h109 => ?_) | refine q_icmpge (pc := 109) rfl (fun h109 => ?_) (fun h109 => ?_)
    · exact kk _ _ H f c1
    · first | (exfalso; omega) | exact absurd h109 (nI_pos (by omega)) | exact absurd (nI_pos' (by omega)) h109
  | n + 1, hi =>
    refine q_iload (pc := 105) rfl rfl ?_
    refine q_iload (pc := 107) rfl rfl ?_
    first | refine n_icmpge (pc := 109) rfl (by omega) (by omega) (fun h109 => ?_) (fun h109 => ?_) | refine q_icmpge (pc := 109) rfl (fun h109 => ?_) (fun h109 => ?_)
    · first | (exfalso; omega) | exact absurd h109 (nI_pos (by omega)) | exact absurd (nI_pos' (by omega)) h109
    · refine q_aload_n (pc := 112) rfl rfl rfl ?_
      refine q_getf (pc := 113) rfl (by exact HR.c H hl _ rfl) rfl rfl ?_
      refine q_iload (pc := 116) rfl rfl ?_
      refine q_aload_n (pc := 118) rfl rfl rfl ?_
      refine q_getf (pc := 119) rfl (by exact HR.c H hl _ rfl) rfl rfl ?_
      refine q_bipush (pc := 122) rfl (nI 40) (by decide) ?_
      refine q_iload_n (pc := 124) rfl rfl ?_
      first | refine n_imul (pc := 125) rfl ?_ | refine q_imul (pc := 125) rfl ?_
      refine q_iload_n (pc := 126) rfl rfl ?_
      first | refine n_iadd (pc := 127) rfl ?_ | refine q_iadd (pc := 127) rfl ?_
      refine q_iload (pc := 128) rfl rfl ?_
      first | refine n_iadd (pc := 130) rfl ?_ | refine q_iadd (pc := 130) rfl ?_
      refine n_ild (pc := 131) rfl (by exact HR.la0 H hl rfl rfl) rfl (by omega) (by omega) ?_
      refine r_ist2 (pc := 132) rfl H hl rfl (fun _ => rfl) rfl (by omega) (by omega) ?_
      intro h H
      first | refine n_iinc (pc := 133) rfl [_, _, _, _, _, _, _] 1 (by decide) rfl rfl ?_ | refine q_iinc (pc := 133) [_, _, _, _, _, _, _] (1) rfl rfl (by decide) rfl ?_
      refine q_goto (pc := 136) rfl ?_
      refine m_copyA hl hq hin kk n (i + 1) (by omega) h _ H (f.st (by rfl)) (fun k hk => ?_)
      by_cases e : k = i
      · subst e
        rw [stv_a, f 72 (by decide)]
      · rw [stv_o e]
        exact c1 k (by omega)
termination_by n
theorem m_copyB {q q2 i0 j0 n0 : Nat} (hl : 75 ≤ P.1) (hq2 : q2 < 4) (hjn : j0 + n0 ≤ 40) {s0 : mx_St} {G : Nat → Int32} (c0 : ∀ k, k < n0 → s0 73 k = G k) (kk : ∀ h' s', HR P h' s' → sf s0 s' (fun i => i = 72) → (∀ j, s' 72 j = if 40 * q2 + j0 ≤ j ∧ j < 40 * q2 + j0 + n0 then G (j - (40 * q2 + j0)) else s0 72 j) → Q (some (.int (nI n0))) h') (n i : Nat) (hi : i + n = n0) (h : mx_H) (s : mx_St) (H : HR P h s) (f : sf s0 s (fun i => i = 72)) (c1 : ∀ j, s 72 j = if 40 * q2 + j0 ≤ j ∧ j < 40 * q2 + j0 + i then G (j - (40 * q2 + j0)) else s0 72 j) : wq d 199 142 [some (.ref 54), some (.int (nI q)), some (.int (nI i0)), some (.int (nI q2)), some (.int (nI j0)), some (.int (nI n0)), some (.int (nI i))] [] h Q := by
  match n, hi with
  | 0, hi =>
    obtain rfl : i = n0 := by omega
    refine q_iload (pc := 142) rfl rfl ?_
    refine q_iload (pc := 144) rfl rfl ?_
    first | refine n_icmpge (pc := 146) rfl (by omega) (by omega) (fun h146 => ?_) (fun h146 => ?_) | refine q_icmpge (pc := 146) rfl (fun h146 => ?_) (fun h146 => ?_)
    · refine q_iload (pc := 177) rfl rfl ?_
      refine q_iret (pc := 179) rfl (rfl) ?_
      exact kk _ _ H f c1
    · first | (exfalso; omega) | exact absurd h146 (nI_pos (by omega)) | exact absurd (nI_pos' (by omega)) h146
  | n + 1, hi =>
    have e73 : s 73 i = G i := (congrFun (f 73 (by decide)) i).trans (c0 i (by omega))
    refine q_iload (pc := 142) rfl rfl ?_
    refine q_iload (pc := 144) rfl rfl ?_
    first | refine n_icmpge (pc := 146) rfl (by omega) (by omega) (fun h146 => ?_) (fun h146 => ?_) | refine q_icmpge (pc := 146) rfl (fun h146 => ?_) (fun h146 => ?_)
    · first | (exfalso; omega) | exact absurd h146 (nI_pos (by omega)) | exact absurd (nI_pos' (by omega)) h146
    · refine q_aload_n (pc := 149) rfl rfl rfl ?_
      refine q_getf (pc := 150) rfl (by exact HR.c H hl _ rfl) rfl rfl ?_
      refine q_bipush (pc := 153) rfl (nI 40) (by decide) ?_
      refine q_iload_n (pc := 155) rfl rfl ?_
      first | refine n_imul (pc := 156) rfl ?_ | refine q_imul (pc := 156) rfl ?_
      refine q_iload (pc := 157) rfl rfl ?_
      first | refine n_iadd (pc := 159) rfl ?_ | refine q_iadd (pc := 159) rfl ?_
      refine q_iload (pc := 160) rfl rfl ?_
      first | refine n_iadd (pc := 162) rfl ?_ | refine q_iadd (pc := 162) rfl ?_
      refine q_aload_n (pc := 163) rfl rfl rfl ?_
      refine q_getf (pc := 164) rfl (by exact HR.c H hl _ rfl) rfl rfl ?_
      refine q_iload (pc := 167) rfl rfl ?_
      refine n_ild (pc := 169) rfl (by exact HR.la0 H hl rfl rfl) rfl (by omega) (by omega) ?_
      rw [e73]
      refine r_ist2 (pc := 170) rfl H hl rfl (fun _ => rfl) rfl (by omega) (by omega) ?_
      intro h H
      first | refine n_iinc (pc := 171) rfl [_, _, _, _, _, _, _] 1 (by decide) rfl rfl ?_ | refine q_iinc (pc := 171) [_, _, _, _, _, _, _] (1) rfl rfl (by decide) rfl ?_
      refine q_goto (pc := 174) rfl ?_
      refine m_copyB hl hq2 hjn c0 kk n (i + 1) (by omega) h _ H (f.st (by rfl)) (fun j => ?_)
      by_cases e : j = 40 * q2 + j0 + i
      · subst e
        rw [stv_a, if_pos (by omega)]
        congr 1
        omega
      · rw [stv_o e, c1 j]
        by_cases g : 40 * q2 + j0 ≤ j ∧ j < 40 * q2 + j0 + i
        · rw [if_pos g, if_pos (by omega)]
        · rw [if_neg g, if_neg (by omega)]
termination_by n
theorem m_copyC {z0 z1 z2 z3 z4 : Option Value} {a5 a6 : Int32} (kk : wq d 199 142 [z0, z1, z2, z3, z4, some (.int a5), some (.int (nI 0))] [] h Q) : wq d 199 139 [z0, z1, z2, z3, z4, some (.int a5), some (.int a6)] [] h Q := by
  refine q_iconst (pc := 139) rfl (nI 0) (by decide) ?_
  refine q_istore (pc := 140) [_, _, _, _, _, _, _] rfl (Nat.le_of_ble_eq_true rfl) rfl ?_
  exact kk
theorem MK.sh2 {s s' : mx_St} {n : Nat} {σ' : Nat → Int32} {sz' : Nat → Nat} {cl' : Nat → Nat → Int32} (M : MK s n κ ik tp tz C E σ sz cl) (f : sf s s' (fun i => i = 72 ∨ i = 73)) (hq : ∀ q, q < 4 → s' 70 q = σ' q ∧ s' 71 q = nI (sz' q) ∧ ∀ i, i < 40 → s' 72 (40 * q + i) = cl' q i) : MK s' n κ ik tp tz C E σ' sz' cl' := by
  have h1 : MK (stF s 72 (s' 72)) n κ ik tp tz C E σ' sz' cl' := M.sh (fun i hi => stF_n _ _ (fun e => hi (Or.inr (Or.inr e)))) (fun q h => by
    rw [stF_n _ _ (by decide), stF_n _ _ (by decide), stF_s, ← f 70 (by decide), ← f 71 (by decide)]
    exact hq q h)
  have h2 : mf (stF s 72 (s' 72)) s' := ⟨fun i hi => by
    by_cases e : i = 72
    · subst e; rw [stF_s]
    · rw [stF_n _ _ e]
      exact f i (fun z => z.elim e (fun z => hi (by unfold mS; omega))), by rw [stF_n _ _ (by decide), f 54 (by decide)], by rw [stF_n _ _ (by decide), f 54 (by decide)], by rw [stF_n _ _ (by decide), f 54 (by decide)]⟩
  exact h1.fr h2
theorem m_copy (hd : 20 ≤ d) (H : HR P h s) (hl : 75 ≤ P.1) (N : NW s β) (K : AOK P.2.1 β κ ik tp tz σ sz) (Mk : MK s P.2.1 κ ik tp tz C E σ sz cl) (kk : ∀ h' s' T', T' = n_cpyS σ sz cl x y z w u → HR P h' s' → NW s' β → MK s' P.2.1 κ ik tp tz C E T'.1 T'.2.1 T'.2.2 → sf s s' hS → Q (some (.int (o_copy σ sz x y z w u))) h') : wc d 199 [.ref 54, .int x, .int y, .int z, .int w, .int u] h Q := by
  have K4 := K.1.2.2.1
  have KK := K.1
  have kSh := K.2.2.2.2.2.2.2
  have hSh := Mk.2.2.2.2.2.1
  refine wc.go [_, _, _, _, _, _, _] rfl ?_
  refine q_iload_n (pc := 0) rfl rfl ?_
  refine q_callS (pc := 1) _ (by decide) rfl rfl rfl rfl (Nat.le_of_ble_eq_true rfl) (by omega) _ rfl ?_
  refine m_isSheet (by omega) (fun q hq e => ?_) (fun g4 => ?_)
  · subst e
    have zs : Hd (rg 4 (nI q) = q) := rg_in hq (by decide)
    obtain ⟨g1, g2, g3⟩ := hSh q hq
    obtain ⟨k40, kσ⟩ := kSh q hq
    refine q_ifeq (pc := 4) rfl (fun z => absurd z (by decide)) (fun _ => ?_)
    refine q_iload_n (pc := 7) rfl rfl ?_
    refine q_callS (pc := 8) _ (by decide) rfl rfl rfl rfl (Nat.le_of_ble_eq_true rfl) (by omega) _ rfl ?_
    refine m_isSheet (by omega) (fun q2 hq2 e => ?_) (fun g4 => ?_)
    · subst e
      have zt : Hd (rg 4 (nI q2) = q2) := rg_in hq2 (by decide)
      obtain ⟨e1, e2, e3⟩ := hSh q2 hq2
      obtain ⟨j40, jσ⟩ := kSh q2 hq2
      refine q_ifne (pc := 11) rfl (fun _ => ?_) (fun z => absurd z (by decide))
      refine q_aload_n (pc := 17) rfl rfl rfl ?_
      refine q_getf (pc := 18) rfl (by exact HR.c H hl _ rfl) rfl rfl ?_
      refine q_iload_n (pc := 21) rfl rfl ?_
      refine n_ild (pc := 22) rfl (by first | exact HR.la H hl rfl rfl N | exact HR.la0 H hl rfl rfl) rfl (by omega) (by omega) ?_
      rw [g1]
      refine q_iconst (pc := 23) rfl (-1) (by decide) ?_
      refine q_icmpeq (pc := 24) rfl (fun h24 => ?_) (fun h24 => ?_)
      · have gs : σ q = -1 := h24
        first
        | (exfalso; omega (config := {splitDisjunctions := false}))
        | exact absurd rfl h24
        | skip
          refine q_bipush (pc := 37) rfl (-11) (by decide) ?_
          refine q_iret (pc := 39) rfl (rfl) ?_
          first
          | (have e1 : o_copy σ sz (nI q) y (nI q2) w u = -11 ∧ n_cpyS σ sz cl (nI q) y (nI q2) w u = (σ, sz, cl) := by
               refine ⟨?_, ?_⟩
               · unfold o_copy
                 first | rw [zs.out, zt.out, if_pos (show q < 4 ∧ q2 < 4 from ⟨hq, hq2⟩), if_pos (Or.inl gs)] | rw [zs.out, zt.out, if_pos (show q < 4 ∧ q2 < 4 from ⟨hq, hq2⟩)]
               · unfold n_cpyS
                 first | rw [zs.out, zt.out, if_pos (show q < 4 ∧ q2 < 4 from ⟨hq, hq2⟩), if_pos (Or.inl gs)] | rw [zs.out, zt.out, if_pos (show q < 4 ∧ q2 < 4 from ⟨hq, hq2⟩)]
             rw [e1.1] at kk
             exact kk _ _ _ e1.2.symm H N Mk sf.rf)
          | (have e1 : o_copy σ sz (nI q) y (nI q2) w u = -11 ∧ n_cpyS σ sz cl (nI q) y (nI q2) w u = (σ, sz, cl) := by
               refine ⟨?_, ?_⟩
               · unfold o_copy
                 first | rw [zs.out, zt.out, if_pos (show q < 4 ∧ q2 < 4 from ⟨hq, hq2⟩), if_pos (Or.inr gt)] | rw [zs.out, zt.out, if_pos (show q < 4 ∧ q2 < 4 from ⟨hq, hq2⟩)]
               · unfold n_cpyS
                 first | rw [zs.out, zt.out, if_pos (show q < 4 ∧ q2 < 4 from ⟨hq, hq2⟩), if_pos (Or.inr gt)] | rw [zs.out, zt.out, if_pos (show q < 4 ∧ q2 < 4 from ⟨hq, hq2⟩)]
             rw [e1.1] at kk
             exact kk _ _ _ e1.2.symm H N Mk sf.rf)
      · have gs : σ q ≠ -1 := h24
        first
        | (exfalso; omega (config := {splitDisjunctions := false}))
        | exact absurd rfl h24
        | skip
          refine q_aload_n (pc := 27) rfl rfl rfl ?_
          refine q_getf (pc := 28) rfl (by exact HR.c H hl _ rfl) rfl rfl ?_
          refine q_iload_n (pc := 31) rfl rfl ?_
          refine n_ild (pc := 32) rfl (by first | exact HR.la H hl rfl rfl N | exact HR.la0 H hl rfl rfl) rfl (by omega) (by omega) ?_
          rw [e1]
          refine q_iconst (pc := 33) rfl (-1) (by decide) ?_
          refine q_icmpne (pc := 34) rfl (fun h34 => ?_) (fun h34 => ?_)
          · have gt : σ q2 ≠ -1 := h34
            first
            | (exfalso; omega (config := {splitDisjunctions := false}))
            | exact absurd rfl h34
            | skip
              refine q_aload_n (pc := 40) rfl rfl rfl ?_
              refine q_getf (pc := 41) rfl (by exact HR.c H hl _ rfl) rfl rfl ?_
              refine q_iload_n (pc := 44) rfl rfl ?_
              refine n_ild (pc := 45) rfl (by first | exact HR.la H hl rfl rfl N | exact HR.la0 H hl rfl rfl) rfl (by omega) (by omega) ?_
              rw [g1]
              refine q_aload_n (pc := 46) rfl rfl rfl ?_
              refine q_getf (pc := 47) rfl (by exact HR.c H hl _ rfl) rfl rfl ?_
              refine q_iload_n (pc := 50) rfl rfl ?_
              refine n_ild (pc := 51) rfl (by first | exact HR.la H hl rfl rfl N | exact HR.la0 H hl rfl rfl) rfl (by omega) (by omega) ?_
              rw [e1]
              refine q_icmpeq (pc := 52) rfl (fun h52 => ?_) (fun h52 => ?_)
              · first
                | (exfalso; omega (config := {splitDisjunctions := false}))
                | exact absurd rfl h52
                | skip
                  refine q_iload (pc := 58) rfl rfl ?_
                  refine q_iflt (pc := 60) rfl (fun h60 => ?_) (fun h60 => ?_)
                  · first
                    | (exfalso; omega (config := {splitDisjunctions := false}))
                    | skip
                      refine q_bipush (pc := 99) rfl (-12) (by decide) ?_
                      refine q_iret (pc := 101) rfl (rfl) ?_
                      first
                      | (have e1 : o_copy σ sz (nI q) y (nI q2) w u = -12 ∧ n_cpyS σ sz cl (nI q) y (nI q2) w u = (σ, sz, cl) := by
                           refine ⟨?_, ?_⟩
                           · unfold o_copy
                             first | rw [zs.out, zt.out, if_pos (show q < 4 ∧ q2 < 4 from ⟨hq, hq2⟩), if_neg (fun e => e.elim gs gt), if_neg (fun e => e h52), if_neg (fun e => e.2.2.1 h60)] | rw [zs.out, zt.out, if_pos (show q < 4 ∧ q2 < 4 from ⟨hq, hq2⟩), if_neg (fun e => e.elim gs gt), if_neg (fun e => e h52)]
                           · unfold n_cpyS
                             first | rw [zs.out, zt.out, if_pos (show q < 4 ∧ q2 < 4 from ⟨hq, hq2⟩), if_neg (fun e => e.elim gs gt), if_neg (fun e => e h52), if_neg (fun e => e.2.2.1 h60)] | rw [zs.out, zt.out, if_pos (show q < 4 ∧ q2 < 4 from ⟨hq, hq2⟩), if_neg (fun e => e.elim gs gt), if_neg (fun e => e h52)]
                         rw [e1.1] at kk
                         exact kk _ _ _ e1.2.symm H N Mk sf.rf)
                      | (have e1 : o_copy σ sz (nI q) y (nI q2) w (nI n0) = -12 ∧ n_cpyS σ sz cl (nI q) y (nI q2) w (nI n0) = (σ, sz, cl) := by
                           refine ⟨?_, ?_⟩
                           · unfold o_copy
                             first | rw [zs.out, zt.out, if_pos (show q < 4 ∧ q2 < 4 from ⟨hq, hq2⟩), if_neg (fun e => e.elim gs gt), if_neg (fun e => e h52), if_neg (fun e => e.1 h64)] | rw [zs.out, zt.out, if_pos (show q < 4 ∧ q2 < 4 from ⟨hq, hq2⟩), if_neg (fun e => e.elim gs gt), if_neg (fun e => e h52)]
                           · unfold n_cpyS
                             first | rw [zs.out, zt.out, if_pos (show q < 4 ∧ q2 < 4 from ⟨hq, hq2⟩), if_neg (fun e => e.elim gs gt), if_neg (fun e => e h52), if_neg (fun e => e.1 h64)] | rw [zs.out, zt.out, if_pos (show q < 4 ∧ q2 < 4 from ⟨hq, hq2⟩), if_neg (fun e => e.elim gs gt), if_neg (fun e => e h52)]
                         rw [e1.1] at kk
                         exact kk _ _ _ e1.2.symm H N Mk sf.rf)
                      | (have e1 : o_copy σ sz (nI q) (nI i0) (nI q2) w (nI n0) = -12 ∧ n_cpyS σ sz cl (nI q) (nI i0) (nI q2) w (nI n0) = (σ, sz, cl) := by
                           refine ⟨?_, ?_⟩
                           · unfold o_copy
                             first | rw [zs.out, zt.out, if_pos (show q < 4 ∧ q2 < 4 from ⟨hq, hq2⟩), if_neg (fun e => e.elim gs gt), if_neg (fun e => e h52), if_neg (fun e => e.2.1 h69)] | rw [zs.out, zt.out, if_pos (show q < 4 ∧ q2 < 4 from ⟨hq, hq2⟩), if_neg (fun e => e.elim gs gt), if_neg (fun e => e h52)]
                           · unfold n_cpyS
                             first | rw [zs.out, zt.out, if_pos (show q < 4 ∧ q2 < 4 from ⟨hq, hq2⟩), if_neg (fun e => e.elim gs gt), if_neg (fun e => e h52), if_neg (fun e => e.2.1 h69)] | rw [zs.out, zt.out, if_pos (show q < 4 ∧ q2 < 4 from ⟨hq, hq2⟩), if_neg (fun e => e.elim gs gt), if_neg (fun e => e h52)]
                         rw [e1.1] at kk
                         exact kk _ _ _ e1.2.symm H N Mk sf.rf)
                      | (have e1 : o_copy σ sz (nI q) (nI i0) (nI q2) (nI j0) (nI n0) = -12 ∧ n_cpyS σ sz cl (nI q) (nI i0) (nI q2) (nI j0) (nI n0) = (σ, sz, cl) := by
                           refine ⟨?_, ?_⟩
                           · unfold o_copy
                             first | rw [zs.out, zt.out, if_pos (show q < 4 ∧ q2 < 4 from ⟨hq, hq2⟩), if_neg (fun e => e.elim gs gt), if_neg (fun e => e h52), if_neg (fun e => by have e' := e; unfold cpk at e'; rw [x_cl hi0, x_cl hj0, x_cl hn0] at e'; omega)] | rw [zs.out, zt.out, if_pos (show q < 4 ∧ q2 < 4 from ⟨hq, hq2⟩), if_neg (fun e => e.elim gs gt), if_neg (fun e => e h52)]
                           · unfold n_cpyS
                             first | rw [zs.out, zt.out, if_pos (show q < 4 ∧ q2 < 4 from ⟨hq, hq2⟩), if_neg (fun e => e.elim gs gt), if_neg (fun e => e h52), if_neg (fun e => by have e' := e; unfold cpk at e'; rw [x_cl hi0, x_cl hj0, x_cl hn0] at e'; omega)] | rw [zs.out, zt.out, if_pos (show q < 4 ∧ q2 < 4 from ⟨hq, hq2⟩), if_neg (fun e => e.elim gs gt), if_neg (fun e => e h52)]
                         rw [e1.1] at kk
                         exact kk _ _ _ e1.2.symm H N Mk sf.rf)
                  · obtain ⟨n0, hn0, rfl⟩ := x_of h60
                    first
                    | (exfalso; omega (config := {splitDisjunctions := false}))
                    | skip
                      refine q_iload_n (pc := 63) rfl rfl ?_
                      refine q_iflt (pc := 64) rfl (fun h64 => ?_) (fun h64 => ?_)
                      · first
                        | (exfalso; omega (config := {splitDisjunctions := false}))
                        | skip
                          refine q_bipush (pc := 99) rfl (-12) (by decide) ?_
                          refine q_iret (pc := 101) rfl (rfl) ?_
                          first
                          | (have e1 : o_copy σ sz (nI q) y (nI q2) w u = -12 ∧ n_cpyS σ sz cl (nI q) y (nI q2) w u = (σ, sz, cl) := by
                               refine ⟨?_, ?_⟩
                               · unfold o_copy
                                 first | rw [zs.out, zt.out, if_pos (show q < 4 ∧ q2 < 4 from ⟨hq, hq2⟩), if_neg (fun e => e.elim gs gt), if_neg (fun e => e h52), if_neg (fun e => e.2.2.1 h60)] | rw [zs.out, zt.out, if_pos (show q < 4 ∧ q2 < 4 from ⟨hq, hq2⟩), if_neg (fun e => e.elim gs gt), if_neg (fun e => e h52)]
                               · unfold n_cpyS
                                 first | rw [zs.out, zt.out, if_pos (show q < 4 ∧ q2 < 4 from ⟨hq, hq2⟩), if_neg (fun e => e.elim gs gt), if_neg (fun e => e h52), if_neg (fun e => e.2.2.1 h60)] | rw [zs.out, zt.out, if_pos (show q < 4 ∧ q2 < 4 from ⟨hq, hq2⟩), if_neg (fun e => e.elim gs gt), if_neg (fun e => e h52)]
                             rw [e1.1] at kk
                             exact kk _ _ _ e1.2.symm H N Mk sf.rf)
                          | (have e1 : o_copy σ sz (nI q) y (nI q2) w (nI n0) = -12 ∧ n_cpyS σ sz cl (nI q) y (nI q2) w (nI n0) = (σ, sz, cl) := by
                               refine ⟨?_, ?_⟩
                               · unfold o_copy
                                 first | rw [zs.out, zt.out, if_pos (show q < 4 ∧ q2 < 4 from ⟨hq, hq2⟩), if_neg (fun e => e.elim gs gt), if_neg (fun e => e h52), if_neg (fun e => e.1 h64)] | rw [zs.out, zt.out, if_pos (show q < 4 ∧ q2 < 4 from ⟨hq, hq2⟩), if_neg (fun e => e.elim gs gt), if_neg (fun e => e h52)]
                               · unfold n_cpyS
                                 first | rw [zs.out, zt.out, if_pos (show q < 4 ∧ q2 < 4 from ⟨hq, hq2⟩), if_neg (fun e => e.elim gs gt), if_neg (fun e => e h52), if_neg (fun e => e.1 h64)] | rw [zs.out, zt.out, if_pos (show q < 4 ∧ q2 < 4 from ⟨hq, hq2⟩), if_neg (fun e => e.elim gs gt), if_neg (fun e => e h52)]
                             rw [e1.1] at kk
                             exact kk _ _ _ e1.2.symm H N Mk sf.rf)
                          | (have e1 : o_copy σ sz (nI q) (nI i0) (nI q2) w (nI n0) = -12 ∧ n_cpyS σ sz cl (nI q) (nI i0) (nI q2) w (nI n0) = (σ, sz, cl) := by
                               refine ⟨?_, ?_⟩
                               · unfold o_copy
                                 first | rw [zs.out, zt.out, if_pos (show q < 4 ∧ q2 < 4 from ⟨hq, hq2⟩), if_neg (fun e => e.elim gs gt), if_neg (fun e => e h52), if_neg (fun e => e.2.1 h69)] | rw [zs.out, zt.out, if_pos (show q < 4 ∧ q2 < 4 from ⟨hq, hq2⟩), if_neg (fun e => e.elim gs gt), if_neg (fun e => e h52)]
                               · unfold n_cpyS
                                 first | rw [zs.out, zt.out, if_pos (show q < 4 ∧ q2 < 4 from ⟨hq, hq2⟩), if_neg (fun e => e.elim gs gt), if_neg (fun e => e h52), if_neg (fun e => e.2.1 h69)] | rw [zs.out, zt.out, if_pos (show q < 4 ∧ q2 < 4 from ⟨hq, hq2⟩), if_neg (fun e => e.elim gs gt), if_neg (fun e => e h52)]
                             rw [e1.1] at kk
                             exact kk _ _ _ e1.2.symm H N Mk sf.rf)
                          | (have e1 : o_copy σ sz (nI q) (nI i0) (nI q2) (nI j0) (nI n0) = -12 ∧ n_cpyS σ sz cl (nI q) (nI i0) (nI q2) (nI j0) (nI n0) = (σ, sz, cl) := by
                               refine ⟨?_, ?_⟩
                               · unfold o_copy
                                 first | rw [zs.out, zt.out, if_pos (show q < 4 ∧ q2 < 4 from ⟨hq, hq2⟩), if_neg (fun e => e.elim gs gt), if_neg (fun e => e h52), if_neg (fun e => by have e' := e; unfold cpk at e'; rw [x_cl hi0, x_cl hj0, x_cl hn0] at e'; omega)] | rw [zs.out, zt.out, if_pos (show q < 4 ∧ q2 < 4 from ⟨hq, hq2⟩), if_neg (fun e => e.elim gs gt), if_neg (fun e => e h52)]
                               · unfold n_cpyS
                                 first | rw [zs.out, zt.out, if_pos (show q < 4 ∧ q2 < 4 from ⟨hq, hq2⟩), if_neg (fun e => e.elim gs gt), if_neg (fun e => e h52), if_neg (fun e => by have e' := e; unfold cpk at e'; rw [x_cl hi0, x_cl hj0, x_cl hn0] at e'; omega)] | rw [zs.out, zt.out, if_pos (show q < 4 ∧ q2 < 4 from ⟨hq, hq2⟩), if_neg (fun e => e.elim gs gt), if_neg (fun e => e h52)]
                             rw [e1.1] at kk
                             exact kk _ _ _ e1.2.symm H N Mk sf.rf)
                      · obtain ⟨i0, hi0, rfl⟩ := x_of h64
                        first
                        | (exfalso; omega (config := {splitDisjunctions := false}))
                        | skip
                          refine q_iload (pc := 67) rfl rfl ?_
                          refine q_iflt (pc := 69) rfl (fun h69 => ?_) (fun h69 => ?_)
                          · first
                            | (exfalso; omega (config := {splitDisjunctions := false}))
                            | skip
                              refine q_bipush (pc := 99) rfl (-12) (by decide) ?_
                              refine q_iret (pc := 101) rfl (rfl) ?_
                              first
                              | (have e1 : o_copy σ sz (nI q) y (nI q2) w u = -12 ∧ n_cpyS σ sz cl (nI q) y (nI q2) w u = (σ, sz, cl) := by
                                   refine ⟨?_, ?_⟩
                                   · unfold o_copy
                                     first | rw [zs.out, zt.out, if_pos (show q < 4 ∧ q2 < 4 from ⟨hq, hq2⟩), if_neg (fun e => e.elim gs gt), if_neg (fun e => e h52), if_neg (fun e => e.2.2.1 h60)] | rw [zs.out, zt.out, if_pos (show q < 4 ∧ q2 < 4 from ⟨hq, hq2⟩), if_neg (fun e => e.elim gs gt), if_neg (fun e => e h52)]
                                   · unfold n_cpyS
                                     first | rw [zs.out, zt.out, if_pos (show q < 4 ∧ q2 < 4 from ⟨hq, hq2⟩), if_neg (fun e => e.elim gs gt), if_neg (fun e => e h52), if_neg (fun e => e.2.2.1 h60)] | rw [zs.out, zt.out, if_pos (show q < 4 ∧ q2 < 4 from ⟨hq, hq2⟩), if_neg (fun e => e.elim gs gt), if_neg (fun e => e h52)]
                                 rw [e1.1] at kk
                                 exact kk _ _ _ e1.2.symm H N Mk sf.rf)
                              | (have e1 : o_copy σ sz (nI q) y (nI q2) w (nI n0) = -12 ∧ n_cpyS σ sz cl (nI q) y (nI q2) w (nI n0) = (σ, sz, cl) := by
                                   refine ⟨?_, ?_⟩
                                   · unfold o_copy
                                     first | rw [zs.out, zt.out, if_pos (show q < 4 ∧ q2 < 4 from ⟨hq, hq2⟩), if_neg (fun e => e.elim gs gt), if_neg (fun e => e h52), if_neg (fun e => e.1 h64)] | rw [zs.out, zt.out, if_pos (show q < 4 ∧ q2 < 4 from ⟨hq, hq2⟩), if_neg (fun e => e.elim gs gt), if_neg (fun e => e h52)]
                                   · unfold n_cpyS
                                     first | rw [zs.out, zt.out, if_pos (show q < 4 ∧ q2 < 4 from ⟨hq, hq2⟩), if_neg (fun e => e.elim gs gt), if_neg (fun e => e h52), if_neg (fun e => e.1 h64)] | rw [zs.out, zt.out, if_pos (show q < 4 ∧ q2 < 4 from ⟨hq, hq2⟩), if_neg (fun e => e.elim gs gt), if_neg (fun e => e h52)]
                                 rw [e1.1] at kk
                                 exact kk _ _ _ e1.2.symm H N Mk sf.rf)
                              | (have e1 : o_copy σ sz (nI q) (nI i0) (nI q2) w (nI n0) = -12 ∧ n_cpyS σ sz cl (nI q) (nI i0) (nI q2) w (nI n0) = (σ, sz, cl) := by
                                   refine ⟨?_, ?_⟩
                                   · unfold o_copy
                                     first | rw [zs.out, zt.out, if_pos (show q < 4 ∧ q2 < 4 from ⟨hq, hq2⟩), if_neg (fun e => e.elim gs gt), if_neg (fun e => e h52), if_neg (fun e => e.2.1 h69)] | rw [zs.out, zt.out, if_pos (show q < 4 ∧ q2 < 4 from ⟨hq, hq2⟩), if_neg (fun e => e.elim gs gt), if_neg (fun e => e h52)]
                                   · unfold n_cpyS
                                     first | rw [zs.out, zt.out, if_pos (show q < 4 ∧ q2 < 4 from ⟨hq, hq2⟩), if_neg (fun e => e.elim gs gt), if_neg (fun e => e h52), if_neg (fun e => e.2.1 h69)] | rw [zs.out, zt.out, if_pos (show q < 4 ∧ q2 < 4 from ⟨hq, hq2⟩), if_neg (fun e => e.elim gs gt), if_neg (fun e => e h52)]
                                 rw [e1.1] at kk
                                 exact kk _ _ _ e1.2.symm H N Mk sf.rf)
                              | (have e1 : o_copy σ sz (nI q) (nI i0) (nI q2) (nI j0) (nI n0) = -12 ∧ n_cpyS σ sz cl (nI q) (nI i0) (nI q2) (nI j0) (nI n0) = (σ, sz, cl) := by
                                   refine ⟨?_, ?_⟩
                                   · unfold o_copy
                                     first | rw [zs.out, zt.out, if_pos (show q < 4 ∧ q2 < 4 from ⟨hq, hq2⟩), if_neg (fun e => e.elim gs gt), if_neg (fun e => e h52), if_neg (fun e => by have e' := e; unfold cpk at e'; rw [x_cl hi0, x_cl hj0, x_cl hn0] at e'; omega)] | rw [zs.out, zt.out, if_pos (show q < 4 ∧ q2 < 4 from ⟨hq, hq2⟩), if_neg (fun e => e.elim gs gt), if_neg (fun e => e h52)]
                                   · unfold n_cpyS
                                     first | rw [zs.out, zt.out, if_pos (show q < 4 ∧ q2 < 4 from ⟨hq, hq2⟩), if_neg (fun e => e.elim gs gt), if_neg (fun e => e h52), if_neg (fun e => by have e' := e; unfold cpk at e'; rw [x_cl hi0, x_cl hj0, x_cl hn0] at e'; omega)] | rw [zs.out, zt.out, if_pos (show q < 4 ∧ q2 < 4 from ⟨hq, hq2⟩), if_neg (fun e => e.elim gs gt), if_neg (fun e => e h52)]
                                 rw [e1.1] at kk
                                 exact kk _ _ _ e1.2.symm H N Mk sf.rf)
                          · obtain ⟨j0, hj0, rfl⟩ := x_of h69
                            first
                            | (exfalso; omega (config := {splitDisjunctions := false}))
                            | skip
                              refine q_iload (pc := 72) rfl rfl ?_
                              refine q_aload_n (pc := 74) rfl rfl rfl ?_
                              refine q_getf (pc := 75) rfl (by exact HR.c H hl _ rfl) rfl rfl ?_
                              refine q_iload_n (pc := 78) rfl rfl ?_
                              refine n_ild (pc := 79) rfl (by first | exact HR.la H hl rfl rfl N | exact HR.la0 H hl rfl rfl) rfl (by omega) (by omega) ?_
                              rw [g2]
                              refine q_iload_n (pc := 80) rfl rfl ?_
                              refine q_isub (pc := 81) rfl ?_
                              refine q_icmpgt (pc := 82) rfl (fun h82 => ?_) (fun h82 => ?_)
                              · have h82 : sz q < n0 + i0 := (cpl (by omega) hi0 hn0).mp h82
                                first
                                | (exfalso; omega (config := {splitDisjunctions := false}))
                                | skip
                                  refine q_bipush (pc := 99) rfl (-12) (by decide) ?_
                                  refine q_iret (pc := 101) rfl (rfl) ?_
                                  first
                                  | (have e1 : o_copy σ sz (nI q) y (nI q2) w u = -12 ∧ n_cpyS σ sz cl (nI q) y (nI q2) w u = (σ, sz, cl) := by
                                       refine ⟨?_, ?_⟩
                                       · unfold o_copy
                                         first | rw [zs.out, zt.out, if_pos (show q < 4 ∧ q2 < 4 from ⟨hq, hq2⟩), if_neg (fun e => e.elim gs gt), if_neg (fun e => e h52), if_neg (fun e => e.2.2.1 h60)] | rw [zs.out, zt.out, if_pos (show q < 4 ∧ q2 < 4 from ⟨hq, hq2⟩), if_neg (fun e => e.elim gs gt), if_neg (fun e => e h52)]
                                       · unfold n_cpyS
                                         first | rw [zs.out, zt.out, if_pos (show q < 4 ∧ q2 < 4 from ⟨hq, hq2⟩), if_neg (fun e => e.elim gs gt), if_neg (fun e => e h52), if_neg (fun e => e.2.2.1 h60)] | rw [zs.out, zt.out, if_pos (show q < 4 ∧ q2 < 4 from ⟨hq, hq2⟩), if_neg (fun e => e.elim gs gt), if_neg (fun e => e h52)]
                                     rw [e1.1] at kk
                                     exact kk _ _ _ e1.2.symm H N Mk sf.rf)
                                  | (have e1 : o_copy σ sz (nI q) y (nI q2) w (nI n0) = -12 ∧ n_cpyS σ sz cl (nI q) y (nI q2) w (nI n0) = (σ, sz, cl) := by
                                       refine ⟨?_, ?_⟩
                                       · unfold o_copy
                                         first | rw [zs.out, zt.out, if_pos (show q < 4 ∧ q2 < 4 from ⟨hq, hq2⟩), if_neg (fun e => e.elim gs gt), if_neg (fun e => e h52), if_neg (fun e => e.1 h64)] | rw [zs.out, zt.out, if_pos (show q < 4 ∧ q2 < 4 from ⟨hq, hq2⟩), if_neg (fun e => e.elim gs gt), if_neg (fun e => e h52)]
                                       · unfold n_cpyS
                                         first | rw [zs.out, zt.out, if_pos (show q < 4 ∧ q2 < 4 from ⟨hq, hq2⟩), if_neg (fun e => e.elim gs gt), if_neg (fun e => e h52), if_neg (fun e => e.1 h64)] | rw [zs.out, zt.out, if_pos (show q < 4 ∧ q2 < 4 from ⟨hq, hq2⟩), if_neg (fun e => e.elim gs gt), if_neg (fun e => e h52)]
                                     rw [e1.1] at kk
                                     exact kk _ _ _ e1.2.symm H N Mk sf.rf)
                                  | (have e1 : o_copy σ sz (nI q) (nI i0) (nI q2) w (nI n0) = -12 ∧ n_cpyS σ sz cl (nI q) (nI i0) (nI q2) w (nI n0) = (σ, sz, cl) := by
                                       refine ⟨?_, ?_⟩
                                       · unfold o_copy
                                         first | rw [zs.out, zt.out, if_pos (show q < 4 ∧ q2 < 4 from ⟨hq, hq2⟩), if_neg (fun e => e.elim gs gt), if_neg (fun e => e h52), if_neg (fun e => e.2.1 h69)] | rw [zs.out, zt.out, if_pos (show q < 4 ∧ q2 < 4 from ⟨hq, hq2⟩), if_neg (fun e => e.elim gs gt), if_neg (fun e => e h52)]
                                       · unfold n_cpyS
                                         first | rw [zs.out, zt.out, if_pos (show q < 4 ∧ q2 < 4 from ⟨hq, hq2⟩), if_neg (fun e => e.elim gs gt), if_neg (fun e => e h52), if_neg (fun e => e.2.1 h69)] | rw [zs.out, zt.out, if_pos (show q < 4 ∧ q2 < 4 from ⟨hq, hq2⟩), if_neg (fun e => e.elim gs gt), if_neg (fun e => e h52)]
                                     rw [e1.1] at kk
                                     exact kk _ _ _ e1.2.symm H N Mk sf.rf)
                                  | (have e1 : o_copy σ sz (nI q) (nI i0) (nI q2) (nI j0) (nI n0) = -12 ∧ n_cpyS σ sz cl (nI q) (nI i0) (nI q2) (nI j0) (nI n0) = (σ, sz, cl) := by
                                       refine ⟨?_, ?_⟩
                                       · unfold o_copy
                                         first | rw [zs.out, zt.out, if_pos (show q < 4 ∧ q2 < 4 from ⟨hq, hq2⟩), if_neg (fun e => e.elim gs gt), if_neg (fun e => e h52), if_neg (fun e => by have e' := e; unfold cpk at e'; rw [x_cl hi0, x_cl hj0, x_cl hn0] at e'; omega)] | rw [zs.out, zt.out, if_pos (show q < 4 ∧ q2 < 4 from ⟨hq, hq2⟩), if_neg (fun e => e.elim gs gt), if_neg (fun e => e h52)]
                                       · unfold n_cpyS
                                         first | rw [zs.out, zt.out, if_pos (show q < 4 ∧ q2 < 4 from ⟨hq, hq2⟩), if_neg (fun e => e.elim gs gt), if_neg (fun e => e h52), if_neg (fun e => by have e' := e; unfold cpk at e'; rw [x_cl hi0, x_cl hj0, x_cl hn0] at e'; omega)] | rw [zs.out, zt.out, if_pos (show q < 4 ∧ q2 < 4 from ⟨hq, hq2⟩), if_neg (fun e => e.elim gs gt), if_neg (fun e => e h52)]
                                     rw [e1.1] at kk
                                     exact kk _ _ _ e1.2.symm H N Mk sf.rf)
                              · have h82 : ¬ sz q < n0 + i0 := (fun z => h82 ((cpl (by omega) hi0 hn0).mpr z))
                                first
                                | (exfalso; omega (config := {splitDisjunctions := false}))
                                | skip
                                  refine q_iload (pc := 85) rfl rfl ?_
                                  refine q_aload_n (pc := 87) rfl rfl rfl ?_
                                  refine q_getf (pc := 88) rfl (by exact HR.c H hl _ rfl) rfl rfl ?_
                                  refine q_iload_n (pc := 91) rfl rfl ?_
                                  refine n_ild (pc := 92) rfl (by first | exact HR.la H hl rfl rfl N | exact HR.la0 H hl rfl rfl) rfl (by omega) (by omega) ?_
                                  rw [e2]
                                  refine q_iload (pc := 93) rfl rfl ?_
                                  refine q_isub (pc := 95) rfl ?_
                                  refine q_icmple (pc := 96) rfl (fun h96 => ?_) (fun h96 => ?_)
                                  · have h96 : ¬ sz q2 < n0 + j0 := (fun z => (Int32.not_lt.mpr h96) ((cpl (by omega) hj0 hn0).mpr z))
                                    first
                                    | (exfalso; omega (config := {splitDisjunctions := false}))
                                    | skip
                                      refine q_iconst (pc := 102) rfl (nI 0) (by decide) ?_
                                      refine q_istore (pc := 103) [_, _, _, _, _, _, _] rfl (Nat.le_of_ble_eq_true rfl) rfl ?_
                                      have kc : cpk (nI i0) (nI j0) (nI n0) (sz q) (sz q2) := ⟨nI_pos hi0, nI_pos hj0, nI_pos hn0, by rw [x_cl hi0, x_cl hn0]; omega, by rw [x_cl hj0, x_cl hn0]; omega⟩
                                      have e1 : o_copy σ sz (nI q) (nI i0) (nI q2) (nI j0) (nI n0) = nI n0 ∧ n_cpyS σ sz cl (nI q) (nI i0) (nI q2) (nI j0) (nI n0) = (σ, sz, up1 cl q2 (va_cpy (cl q) (cl q2) i0 j0 n0)) := by
                                        refine ⟨?_, ?_⟩
                                        · unfold o_copy
                                          first | rw [zs.out, zt.out, if_pos (show q < 4 ∧ q2 < 4 from ⟨hq, hq2⟩), if_neg (fun e => e.elim gs gt), if_neg (fun e => e h52), if_pos kc, x_cl hi0, x_cl hj0, x_cl hn0] | rw [zs.out, zt.out, if_pos (show q < 4 ∧ q2 < 4 from ⟨hq, hq2⟩), if_neg (fun e => e.elim gs gt), if_neg (fun e => e h52), if_pos kc] | rw [zs.out, zt.out, if_pos (show q < 4 ∧ q2 < 4 from ⟨hq, hq2⟩), if_neg (fun e => e.elim gs gt), if_neg (fun e => e h52)]
                                        · unfold n_cpyS
                                          first | rw [zs.out, zt.out, if_pos (show q < 4 ∧ q2 < 4 from ⟨hq, hq2⟩), if_neg (fun e => e.elim gs gt), if_neg (fun e => e h52), if_pos kc, x_cl hi0, x_cl hj0, x_cl hn0] | rw [zs.out, zt.out, if_pos (show q < 4 ∧ q2 < 4 from ⟨hq, hq2⟩), if_neg (fun e => e.elim gs gt), if_neg (fun e => e h52), if_pos kc] | rw [zs.out, zt.out, if_pos (show q < 4 ∧ q2 < 4 from ⟨hq, hq2⟩), if_neg (fun e => e.elim gs gt), if_neg (fun e => e h52)]
                                      rw [e1.1] at kk
                                      refine m_copyA hl hq (by omega) (fun h1 s1 H f1 c1 => ?_) n0 0 (by omega) h s H sf.rf (fun k hk => by omega)
                                      refine m_copyC ?_
                                      refine m_copyB hl hq2 (by omega) (G := fun k => s 72 (40 * q + i0 + k)) c1 (fun h2 s2 H f2 c2 => ?_) n0 0 (by omega) h1 s1 H sf.rf (fun j => by rw [if_neg (by omega)])
                                      have f : sf s s2 (fun i => i = 72 ∨ i = 73) := (f1.mono (fun i g => Or.inr g)).tr (f2.mono (fun i g => Or.inl g))
                                      refine kk _ _ _ e1.2.symm H (N.fr f (by decide)) (Mk.sh2 f (fun p hp => ?_)) (f.mono (fun i g => by unfold hS; omega))
                                      obtain ⟨u1, u2, u3⟩ := hSh p hp
                                      refine ⟨(congrFun (f 70 (by decide)) _).trans u1, (congrFun (f 71 (by decide)) _).trans u2, fun i hi => ?_⟩
                                      dsimp only
                                      rw [c2]
                                      by_cases e : p = q2
                                      · subst e
                                        rw [up1_s]
                                        by_cases g : j0 ≤ i ∧ i < j0 + n0
                                        · rw [if_pos (by omega), pk_cpy_in g.1 g.2, ← g3 (i0 + (i - j0)) (by omega)]
                                          congr 1
                                          omega
                                        · rw [if_neg (by omega), pk_cpy_out (by omega), f1 72 (by decide)]
                                          exact u3 i hi
                                      · rw [up1_n e, if_neg (by omega), f1 72 (by decide)]
                                        exact u3 i hi
                                  · have h96 : sz q2 < n0 + j0 := (cpl (by omega) hj0 hn0).mp (Int32.not_le.mp h96)
                                    first
                                    | (exfalso; omega (config := {splitDisjunctions := false}))
                                    | skip
                                      refine q_bipush (pc := 99) rfl (-12) (by decide) ?_
                                      refine q_iret (pc := 101) rfl (rfl) ?_
                                      first
                                      | (have e1 : o_copy σ sz (nI q) y (nI q2) w u = -12 ∧ n_cpyS σ sz cl (nI q) y (nI q2) w u = (σ, sz, cl) := by
                                           refine ⟨?_, ?_⟩
                                           · unfold o_copy
                                             first | rw [zs.out, zt.out, if_pos (show q < 4 ∧ q2 < 4 from ⟨hq, hq2⟩), if_neg (fun e => e.elim gs gt), if_neg (fun e => e h52), if_neg (fun e => e.2.2.1 h60)] | rw [zs.out, zt.out, if_pos (show q < 4 ∧ q2 < 4 from ⟨hq, hq2⟩), if_neg (fun e => e.elim gs gt), if_neg (fun e => e h52)]
                                           · unfold n_cpyS
                                             first | rw [zs.out, zt.out, if_pos (show q < 4 ∧ q2 < 4 from ⟨hq, hq2⟩), if_neg (fun e => e.elim gs gt), if_neg (fun e => e h52), if_neg (fun e => e.2.2.1 h60)] | rw [zs.out, zt.out, if_pos (show q < 4 ∧ q2 < 4 from ⟨hq, hq2⟩), if_neg (fun e => e.elim gs gt), if_neg (fun e => e h52)]
                                         rw [e1.1] at kk
                                         exact kk _ _ _ e1.2.symm H N Mk sf.rf)
                                      | (have e1 : o_copy σ sz (nI q) y (nI q2) w (nI n0) = -12 ∧ n_cpyS σ sz cl (nI q) y (nI q2) w (nI n0) = (σ, sz, cl) := by
                                           refine ⟨?_, ?_⟩
                                           · unfold o_copy
                                             first | rw [zs.out, zt.out, if_pos (show q < 4 ∧ q2 < 4 from ⟨hq, hq2⟩), if_neg (fun e => e.elim gs gt), if_neg (fun e => e h52), if_neg (fun e => e.1 h64)] | rw [zs.out, zt.out, if_pos (show q < 4 ∧ q2 < 4 from ⟨hq, hq2⟩), if_neg (fun e => e.elim gs gt), if_neg (fun e => e h52)]
                                           · unfold n_cpyS
                                             first | rw [zs.out, zt.out, if_pos (show q < 4 ∧ q2 < 4 from ⟨hq, hq2⟩), if_neg (fun e => e.elim gs gt), if_neg (fun e => e h52), if_neg (fun e => e.1 h64)] | rw [zs.out, zt.out, if_pos (show q < 4 ∧ q2 < 4 from ⟨hq, hq2⟩), if_neg (fun e => e.elim gs gt), if_neg (fun e => e h52)]
                                         rw [e1.1] at kk
                                         exact kk _ _ _ e1.2.symm H N Mk sf.rf)
                                      | (have e1 : o_copy σ sz (nI q) (nI i0) (nI q2) w (nI n0) = -12 ∧ n_cpyS σ sz cl (nI q) (nI i0) (nI q2) w (nI n0) = (σ, sz, cl) := by
                                           refine ⟨?_, ?_⟩
                                           · unfold o_copy
                                             first | rw [zs.out, zt.out, if_pos (show q < 4 ∧ q2 < 4 from ⟨hq, hq2⟩), if_neg (fun e => e.elim gs gt), if_neg (fun e => e h52), if_neg (fun e => e.2.1 h69)] | rw [zs.out, zt.out, if_pos (show q < 4 ∧ q2 < 4 from ⟨hq, hq2⟩), if_neg (fun e => e.elim gs gt), if_neg (fun e => e h52)]
                                           · unfold n_cpyS
                                             first | rw [zs.out, zt.out, if_pos (show q < 4 ∧ q2 < 4 from ⟨hq, hq2⟩), if_neg (fun e => e.elim gs gt), if_neg (fun e => e h52), if_neg (fun e => e.2.1 h69)] | rw [zs.out, zt.out, if_pos (show q < 4 ∧ q2 < 4 from ⟨hq, hq2⟩), if_neg (fun e => e.elim gs gt), if_neg (fun e => e h52)]
                                         rw [e1.1] at kk
                                         exact kk _ _ _ e1.2.symm H N Mk sf.rf)
                                      | (have e1 : o_copy σ sz (nI q) (nI i0) (nI q2) (nI j0) (nI n0) = -12 ∧ n_cpyS σ sz cl (nI q) (nI i0) (nI q2) (nI j0) (nI n0) = (σ, sz, cl) := by
                                           refine ⟨?_, ?_⟩
                                           · unfold o_copy
                                             first | rw [zs.out, zt.out, if_pos (show q < 4 ∧ q2 < 4 from ⟨hq, hq2⟩), if_neg (fun e => e.elim gs gt), if_neg (fun e => e h52), if_neg (fun e => by have e' := e; unfold cpk at e'; rw [x_cl hi0, x_cl hj0, x_cl hn0] at e'; omega)] | rw [zs.out, zt.out, if_pos (show q < 4 ∧ q2 < 4 from ⟨hq, hq2⟩), if_neg (fun e => e.elim gs gt), if_neg (fun e => e h52)]
                                           · unfold n_cpyS
                                             first | rw [zs.out, zt.out, if_pos (show q < 4 ∧ q2 < 4 from ⟨hq, hq2⟩), if_neg (fun e => e.elim gs gt), if_neg (fun e => e h52), if_neg (fun e => by have e' := e; unfold cpk at e'; rw [x_cl hi0, x_cl hj0, x_cl hn0] at e'; omega)] | rw [zs.out, zt.out, if_pos (show q < 4 ∧ q2 < 4 from ⟨hq, hq2⟩), if_neg (fun e => e.elim gs gt), if_neg (fun e => e h52)]
                                         rw [e1.1] at kk
                                         exact kk _ _ _ e1.2.symm H N Mk sf.rf)
              · first
                | (exfalso; omega (config := {splitDisjunctions := false}))
                | exact absurd rfl h52
                | skip
                  refine q_bipush (pc := 55) rfl (-13) (by decide) ?_
                  refine q_iret (pc := 57) rfl (rfl) ?_
                  have e1 : o_copy σ sz (nI q) y (nI q2) w u = -13 ∧ n_cpyS σ sz cl (nI q) y (nI q2) w u = (σ, sz, cl) := by
                    refine ⟨?_, ?_⟩
                    · unfold o_copy
                      first | rw [zs.out, zt.out, if_pos (show q < 4 ∧ q2 < 4 from ⟨hq, hq2⟩), if_neg (fun e => e.elim gs gt), if_pos h52] | rw [zs.out, zt.out, if_pos (show q < 4 ∧ q2 < 4 from ⟨hq, hq2⟩), if_neg (fun e => e.elim gs gt)]
                    · unfold n_cpyS
                      first | rw [zs.out, zt.out, if_pos (show q < 4 ∧ q2 < 4 from ⟨hq, hq2⟩), if_neg (fun e => e.elim gs gt), if_pos h52] | rw [zs.out, zt.out, if_pos (show q < 4 ∧ q2 < 4 from ⟨hq, hq2⟩), if_neg (fun e => e.elim gs gt)]
                  rw [e1.1] at kk
                  exact kk _ _ _ e1.2.symm H N Mk sf.rf
          · have gt : σ q2 = -1 := h34
            first
            | (exfalso; omega (config := {splitDisjunctions := false}))
            | exact absurd rfl h34
            | skip
              refine q_bipush (pc := 37) rfl (-11) (by decide) ?_
              refine q_iret (pc := 39) rfl (rfl) ?_
              first
              | (have e1 : o_copy σ sz (nI q) y (nI q2) w u = -11 ∧ n_cpyS σ sz cl (nI q) y (nI q2) w u = (σ, sz, cl) := by
                   refine ⟨?_, ?_⟩
                   · unfold o_copy
                     first | rw [zs.out, zt.out, if_pos (show q < 4 ∧ q2 < 4 from ⟨hq, hq2⟩), if_pos (Or.inl gs)] | rw [zs.out, zt.out, if_pos (show q < 4 ∧ q2 < 4 from ⟨hq, hq2⟩)]
                   · unfold n_cpyS
                     first | rw [zs.out, zt.out, if_pos (show q < 4 ∧ q2 < 4 from ⟨hq, hq2⟩), if_pos (Or.inl gs)] | rw [zs.out, zt.out, if_pos (show q < 4 ∧ q2 < 4 from ⟨hq, hq2⟩)]
                 rw [e1.1] at kk
                 exact kk _ _ _ e1.2.symm H N Mk sf.rf)
              | (have e1 : o_copy σ sz (nI q) y (nI q2) w u = -11 ∧ n_cpyS σ sz cl (nI q) y (nI q2) w u = (σ, sz, cl) := by
                   refine ⟨?_, ?_⟩
                   · unfold o_copy
                     first | rw [zs.out, zt.out, if_pos (show q < 4 ∧ q2 < 4 from ⟨hq, hq2⟩), if_pos (Or.inr gt)] | rw [zs.out, zt.out, if_pos (show q < 4 ∧ q2 < 4 from ⟨hq, hq2⟩)]
                   · unfold n_cpyS
                     first | rw [zs.out, zt.out, if_pos (show q < 4 ∧ q2 < 4 from ⟨hq, hq2⟩), if_pos (Or.inr gt)] | rw [zs.out, zt.out, if_pos (show q < 4 ∧ q2 < 4 from ⟨hq, hq2⟩)]
                 rw [e1.1] at kk
                 exact kk _ _ _ e1.2.symm H N Mk sf.rf)
    · have zt : Hd (rg 4 z = 4) := rg_out g4
      refine q_ifne (pc := 11) rfl (fun z => absurd z (by decide)) (fun _ => ?_)
      refine q_bipush (pc := 14) rfl (-2) (by decide) ?_
      refine q_iret (pc := 16) rfl (rfl) ?_
      first
      | (have e1 : o_copy σ sz (nI q) y z w u = -2 ∧ n_cpyS σ sz cl (nI q) y z w u = (σ, sz, cl) := by
           refine ⟨?_, ?_⟩
           · unfold o_copy
             first | rw [zt.out, if_neg (by omega)] | rw [zt.out]
           · unfold n_cpyS
             first | rw [zt.out, if_neg (by omega)] | rw [zt.out]
         rw [e1.1] at kk
         exact kk _ _ _ e1.2.symm H N Mk sf.rf)
      | (have e1 : o_copy σ sz x y z w u = -2 ∧ n_cpyS σ sz cl x y z w u = (σ, sz, cl) := by
           refine ⟨?_, ?_⟩
           · unfold o_copy
             first | rw [zs.out, if_neg (by omega)] | rw [zs.out]
           · unfold n_cpyS
             first | rw [zs.out, if_neg (by omega)] | rw [zs.out]
         rw [e1.1] at kk
         exact kk _ _ _ e1.2.symm H N Mk sf.rf)
  · have zs : Hd (rg 4 x = 4) := rg_out g4
    refine q_ifeq (pc := 4) rfl (fun _ => ?_) (fun z => absurd (by decide) z)
    refine q_bipush (pc := 14) rfl (-2) (by decide) ?_
    refine q_iret (pc := 16) rfl (rfl) ?_
    first
    | (have e1 : o_copy σ sz (nI q) y z w u = -2 ∧ n_cpyS σ sz cl (nI q) y z w u = (σ, sz, cl) := by
         refine ⟨?_, ?_⟩
         · unfold o_copy
           first | rw [zt.out, if_neg (by omega)] | rw [zt.out]
         · unfold n_cpyS
           first | rw [zt.out, if_neg (by omega)] | rw [zt.out]
       rw [e1.1] at kk
       exact kk _ _ _ e1.2.symm H N Mk sf.rf)
    | (have e1 : o_copy σ sz x y z w u = -2 ∧ n_cpyS σ sz cl x y z w u = (σ, sz, cl) := by
         refine ⟨?_, ?_⟩
         · unfold o_copy
           first | rw [zs.out, if_neg (by omega)] | rw [zs.out]
         · unfold n_cpyS
           first | rw [zs.out, if_neg (by omega)] | rw [zs.out]
       rw [e1.1] at kk
       exact kk _ _ _ e1.2.symm H N Mk sf.rf)
end P54
