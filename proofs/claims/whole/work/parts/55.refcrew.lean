/-! ===== the reference: feed, crew, taken, film, tour ===== -/
section P55
variable {d k pc a i j c p b t n m part q : Nat} {v : Int} {L L' : mx_L} {st r : List Value} {P : mx_Pm} {h : mx_H} {s : mx_St} {Q : Option Value → mx_H → Prop} {x y w z u : Int32} {β κ : Nat → Nat} {C : Nat → Nat → Int32} {E : Nat → Nat → Nat} {ik tz : Nat} {tp : Nat → Nat} {σ : Nat → Int32} {sz : Nat → Nat} {cl : Nat → Nat → Int32}
theorem m_feed (hd : 20 ≤ d) (H : HR P h s) (hl : 75 ≤ P.1) (N : NW s β) (K : AOK P.2.1 β κ ik tp tz σ sz) (Mk : MK s P.2.1 κ ik tp tz C E σ sz cl) (kk : ∀ h' s' tp' tz', tp' = n_feedT tp tz x → tz' = n_feedZ tz x → HR P h' s' → NW s' β → MK s' P.2.1 κ ik tp' tz' C E σ sz cl → sf s s' (fun i => i = 54 ∨ i = 58) → Q (some (.int (o_feed tz x))) h') : wc d 147 [.ref 54, .int x] h Q := by
  have hz := K.2.2.2.2.2.1
  have h54 := Mk.2.2.2.1
  unfold o_feed n_feedT n_feedZ at kk
  refine wc.go [_, _] rfl ?_
  refine q_iload_n (pc := 0) rfl rfl ?_
  refine q_iconst (pc := 1) rfl (nI 0) (by decide) ?_
  refine q_sipush (pc := 2) rfl (nI 255) (by decide) ?_
  refine q_callS (pc := 5) _ (by decide) rfl rfl rfl rfl (Nat.le_of_ble_eq_true rfl) (by omega) _ rfl ?_
  refine m_in0 (by decide) (fun w hw e => ?_) (fun g => ?_)
  · subst e
    have z1 : Hd (rg 256 (nI w) = w) := rg_in (by omega) (by decide)
    rw [z1.out] at kk
    refine q_ifne (pc := 8) rfl (fun _ => ?_) (fun z => absurd z (by decide))
    refine q_aload_n (pc := 14) rfl rfl rfl ?_
    refine q_getf (pc := 15) rfl (by exact HR.c H hl _ rfl) rfl rfl ?_
    rw [h54]
    refine q_sipush (pc := 18) rfl (nI 160) (by decide) ?_
    first | refine n_icmpne (pc := 21) rfl (by omega) (by omega) (fun h21 => ?_) (fun h21 => ?_) | refine q_icmpne (pc := 21) rfl (fun h21 => ?_) (fun h21 => ?_)
    · first
      | (exfalso; omega (config := {splitDisjunctions := false}))
      | exact absurd rfl h21
      | skip
        refine q_aload_n (pc := 27) rfl rfl rfl ?_
        refine q_getf (pc := 28) rfl (by exact HR.c H hl _ rfl) rfl rfl ?_
        refine q_aload_n (pc := 31) rfl rfl rfl ?_
        refine q_getf (pc := 32) rfl (by exact HR.c H hl _ rfl) rfl rfl ?_
        rw [h54]
        refine q_iload_n (pc := 35) rfl rfl ?_
        refine r_ist2 (pc := 36) rfl H hl rfl (fun _ => rfl) rfl (by omega) (by omega) ?_
        intro h H
        refine q_aload_n (pc := 37) rfl rfl rfl ?_
        refine q_dup (pc := 38) rfl rfl ?_
        refine q_getf (pc := 39) rfl (by exact HR.c H hl _ rfl) rfl rfl ?_
        rw [show stv s 58 tz (nI w) 54 5 = nI tz from (congrFun (stv_n (by decide)) _).trans h54]
        refine q_iconst (pc := 42) rfl (nI 1) (by decide) ?_
        first | refine n_iadd (pc := 43) rfl ?_ | refine q_iadd (pc := 43) rfl ?_
        refine r_pf2 (pc := 44) (i := 5) rfl H hl rfl rfl rfl rfl (Nat.le_of_ble_eq_true rfl) rfl rfl ?_
        intro h H
        refine q_aload_n (pc := 47) rfl rfl rfl ?_
        refine q_getf (pc := 48) rfl (by exact HR.c H hl _ rfl) rfl rfl ?_
        rw [show stv (stv s 58 tz (nI w)) 54 5 (nI (tz + 1)) 54 5 = nI (tz + 1) from stv_a]
        refine q_iret (pc := 51) rfl (rfl) ?_
        rw [if_pos (by omega), if_pos (by omega), if_pos (by omega), if_pos (by omega)] at kk
        have f : sf s (stv (stv s 58 tz (nI w)) 54 5 (nI (tz + 1))) (fun i => i = 54 ∨ i = 58) := (sf.rf.st (Or.inr rfl)).st (Or.inl rfl)
        have e54 : ∀ j, j ≠ 5 → stv (stv s 58 tz (nI w)) 54 5 (nI (tz + 1)) 54 j = s 54 j := fun j hj => (stv_o hj).trans (congrFun (stv_n (by decide)) _)
        obtain ⟨a1, a2, a3, a4, ⟨b1, b2, b3⟩, a6, a7, a8⟩ := Mk
        refine kk _ _ _ _ rfl rfl H (N.fr f (by decide)) ⟨fun i hi => (congrFun (f 56 (by decide)) _).trans (a1 i hi), (e54 3 (by decide)).trans a2, fun i hi => ?_, stv_a, ⟨(e54 12 (by decide)).trans b1, b2, fun t ht => ?_⟩, fun q hq => ?_, fun k hk i hi => (congrFun (f 61 (by decide)) _).trans (a7 k hk i hi), fun i hi => (congrFun (f 74 (by decide)) _).trans (a8 i hi)⟩ f
        · rw [stv_n (by decide)]
          by_cases e : i = tz
          · subst e
            rw [stv_a, upN_s]
          · rw [stv_o e, upN_n e]
            exact a3 i (by omega)
        · obtain ⟨g1, g2, g3⟩ := b3 t ht
          exact ⟨fun i hi => (congrFun (f 59 (by decide)) _).trans (g1 i hi), fun p hp => (congrFun (f 60 (by decide)) _).trans (g2 p hp), g3⟩
        · obtain ⟨g1, g2, g3⟩ := a6 q hq
          exact ⟨(congrFun (f 70 (by decide)) _).trans g1, (congrFun (f 71 (by decide)) _).trans g2, fun i hi => (congrFun (f 72 (by decide)) _).trans (g3 i hi)⟩
    · first
      | (exfalso; omega (config := {splitDisjunctions := false}))
      | exact absurd rfl h21
      | skip
        refine q_bipush (pc := 24) rfl (-4) (by decide) ?_
        refine q_iret (pc := 26) rfl (rfl) ?_
        rw [if_neg (by omega), if_neg (by omega), if_pos (by omega), if_neg (by omega)] at kk
        exact kk _ _ _ _ rfl rfl H N Mk sf.rf
  · have z1 : Hd (rg 256 x = 256) := rg_out g
    rw [z1.out] at kk
    refine q_ifne (pc := 8) rfl (fun z => absurd z (by decide)) (fun _ => ?_)
    refine q_bipush (pc := 11) rfl (-2) (by decide) ?_
    refine q_iret (pc := 13) rfl (rfl) ?_
    rw [if_neg (by omega), if_neg (by omega), if_neg (by omega)] at kk
    exact kk _ _ _ _ rfl rfl H N Mk sf.rf
theorem n_staff_ok {n : Nat} (K : AOK n β κ ik tp tz σ sz) : AOK n (n_staff β x y z) κ ik tp tz σ sz := by
  unfold n_staff
  by_cases g : rg 6 x < 6 ∧ rg 10 y < 10 ∧ rg 36 z < 36 ∧ β 88 < 4
  · rw [if_pos g]
    have bj := bok_join (kind := rg 6 x) (num := rg 10 y) (on := rg 36 z) K.1 g.2.2.2 (by omega) (by omega) g.2.2.1
    exact K.bk bj.1 (by rw [bj.2]; exact K.2.1)
  · rw [if_neg g]
    exact K
theorem m_crewL {q z0 N0 : Nat} {y : Int32} (hd : 21 ≤ d) (hl : 75 ≤ P.1) (hq : q < 4) (r : (Nat → Nat) × Int32) (hz0 : z0 < 2 ^ 31) (hN : N0 ≤ 4) (k40 : sz q ≤ 40) {s0 : mx_St} (e71 : s0 71 q = nI (sz q)) (e72 : ∀ i, i < 40 → s0 72 (40 * q + i) = cl q i) (kk : ∀ h' s', HR P h' s' → NW s' r.1 → mf s0 s' → Q (some (.int r.2)) h') (n i came : Nat) (hi : i + n = N0) (hz : i = 0 ∨ z0 + 3 * i ≤ 40) (hc : came ≤ i) (β : Nat → Nat) (hr : crF (cl q) (sz q) z0 n i β came = r) (h : mx_H) (s : mx_St) (H : HR P h s) (N : NW s β) (K : AOK P.2.1 β κ ik tp tz σ sz) (f : mf s0 s) (z7 z8 : Option Value) : wq d 200 61 [some (.ref 54), some (.int (nI q)), some (.int y), some (.int (nI z0)), some (.int (nI N0)), some (.int (nI came)), some (.int (nI i)), z7, z8] [] h Q := by
  have g2 : s 71 q = nI (sz q) := (congrFun (f.1 71 (by unfold mS; omega)) _).trans e71
  have g3 : ∀ i, i < 40 → s 72 (40 * q + i) = cl q i := fun i hi => (congrFun (f.1 72 (by unfold mS; omega)) _).trans (e72 i hi)
  match n, hi, hr with
  | 0, hi, hr =>
    subst hr
    refine q_iload (pc := 61) rfl rfl ?_
    refine q_iload (pc := 63) rfl rfl ?_
    first | refine n_icmpge (pc := 65) rfl (by omega) (by omega) (fun h65 => ?_) (fun h65 => ?_) | refine q_icmpge (pc := 65) rfl (fun h65 => ?_) (fun h65 => ?_)
    · refine q_iload (pc := 153) rfl rfl ?_
      refine q_iret (pc := 155) rfl (rfl) ?_
      exact kk _ _ H N f
    · first | (exfalso; omega) | exact absurd h65 (nI_pos (by omega)) | exact absurd (nI_pos' (by omega)) h65
  | n + 1, hi, hr =>
    unfold crF at hr
    refine q_iload (pc := 61) rfl rfl ?_
    refine q_iload (pc := 63) rfl rfl ?_
    first | refine n_icmpge (pc := 65) rfl (by omega) (by omega) (fun h65 => ?_) (fun h65 => ?_) | refine q_icmpge (pc := 65) rfl (fun h65 => ?_) (fun h65 => ?_)
    · first | (exfalso; omega) | exact absurd h65 (nI_pos (by omega)) | exact absurd (nI_pos' (by omega)) h65
    · refine q_iload_n (pc := 68) rfl rfl ?_
      refine q_iconst (pc := 69) rfl (nI 3) (by decide) ?_
      refine q_iload (pc := 70) rfl rfl ?_
      first | refine n_imul (pc := 72) rfl ?_ | refine q_imul (pc := 72) rfl ?_
      first | refine n_iadd (pc := 73) rfl ?_ | refine q_iadd (pc := 73) rfl ?_
      refine q_istore (pc := 74) [_, _, _, _, _, _, _, _, _] rfl (Nat.le_of_ble_eq_true rfl) rfl ?_
      refine q_iload_n (pc := 76) rfl rfl ?_
      refine q_iflt (pc := 77) rfl (fun h77 => ?_) (fun h77 => ?_)
      · first | (exfalso; omega) | exact absurd h77 (nI_pos (by omega)) | exact absurd (nI_pos' (by omega)) h77
      · refine q_iload (pc := 80) rfl rfl ?_
        refine q_aload_n (pc := 82) rfl rfl rfl ?_
        refine q_getf (pc := 83) rfl (by exact HR.c H hl _ rfl) rfl rfl ?_
        refine q_iload_n (pc := 86) rfl rfl ?_
        refine n_ild (pc := 87) rfl (by first | exact HR.la H hl rfl rfl N | exact HR.la0 H hl rfl rfl) rfl (by omega) (by omega) ?_
        rw [g2]
        refine q_iconst (pc := 88) rfl (nI 3) (by decide) ?_
        refine q_isub (pc := 89) rfl ?_
        refine q_icmple (pc := 90) rfl (fun h90 => ?_) (fun h90 => ?_)
        · have h101 : z0 + 3 * i + 3 ≤ sz q := Nat.not_lt.mp (fun z => (Int32.not_lt.mpr h90) ((cpl (by omega) (by omega) (by omega)).mpr z))
          rw [if_pos h101] at hr
          first
          | (exfalso; omega (config := {splitDisjunctions := false}))
          | skip
            refine q_bipush (pc := 96) rfl (nI 40) (by decide) ?_
            refine q_iload_n (pc := 98) rfl rfl ?_
            first | refine n_imul (pc := 99) rfl ?_ | refine q_imul (pc := 99) rfl ?_
            refine q_iload (pc := 100) rfl rfl ?_
            first | refine n_iadd (pc := 102) rfl ?_ | refine q_iadd (pc := 102) rfl ?_
            refine q_istore (pc := 103) [_, _, _, _, _, _, _, _, _] rfl (Nat.le_of_ble_eq_true rfl) rfl ?_
            refine q_iload (pc := 105) rfl rfl ?_
            refine q_aload_n (pc := 107) rfl rfl rfl ?_
            refine q_aload_n (pc := 108) rfl rfl rfl ?_
            refine q_getf (pc := 109) rfl (by exact HR.c H hl _ rfl) rfl rfl ?_
            refine q_iload (pc := 112) rfl rfl ?_
            refine n_ild (pc := 114) rfl (by first | exact HR.la H hl rfl rfl N | exact HR.la0 H hl rfl rfl) rfl (by omega) (by omega) ?_
            rw [g3 (z0 + 3 * i) (by omega)]
            refine q_aload_n (pc := 115) rfl rfl rfl ?_
            refine q_getf (pc := 116) rfl (by exact HR.c H hl _ rfl) rfl rfl ?_
            refine q_iload (pc := 119) rfl rfl ?_
            refine q_iconst (pc := 121) rfl (nI 1) (by decide) ?_
            first | refine n_iadd (pc := 122) rfl ?_ | refine q_iadd (pc := 122) rfl ?_
            refine n_ild (pc := 123) rfl (by first | exact HR.la H hl rfl rfl N | exact HR.la0 H hl rfl rfl) rfl (by omega) (by omega) ?_
            rw [show 40 * q + (z0 + 3 * i) + 1 = 40 * q + (z0 + 3 * i + 1) by omega, g3 (z0 + 3 * i + 1) (by omega)]
            refine q_aload_n (pc := 124) rfl rfl rfl ?_
            refine q_getf (pc := 125) rfl (by exact HR.c H hl _ rfl) rfl rfl ?_
            refine q_iload (pc := 128) rfl rfl ?_
            refine q_iconst (pc := 130) rfl (nI 2) (by decide) ?_
            first | refine n_iadd (pc := 131) rfl ?_ | refine q_iadd (pc := 131) rfl ?_
            refine n_ild (pc := 132) rfl (by first | exact HR.la H hl rfl rfl N | exact HR.la0 H hl rfl rfl) rfl (by omega) (by omega) ?_
            rw [show 40 * q + (z0 + 3 * i) + 2 = 40 * q + (z0 + 3 * i + 2) by omega, g3 (z0 + 3 * i + 2) (by omega)]
            refine q_callV (pc := 133) _ rfl rfl rfl (by exact HR.c H hl _ rfl) rfl (Nat.le_of_ble_eq_true rfl) (by omega) _ rfl ?_
            refine m_staff (by omega) H hl N K ?_
            intro h s1 H N f1
            refine q_iflt (pc := 136) rfl (fun h136 => ?_) (fun h136 => ?_)
            · rw [if_pos h136] at hr
              first
              | (exfalso; omega (config := {splitDisjunctions := false}))
              | skip
                refine q_iconst (pc := 143) rfl (nI 0) (by decide) ?_
                first | refine n_iadd (pc := 144) rfl ?_ | refine q_iadd (pc := 144) rfl ?_
                refine q_istore (pc := 145) [_, _, _, _, _, _, _, _, _] rfl (Nat.le_of_ble_eq_true rfl) rfl ?_
                first | refine n_iinc (pc := 147) rfl [_, _, _, _, _, _, _, _, _] 1 (by decide) rfl rfl ?_ | refine q_iinc (pc := 147) [_, _, _, _, _, _, _, _, _] (1) rfl rfl (by decide) rfl ?_
                refine q_goto (pc := 150) rfl ?_
                exact m_crewL hd hl hq r hz0 hN k40 e71 e72 kk n (i + 1) _ (by omega) (by omega) (by omega) _ hr h s1 H N (n_staff_ok K) (f.tr f1) _ _
            · rw [if_neg h136] at hr
              first
              | (exfalso; omega (config := {splitDisjunctions := false}))
              | skip
                refine q_iconst (pc := 139) rfl (nI 1) (by decide) ?_
                refine q_goto (pc := 140) rfl ?_
                first | refine n_iadd (pc := 144) rfl ?_ | refine q_iadd (pc := 144) rfl ?_
                refine q_istore (pc := 145) [_, _, _, _, _, _, _, _, _] rfl (Nat.le_of_ble_eq_true rfl) rfl ?_
                first | refine n_iinc (pc := 147) rfl [_, _, _, _, _, _, _, _, _] 1 (by decide) rfl rfl ?_ | refine q_iinc (pc := 147) [_, _, _, _, _, _, _, _, _] (1) rfl rfl (by decide) rfl ?_
                refine q_goto (pc := 150) rfl ?_
                exact m_crewL hd hl hq r hz0 hN k40 e71 e72 kk n (i + 1) _ (by omega) (by omega) (by omega) _ hr h s1 H N (n_staff_ok K) (f.tr f1) _ _
        · have h101 : ¬ z0 + 3 * i + 3 ≤ sz q := Nat.not_le.mpr ((cpl (by omega) (by omega) (by omega)).mp (Int32.not_le.mp h90))
          rw [if_neg h101] at hr
          first
          | (exfalso; omega (config := {splitDisjunctions := false}))
          | skip
            refine q_bipush (pc := 93) rfl (-12) (by decide) ?_
            refine q_iret (pc := 95) rfl (rfl) ?_
            subst hr
            exact kk _ _ H N f
termination_by n
theorem m_crewN {w0 q a0 : Nat} {F : Nat → Int32} {r : (Nat → Nat) × Int32} {z2 : Option Value} (hl : 75 ≤ P.1) (hw : w0 ≤ 4) (ha : a0 ≤ 40) (hz : z < 0) (H : HR P h s) (kk : NW s r.1 → mf s s → Q (some (.int r.2)) h) (N : NW s β) (hr : crF F a0 (crZ z) w0 0 β 0 = r) (z7 z8 : Option Value) : wq d 200 61 [some (.ref 54), some (.int (nI q)), z2, some (.int z), some (.int (nI w0)), some (.int (nI 0)), some (.int (nI 0)), z7, z8] [] h Q := by
  rw [show crZ z = 1000 from if_pos hz] at hr
  rcases Nat.eq_zero_or_pos w0 with e | e
  · subst e
    subst hr
    refine q_iload (pc := 61) rfl rfl ?_
    refine q_iload (pc := 63) rfl rfl ?_
    first | refine n_icmpge (pc := 65) rfl (by omega) (by omega) (fun h65 => ?_) (fun h65 => ?_) | refine q_icmpge (pc := 65) rfl (fun h65 => ?_) (fun h65 => ?_)
    · refine q_iload (pc := 153) rfl rfl ?_
      refine q_iret (pc := 155) rfl (rfl) ?_
      exact kk N mf.rf
    · first | (exfalso; omega) | exact absurd h65 (nI_pos (by omega)) | exact absurd (nI_pos' (by omega)) h65
  · obtain ⟨m, rfl⟩ : ∃ m, w0 = m + 1 := ⟨w0 - 1, by omega⟩
    unfold crF at hr
    rw [if_neg (by omega)] at hr
    subst hr
    refine q_iload (pc := 61) rfl rfl ?_
    refine q_iload (pc := 63) rfl rfl ?_
    first | refine n_icmpge (pc := 65) rfl (by omega) (by omega) (fun h65 => ?_) (fun h65 => ?_) | refine q_icmpge (pc := 65) rfl (fun h65 => ?_) (fun h65 => ?_)
    · first | (exfalso; omega) | exact absurd h65 (nI_pos (by omega)) | exact absurd (nI_pos' (by omega)) h65
    · refine q_iload_n (pc := 68) rfl rfl ?_
      refine q_iconst (pc := 69) rfl (nI 3) (by decide) ?_
      refine q_iload (pc := 70) rfl rfl ?_
      first | refine n_imul (pc := 72) rfl ?_ | refine q_imul (pc := 72) rfl ?_
      refine q_iadd (pc := 73) rfl ?_
      refine q_istore (pc := 74) [_, _, _, _, _, _, _, _, _] rfl (Nat.le_of_ble_eq_true rfl) rfl ?_
      refine q_iload_n (pc := 76) rfl rfl ?_
      refine q_iflt (pc := 77) rfl (fun h77 => ?_) (fun h77 => ?_)
      · first
        | (exfalso; omega (config := {splitDisjunctions := false}))
        | skip
          refine q_bipush (pc := 93) rfl (-12) (by decide) ?_
          refine q_iret (pc := 95) rfl (rfl) ?_
          exact kk N mf.rf
      · exact absurd hz h77
theorem m_crew (hd : 21 ≤ d) (H : HR P h s) (hl : 75 ≤ P.1) (N : NW s β) (K : AOK P.2.1 β κ ik tp tz σ sz) (Mk : MK s P.2.1 κ ik tp tz C E σ sz cl) (kk : ∀ h' s', HR P h' s' → NW s' (n_crew σ sz cl β x y z w) → mf s s' → Q (some (.int (o_crew σ sz cl β x y z w))) h') : wc d 200 [.ref 54, .int x, .int y, .int z, .int w] h Q := by
  have K4 := K.1.2.2.1
  have KK := K.1
  have K89 := K.2.1
  have kSh := K.2.2.2.2.2.2.2
  have hSh := Mk.2.2.2.2.2.1
  refine wc.go [_, _, _, _, _, _, _, _, _] rfl ?_
  refine q_iload_n (pc := 0) rfl rfl ?_
  refine q_callS (pc := 1) _ (by decide) rfl rfl rfl rfl (Nat.le_of_ble_eq_true rfl) (by omega) _ rfl ?_
  refine m_isSheet (by omega) (fun q hq e => ?_) (fun g4 => ?_)
  · subst e
    have zs : Hd (rg 4 (nI q) = q) := rg_in hq (by decide)
    obtain ⟨g1, g2, g3⟩ := hSh q hq
    obtain ⟨k40, kσ⟩ := kSh q hq
    refine q_ifeq (pc := 4) rfl (fun z => absurd z (by decide)) (fun _ => ?_)
    refine q_iload_n (pc := 7) rfl rfl ?_
    refine q_iconst (pc := 8) rfl (nI 0) (by decide) ?_
    refine q_iconst (pc := 9) rfl (nI 2) (by decide) ?_
    refine q_callS (pc := 10) _ (by decide) rfl rfl rfl rfl (Nat.le_of_ble_eq_true rfl) (by omega) _ rfl ?_
    refine m_in0 (by decide) (fun y0 hy0 e => ?_) (fun gy => ?_)
    · subst e
      have z1 : Hd (rg 3 (nI y0) = y0) := rg_in (by omega) (by decide)
      refine q_ifeq (pc := 13) rfl (fun z => absurd z (by decide)) (fun _ => ?_)
      refine q_iload (pc := 16) rfl rfl ?_
      refine q_iconst (pc := 18) rfl (nI 0) (by decide) ?_
      refine q_iconst (pc := 19) rfl (nI 4) (by decide) ?_
      refine q_callS (pc := 20) _ (by decide) rfl rfl rfl rfl (Nat.le_of_ble_eq_true rfl) (by omega) _ rfl ?_
      refine m_in0 (by decide) (fun w0 hw0 e => ?_) (fun gw => ?_)
      · subst e
        have z2 : Hd (rg 5 (nI w0) = w0) := rg_in (by omega) (by decide)
        refine q_ifne (pc := 23) rfl (fun _ => ?_) (fun z => absurd z (by decide))
        refine q_aload_n (pc := 29) rfl rfl rfl ?_
        refine q_getf (pc := 30) rfl (by exact HR.c H hl _ rfl) rfl rfl ?_
        refine q_iload_n (pc := 33) rfl rfl ?_
        refine n_ild (pc := 34) rfl (by first | exact HR.la H hl rfl rfl N | exact HR.la0 H hl rfl rfl) rfl (by omega) (by omega) ?_
        rw [g1]
        refine q_iconst (pc := 35) rfl (-1) (by decide) ?_
        refine q_icmpne (pc := 36) rfl (fun h36 => ?_) (fun h36 => ?_)
        · have gs : σ q ≠ -1 := h36
          first
          | (exfalso; omega (config := {splitDisjunctions := false}))
          | exact absurd rfl h36
          | skip
            refine q_aload_n (pc := 42) rfl rfl rfl ?_
            refine q_getf (pc := 43) rfl (by exact HR.c H hl _ rfl) rfl rfl ?_
            refine q_iload_n (pc := 46) rfl rfl ?_
            refine n_ild (pc := 47) rfl (by first | exact HR.la H hl rfl rfl N | exact HR.la0 H hl rfl rfl) rfl (by omega) (by omega) ?_
            rw [g1]
            refine q_iload_n (pc := 48) rfl rfl ?_
            refine q_icmpeq (pc := 49) rfl (fun h49 => ?_) (fun h49 => ?_)
            · have h49 : σ q = nI y0 := h49
              first
              | (exfalso; omega (config := {splitDisjunctions := false}))
              | exact absurd rfl h49
              | skip
                refine q_iconst (pc := 55) rfl (nI 0) (by decide) ?_
                refine q_istore (pc := 56) [_, _, _, _, _, _, _, _, _] rfl (Nat.le_of_ble_eq_true rfl) rfl ?_
                refine q_iconst (pc := 58) rfl (nI 0) (by decide) ?_
                refine q_istore (pc := 59) [_, _, _, _, _, _, _, _, _] rfl (Nat.le_of_ble_eq_true rfl) rfl ?_
                have e1 : o_crew σ sz cl β (nI q) (nI y0) z (nI w0) = (crF (cl q) (sz q) (crZ z) w0 0 β 0).2 ∧ n_crew σ sz cl β (nI q) (nI y0) z (nI w0) = (crF (cl q) (sz q) (crZ z) w0 0 β 0).1 := by
                  refine ⟨?_, ?_⟩
                  · unfold o_crew crR
                    rw [zs.out, z1.out, z2.out, if_pos (show q < 4 ∧ y0 < 3 ∧ w0 < 5 from ⟨hq, by omega, by omega⟩), if_neg gs, if_pos h49]
                  · unfold n_crew crR
                    rw [zs.out, z1.out, z2.out, if_pos (show q < 4 ∧ y0 < 3 ∧ w0 < 5 from ⟨hq, by omega, by omega⟩), if_neg gs, if_pos h49]
                rw [e1.1, e1.2] at kk
                by_cases hz : z < 0
                · exact m_crewN hl hw0 k40 hz H (kk _ _ H) N rfl _ _
                · obtain ⟨z0, hz0, rfl⟩ := x_of hz
                  rw [show crZ (nI z0) = z0 from (if_neg hz).trans (x_cl hz0)] at kk
                  exact m_crewL (by omega) hl hq _ hz0 (by omega) k40 g2 g3 (fun h' s' H N f => kk _ _ H N f) w0 0 0 (by omega) (Or.inl rfl) (by omega) β rfl h s H N K mf.rf _ _
            · have h49 : ¬ σ q = nI y0 := h49
              first
              | (exfalso; omega (config := {splitDisjunctions := false}))
              | exact absurd rfl h49
              | skip
                refine q_bipush (pc := 52) rfl (-13) (by decide) ?_
                refine q_iret (pc := 54) rfl (rfl) ?_
                have e1 : o_crew σ sz cl β (nI q) (nI y0) z (nI w0) = -13 ∧ n_crew σ sz cl β (nI q) (nI y0) z (nI w0) = β := by
                  refine ⟨?_, ?_⟩
                  · unfold o_crew
                    rw [zs.out, z1.out, z2.out, if_pos (show q < 4 ∧ y0 < 3 ∧ w0 < 5 from ⟨hq, by omega, by omega⟩), if_neg gs, if_neg h49]
                  · unfold n_crew
                    rw [zs.out, z1.out, z2.out, if_pos (show q < 4 ∧ y0 < 3 ∧ w0 < 5 from ⟨hq, by omega, by omega⟩), if_neg gs, if_neg h49]
                rw [e1.1, e1.2] at kk
                exact kk _ _ H N mf.rf
        · have gs : σ q = -1 := h36
          first
          | (exfalso; omega (config := {splitDisjunctions := false}))
          | exact absurd rfl h36
          | skip
            refine q_bipush (pc := 39) rfl (-11) (by decide) ?_
            refine q_iret (pc := 41) rfl (rfl) ?_
            have e1 : o_crew σ sz cl β (nI q) (nI y0) z (nI w0) = -11 ∧ n_crew σ sz cl β (nI q) (nI y0) z (nI w0) = β := by
              refine ⟨?_, ?_⟩
              · unfold o_crew
                rw [zs.out, z1.out, z2.out, if_pos (show q < 4 ∧ y0 < 3 ∧ w0 < 5 from ⟨hq, by omega, by omega⟩), if_pos gs]
              · unfold n_crew
                rw [zs.out, z1.out, z2.out, if_pos (show q < 4 ∧ y0 < 3 ∧ w0 < 5 from ⟨hq, by omega, by omega⟩), if_pos gs]
            rw [e1.1, e1.2] at kk
            exact kk _ _ H N mf.rf
      · have z2 : Hd (rg 5 w = 5) := rg_out gw
        refine q_ifne (pc := 23) rfl (fun z => absurd z (by decide)) (fun _ => ?_)
        refine q_bipush (pc := 26) rfl (-2) (by decide) ?_
        refine q_iret (pc := 28) rfl (rfl) ?_
        first
        | (have e1 : o_crew σ sz cl β (nI q) (nI y0) z w = -2 ∧ n_crew σ sz cl β (nI q) (nI y0) z w = β := by
             refine ⟨?_, ?_⟩
             · unfold o_crew
               rw [z2.out, if_neg (fun e => absurd e.2.2 (by decide))]
             · unfold n_crew
               rw [z2.out, if_neg (fun e => absurd e.2.2 (by decide))]
           rw [e1.1, e1.2] at kk
           exact kk _ _ H N mf.rf)
        | (have e1 : o_crew σ sz cl β (nI q) y z w = -2 ∧ n_crew σ sz cl β (nI q) y z w = β := by
             refine ⟨?_, ?_⟩
             · unfold o_crew
               rw [z1.out, if_neg (fun e => absurd e.2.1 (by decide))]
             · unfold n_crew
               rw [z1.out, if_neg (fun e => absurd e.2.1 (by decide))]
           rw [e1.1, e1.2] at kk
           exact kk _ _ H N mf.rf)
        | (have e1 : o_crew σ sz cl β x y z w = -2 ∧ n_crew σ sz cl β x y z w = β := by
             refine ⟨?_, ?_⟩
             · unfold o_crew
               rw [zs.out, if_neg (fun e => absurd e.1 (by decide))]
             · unfold n_crew
               rw [zs.out, if_neg (fun e => absurd e.1 (by decide))]
           rw [e1.1, e1.2] at kk
           exact kk _ _ H N mf.rf)
    · have z1 : Hd (rg 3 y = 3) := rg_out gy
      refine q_ifeq (pc := 13) rfl (fun _ => ?_) (fun z => absurd (by decide) z)
      refine q_bipush (pc := 26) rfl (-2) (by decide) ?_
      refine q_iret (pc := 28) rfl (rfl) ?_
      first
      | (have e1 : o_crew σ sz cl β (nI q) (nI y0) z w = -2 ∧ n_crew σ sz cl β (nI q) (nI y0) z w = β := by
           refine ⟨?_, ?_⟩
           · unfold o_crew
             rw [z2.out, if_neg (fun e => absurd e.2.2 (by decide))]
           · unfold n_crew
             rw [z2.out, if_neg (fun e => absurd e.2.2 (by decide))]
         rw [e1.1, e1.2] at kk
         exact kk _ _ H N mf.rf)
      | (have e1 : o_crew σ sz cl β (nI q) y z w = -2 ∧ n_crew σ sz cl β (nI q) y z w = β := by
           refine ⟨?_, ?_⟩
           · unfold o_crew
             rw [z1.out, if_neg (fun e => absurd e.2.1 (by decide))]
           · unfold n_crew
             rw [z1.out, if_neg (fun e => absurd e.2.1 (by decide))]
         rw [e1.1, e1.2] at kk
         exact kk _ _ H N mf.rf)
      | (have e1 : o_crew σ sz cl β x y z w = -2 ∧ n_crew σ sz cl β x y z w = β := by
           refine ⟨?_, ?_⟩
           · unfold o_crew
             rw [zs.out, if_neg (fun e => absurd e.1 (by decide))]
           · unfold n_crew
             rw [zs.out, if_neg (fun e => absurd e.1 (by decide))]
         rw [e1.1, e1.2] at kk
         exact kk _ _ H N mf.rf)
  · have zs : Hd (rg 4 x = 4) := rg_out g4
    refine q_ifeq (pc := 4) rfl (fun _ => ?_) (fun z => absurd (by decide) z)
    refine q_bipush (pc := 26) rfl (-2) (by decide) ?_
    refine q_iret (pc := 28) rfl (rfl) ?_
    first
    | (have e1 : o_crew σ sz cl β (nI q) (nI y0) z w = -2 ∧ n_crew σ sz cl β (nI q) (nI y0) z w = β := by
         refine ⟨?_, ?_⟩
         · unfold o_crew
           rw [z2.out, if_neg (fun e => absurd e.2.2 (by decide))]
         · unfold n_crew
           rw [z2.out, if_neg (fun e => absurd e.2.2 (by decide))]
       rw [e1.1, e1.2] at kk
       exact kk _ _ H N mf.rf)
    | (have e1 : o_crew σ sz cl β (nI q) y z w = -2 ∧ n_crew σ sz cl β (nI q) y z w = β := by
         refine ⟨?_, ?_⟩
         · unfold o_crew
           rw [z1.out, if_neg (fun e => absurd e.2.1 (by decide))]
         · unfold n_crew
           rw [z1.out, if_neg (fun e => absurd e.2.1 (by decide))]
       rw [e1.1, e1.2] at kk
       exact kk _ _ H N mf.rf)
    | (have e1 : o_crew σ sz cl β x y z w = -2 ∧ n_crew σ sz cl β x y z w = β := by
         refine ⟨?_, ?_⟩
         · unfold o_crew
           rw [zs.out, if_neg (fun e => absurd e.1 (by decide))]
         · unfold n_crew
           rw [zs.out, if_neg (fun e => absurd e.1 (by decide))]
       rw [e1.1, e1.2] at kk
       exact kk _ _ H N mf.rf)
theorem tk_fin : ∀ kind, kind < 6 → ∀ k, k < 6 → (chN 6 kind k = k ∨ chN 6 kind k = 6) := by decide
theorem abM_ab : ∀ k, k < 6 → abM k = oc6 (abN k) := by decide
theorem m_takenL {w R p0 : Nat} (H : HR P h s) (hl : 75 ≤ P.1) (N : NW s β) (hab : ∀ i, i < 6 → s 74 i = abM i) (hp : p0 < 4) (hw : w < 6) (hR : R = w ∨ R = 6) (ht : R = w → Q (some (.int (nI (β (72 + 4 * p0 + 1))))) h) (hf : R ≠ w → Q (some (.int (-13))) h) (n kc : Nat) (hkc : kc ≤ 6) (hr : chN n kc w = R) : wq d 201 35 [some (.ref 54), some (.int (nI p0)), some (.int (nI w)), some (.int (oc6 kc))] [] h Q := by
  by_cases h6 : kc = 6
  · subst h6
    have hR6 : R = 6 := by
      cases n with
      | zero => exact hr.symm
      | succ n =>
        rw [chN, if_pos (Or.inr rfl)] at hr
        exact hr.symm
    rw [show oc6 6 = -1 from rfl]
    refine q_iload_n (pc := 35) rfl rfl ?_
    refine q_iconst (pc := 36) rfl (-1) (by decide) ?_
    refine q_icmpeq (pc := 37) rfl (fun h37 => ?_) (fun h37 => ?_)
    · first
      | (exfalso; omega (config := {splitDisjunctions := false}))
      | exact absurd rfl h37
      | skip
        refine q_iload_n (pc := 55) rfl rfl ?_
        refine q_iconst (pc := 56) rfl (-1) (by decide) ?_
        refine q_icmpne (pc := 57) rfl (fun h57 => ?_) (fun h57 => ?_)
        · exact absurd rfl h57
        · first
          | (exfalso; omega (config := {splitDisjunctions := false}))
          | exact absurd rfl h57
          | skip
            refine q_bipush (pc := 60) rfl (-13) (by decide) ?_
            refine q_goto (pc := 62) rfl ?_
            refine q_iret (pc := 78) rfl (rfl) ?_
            exact hf (by omega)
    · exact absurd rfl h37
  · have hkc6 : kc < 6 := by omega
    rw [show oc6 kc = nI kc from if_pos hkc6]
    by_cases hk : kc = w
    · subst hk
      have hRw : R = kc := by
        cases n with
        | zero => exact hr.symm
        | succ n =>
          rw [chN, if_pos (Or.inl rfl)] at hr
          exact hr.symm
      refine q_iload_n (pc := 35) rfl rfl ?_
      refine q_iconst (pc := 36) rfl (-1) (by decide) ?_
      refine q_icmpeq (pc := 37) rfl (fun h37 => ?_) (fun h37 => ?_)
      · exact absurd h37 (nI_m1 (by omega))
      · first
        | (exfalso; omega (config := {splitDisjunctions := false}))
        | exact absurd rfl h37
        | skip
          refine q_iload_n (pc := 40) rfl rfl ?_
          refine q_iload_n (pc := 41) rfl rfl ?_
          first | refine n_icmpeq (pc := 42) rfl (by omega) (by omega) (fun h42 => ?_) (fun h42 => ?_) | refine q_icmpeq (pc := 42) rfl (fun h42 => ?_) (fun h42 => ?_)
          · first
            | (exfalso; omega (config := {splitDisjunctions := false}))
            | exact absurd rfl h42
            | skip
              refine q_iload_n (pc := 55) rfl rfl ?_
              refine q_iconst (pc := 56) rfl (-1) (by decide) ?_
              refine q_icmpne (pc := 57) rfl (fun h57 => ?_) (fun h57 => ?_)
              · first
                | (exfalso; omega (config := {splitDisjunctions := false}))
                | exact absurd rfl h57
                | skip
                  refine q_aload_n (pc := 65) rfl rfl rfl ?_
                  refine q_getf (pc := 66) rfl (by exact HR.c H hl _ rfl) rfl rfl ?_
                  refine q_bipush (pc := 69) rfl (nI 72) (by decide) ?_
                  refine q_iconst (pc := 71) rfl (nI 4) (by decide) ?_
                  refine q_iload_n (pc := 72) rfl rfl ?_
                  first | refine n_imul (pc := 73) rfl ?_ | refine q_imul (pc := 73) rfl ?_
                  first | refine n_iadd (pc := 74) rfl ?_ | refine q_iadd (pc := 74) rfl ?_
                  refine q_iconst (pc := 75) rfl (nI 1) (by decide) ?_
                  first | refine n_iadd (pc := 76) rfl ?_ | refine q_iadd (pc := 76) rfl ?_
                  refine n_ild (pc := 77) rfl (by first | exact HR.la H hl rfl rfl N | exact HR.la0 H hl rfl rfl) rfl (by omega) (by omega) ?_
                  refine q_iret (pc := 78) rfl (rfl) ?_
                  exact ht hRw
              · exact absurd h57 (nI_m1 (by omega))
          · exfalso; omega
    · match n, hr with
      | 0, hr =>
        exfalso
        have : kc = R := hr
        omega
      | n + 1, hr =>
        rw [chN, if_neg (by omega)] at hr
        have e74 : s 74 kc = oc6 (abN kc) := (hab kc hkc6).trans (abM_ab kc hkc6)
        refine q_iload_n (pc := 35) rfl rfl ?_
        refine q_iconst (pc := 36) rfl (-1) (by decide) ?_
        refine q_icmpeq (pc := 37) rfl (fun h37 => ?_) (fun h37 => ?_)
        · exact absurd h37 (nI_m1 (by omega))
        · first
          | (exfalso; omega (config := {splitDisjunctions := false}))
          | exact absurd rfl h37
          | skip
            refine q_iload_n (pc := 40) rfl rfl ?_
            refine q_iload_n (pc := 41) rfl rfl ?_
            first | refine n_icmpeq (pc := 42) rfl (by omega) (by omega) (fun h42 => ?_) (fun h42 => ?_) | refine q_icmpeq (pc := 42) rfl (fun h42 => ?_) (fun h42 => ?_)
            · exfalso; omega
            · first
              | (exfalso; omega (config := {splitDisjunctions := false}))
              | exact absurd rfl h42
              | skip
                refine q_aload_n (pc := 45) rfl rfl rfl ?_
                refine q_getf (pc := 46) rfl (by exact HR.c H hl _ rfl) rfl rfl ?_
                refine q_iload_n (pc := 49) rfl rfl ?_
                refine n_ild (pc := 50) rfl (by first | exact HR.la H hl rfl rfl N | exact HR.la0 H hl rfl rfl) rfl (by omega) (by omega) ?_
                rw [e74]
                refine q_istore_n (pc := 51) [_, _, _, _] rfl (Nat.le_of_ble_eq_true rfl) rfl ?_
                refine q_goto (pc := 52) rfl ?_
                exact m_takenL H hl N hab hp hw hR ht hf n (abN kc) (by have := abN_le hkc6; omega) hr
termination_by n
theorem takS {m : Nat} {z0 z1 z2 : Option Value} (hm : m < 6) (kk : wq d 201 35 [z0, z1, z2, some (.int (oc6 m))] [] h Q) : wq d 201 35 [z0, z1, z2, some (.int (nI m))] [] h Q := by
  rw [show oc6 m = nI m from if_pos hm] at kk
  exact kk
theorem m_taken (hd : 20 ≤ d) (H : HR P h s) (hl : 75 ≤ P.1) (N : NW s β) (K : AOK P.2.1 β κ ik tp tz σ sz) (Mk : MK s P.2.1 κ ik tp tz C E σ sz cl) (kk : ∀ h' s', HR P h' s' → NW s' β → mf s s' → Q (some (.int (o_taken β x y))) h') : wc d 201 [.ref 54, .int x, .int y] h Q := by
  have K4 := K.1.2.2.1
  have KK := K.1
  have K89 := K.2.1
  refine wc.go [_, _, _, _] rfl ?_
  refine q_iload_n (pc := 0) rfl rfl ?_
  refine q_iconst (pc := 1) rfl (nI 0) (by decide) ?_
  refine q_iconst (pc := 2) rfl (nI 5) (by decide) ?_
  refine q_callS (pc := 3) _ (by decide) rfl rfl rfl rfl (Nat.le_of_ble_eq_true rfl) (by omega) _ rfl ?_
  refine m_in0 (by decide) (fun w hw e => ?_) (fun g => ?_)
  · subst e
    have z1 : Hd (rg 6 (nI w) = w) := rg_in (by omega) (by decide)
    refine q_ifne (pc := 6) rfl (fun _ => ?_) (fun z => absurd z (by decide))
    refine q_aload_n (pc := 12) rfl rfl rfl ?_
    refine q_iload_n (pc := 13) rfl rfl ?_
    refine q_callV (pc := 14) _ rfl rfl rfl (by exact HR.c H hl _ rfl) rfl (Nat.le_of_ble_eq_true rfl) (by omega) _ rfl ?_
    refine m_isOne (by omega) H hl N K4 (fun p hp e => ?_) (fun g => ?_)
    · subst e
      have zp : Hd (rg (β 88) (nI p) = p) := rg_in hp (by omega)
      obtain ⟨k1, k2, k3, k4⟩ := KK.2.1 p (by omega)
      refine q_ifne (pc := 17) rfl (fun _ => ?_) (fun z => absurd z (by decide))
      refine q_aload_n (pc := 23) rfl rfl rfl ?_
      refine q_getf (pc := 24) rfl (by exact HR.c H hl _ rfl) rfl rfl ?_
      refine q_bipush (pc := 27) rfl (nI 72) (by decide) ?_
      refine q_iconst (pc := 29) rfl (nI 4) (by decide) ?_
      refine q_iload_n (pc := 30) rfl rfl ?_
      first | refine n_imul (pc := 31) rfl ?_ | refine q_imul (pc := 31) rfl ?_
      first | refine n_iadd (pc := 32) rfl ?_ | refine q_iadd (pc := 32) rfl ?_
      refine n_ild (pc := 33) rfl (by first | exact HR.la H hl rfl rfl N | exact HR.la0 H hl rfl rfl) rfl (by omega) (by omega) ?_
      refine q_istore_n (pc := 34) [_, _, _, _] rfl (Nat.le_of_ble_eq_true rfl) rfl ?_
      refine takS (by omega) (m_takenL H hl N Mk.2.2.2.2.2.2.2 (by omega) (by omega) (tk_fin _ (by omega) _ (by omega)) (fun e => ?_) (fun e => ?_) 6 (β (72 + 4 * p)) (by omega) rfl)
      · refine eqQ ?_ (kk _ _ H N mf.rf)
        unfold o_taken
        rw [z1.out, zp.out, if_pos (by omega), if_pos (by omega), if_pos ((tkc_ch _ (by omega) _ (by omega)).mp e)]
      · refine eqQ ?_ (kk _ _ H N mf.rf)
        unfold o_taken
        rw [z1.out, zp.out, if_pos (by omega), if_pos (by omega), if_neg (fun z => e ((tkc_ch _ (by omega) _ (by omega)).mpr z))]
    · have zp : Hd (rg (β 88) x = β 88) := rg_out g
      refine q_ifne (pc := 17) rfl (fun z => absurd z (by decide)) (fun _ => ?_)
      refine q_bipush (pc := 20) rfl (-11) (by decide) ?_
      refine q_iret (pc := 22) rfl (rfl) ?_
      refine eqQ ?_ (kk _ _ H N mf.rf)
      unfold o_taken
      rw [z1.out, zp.out, if_pos (by omega), if_neg (by omega)]
  · have z1 : Hd (rg 6 y = 6) := rg_out g
    refine q_ifne (pc := 6) rfl (fun z => absurd z (by decide)) (fun _ => ?_)
    refine q_bipush (pc := 9) rfl (-2) (by decide) ?_
    refine q_iret (pc := 11) rfl (rfl) ?_
    refine eqQ ?_ (kk _ _ H N mf.rf)
    unfold o_taken
    rw [z1.out, if_neg (by decide)]
theorem m_filmL {q N0 p0 n : Nat} (hd : 6 ≤ d) (hl : 75 ≤ P.1) (hk : bok β n) (hq : q < 4) (hp : p0 < 4) (hN : N0 ≤ 36) {s0 : mx_St} (T0 : MT s0 n C E) (kk : ∀ h' s', HR P h' s' → NW s' β → sf s0 s' (fun i => i = 63 ∨ i = 72) → (∀ j, s' 72 j = if 40 * q ≤ j ∧ j < 40 * q + N0 then nI (lyN C E β p0 (j - 40 * q)) else s0 72 j) → Q (some (.int (nI N0))) h') (m i : Nat) (hi : i + m = N0) (h : mx_H) (s : mx_St) (H : HR P h s) (N : NW s β) (f : sf s0 s (fun i => i = 63 ∨ i = 72)) (tk : TKN s (β (72 + 4 * p0)) (β (72 + 4 * p0 + 1)) (β 90)) (c1 : ∀ j, s 72 j = if 40 * q ≤ j ∧ j < 40 * q + i then nI (lyN C E β p0 (j - 40 * q)) else s0 72 j) {z2 : Int32} : wq d 206 44 [some (.ref 54), some (.int (nI q)), some (.int z2), some (.int (nI N0)), some (.int (nI i))] [] h Q := by
  obtain ⟨k1, k2, k3, k4⟩ := hk.2.1 p0 hp
  have T : MT s n C E := by
    obtain ⟨a1, a2, a3⟩ := T0
    refine ⟨(congrFun (f 54 (by decide)) _).trans a1, a2, fun t ht => ?_⟩
    obtain ⟨g1, g2, g3⟩ := a3 t ht
    exact ⟨fun i hi => (congrFun (f 59 (by decide)) _).trans (g1 i hi), fun p hp => (congrFun (f 60 (by decide)) _).trans (g2 p hp), g3⟩
  match m, hi with
  | 0, hi =>
    obtain rfl : i = N0 := by omega
    refine q_iload (pc := 44) rfl rfl ?_
    refine q_iload_n (pc := 46) rfl rfl ?_
    first | refine n_icmpge (pc := 47) rfl (by omega) (by omega) (fun h47 => ?_) (fun h47 => ?_) | refine q_icmpge (pc := 47) rfl (fun h47 => ?_) (fun h47 => ?_)
    · refine q_iload_n (pc := 74) rfl rfl ?_
      refine q_iret (pc := 75) rfl (rfl) ?_
      exact kk _ _ H N f c1
    · first | (exfalso; omega) | exact absurd h47 (nI_pos (by omega)) | exact absurd (nI_pos' (by omega)) h47
  | m + 1, hi =>
    refine q_iload (pc := 44) rfl rfl ?_
    refine q_iload_n (pc := 46) rfl rfl ?_
    first | refine n_icmpge (pc := 47) rfl (by omega) (by omega) (fun h47 => ?_) (fun h47 => ?_) | refine q_icmpge (pc := 47) rfl (fun h47 => ?_) (fun h47 => ?_)
    · first | (exfalso; omega) | exact absurd h47 (nI_pos (by omega)) | exact absurd (nI_pos' (by omega)) h47
    · refine q_aload_n (pc := 50) rfl rfl rfl ?_
      refine q_getf (pc := 51) rfl (by exact HR.c H hl _ rfl) rfl rfl ?_
      refine q_bipush (pc := 54) rfl (nI 40) (by decide) ?_
      refine q_iload_n (pc := 56) rfl rfl ?_
      first | refine n_imul (pc := 57) rfl ?_ | refine q_imul (pc := 57) rfl ?_
      refine q_iload (pc := 58) rfl rfl ?_
      first | refine n_iadd (pc := 60) rfl ?_ | refine q_iadd (pc := 60) rfl ?_
      refine q_aload_n (pc := 61) rfl rfl rfl ?_
      refine q_iload (pc := 62) rfl rfl ?_
      refine q_callV (pc := 64) _ rfl rfl rfl (by exact HR.c H hl _ rfl) rfl (Nat.le_of_ble_eq_true rfl) (by omega) _ rfl ?_
      refine m_lays (by omega) H hl N T hk.2.2.2.2 hk.1 tk k1 k2 (by omega) ?_
      intro h s1 H f1
      refine r_ist2 (pc := 67) rfl H hl rfl (fun _ => rfl) rfl (by omega) (by omega) ?_
      intro h H
      first | refine n_iinc (pc := 68) rfl [_, _, _, _, _] 1 (by decide) rfl rfl ?_ | refine q_iinc (pc := 68) [_, _, _, _, _] (1) rfl rfl (by decide) rfl ?_
      refine q_goto (pc := 71) rfl ?_
      refine m_filmL hd hl hk hq hp hN T0 kk m (i + 1) (by omega) h _ H ((N.fr f1 (by decide)).fr (S := fun i => i = 72) (sf.rf.st (by rfl)) (by decide)) ((f.tr (f1.mono (fun i g => Or.inl g))).st (Or.inr rfl)) ⟨(congrFun (stv_n (by decide)) _).trans (tk.fr f1).1, (congrFun (stv_n (by decide)) _).trans (tk.fr f1).2.1, (congrFun (stv_n (by decide)) _).trans (tk.fr f1).2.2⟩ (fun j => ?_)
      by_cases e : j = 40 * q + i
      · subst e
        rw [stv_a, if_pos (by omega), show 40 * q + i - 40 * q = i by omega]
        rfl
      · rw [stv_o e, f1 72 (by decide), c1 j]
        by_cases g : 40 * q ≤ j ∧ j < 40 * q + i
        · rw [if_pos g, if_pos (by omega)]
        · rw [if_neg g, if_neg (by omega)]
termination_by m
theorem MK.sh3 {s s' : mx_St} {n : Nat} {σ' : Nat → Int32} {sz' : Nat → Nat} {cl' : Nat → Nat → Int32} (M : MK s n κ ik tp tz C E σ sz cl) (f : sf s s' (fun i => i = 63 ∨ i = 72)) (hq : ∀ q, q < 4 → s' 70 q = σ' q ∧ s' 71 q = nI (sz' q) ∧ ∀ i, i < 40 → s' 72 (40 * q + i) = cl' q i) : MK s' n κ ik tp tz C E σ' sz' cl' := by
  have h1 : MK (stF s 72 (s' 72)) n κ ik tp tz C E σ' sz' cl' := M.sh (fun i hi => stF_n _ _ (fun e => hi (Or.inr (Or.inr e)))) (fun q h => by
    rw [stF_n _ _ (by decide), stF_n _ _ (by decide), stF_s, ← f 70 (by decide), ← f 71 (by decide)]
    exact hq q h)
  have h2 : mf (stF s 72 (s' 72)) s' := ⟨fun i hi => by
    by_cases e : i = 72
    · subst e; rw [stF_s]
    · rw [stF_n _ _ e]
      exact f i (fun z => z.elim (fun z => hi (by unfold mS; omega)) e), by rw [stF_n _ _ (by decide), f 54 (by decide)], by rw [stF_n _ _ (by decide), f 54 (by decide)], by rw [stF_n _ _ (by decide), f 54 (by decide)]⟩
  exact h1.fr h2
theorem m_film (hd : 20 ≤ d) (H : HR P h s) (hl : 75 ≤ P.1) (N : NW s β) (K : AOK P.2.1 β κ ik tp tz σ sz) (Mk : MK s P.2.1 κ ik tp tz C E σ sz cl) (kk : ∀ h' s' T', T' = n_film C E σ sz cl β x y z → HR P h' s' → NW s' β → MK s' P.2.1 κ ik tp tz C E T'.1 T'.2.1 T'.2.2 → sf s s' hS → Q (some (.int (o_film β x y z))) h') : wc d 206 [.ref 54, .int x, .int y, .int z] h Q := by
  have K4 := K.1.2.2.1
  have KK := K.1
  have kSh := K.2.2.2.2.2.2.2
  have hSh := Mk.2.2.2.2.2.1
  refine wc.go [_, _, _, _, _] rfl ?_
  refine q_iload_n (pc := 0) rfl rfl ?_
  refine q_callS (pc := 1) _ (by decide) rfl rfl rfl rfl (Nat.le_of_ble_eq_true rfl) (by omega) _ rfl ?_
  refine m_isSheet (by omega) (fun q hq e => ?_) (fun g4 => ?_)
  · subst e
    have zs : Hd (rg 4 (nI q) = q) := rg_in hq (by decide)
    refine q_ifeq (pc := 4) rfl (fun z => absurd z (by decide)) (fun _ => ?_)
    refine q_aload_n (pc := 7) rfl rfl rfl ?_
    refine q_iload_n (pc := 8) rfl rfl ?_
    refine q_callV (pc := 9) _ rfl rfl rfl (by exact HR.c H hl _ rfl) rfl (Nat.le_of_ble_eq_true rfl) (by omega) _ rfl ?_
    refine m_isOne (by omega) H hl N K4 (fun p hp e => ?_) (fun g => ?_)
    · subst e
      have zp : Hd (rg (β 88) (nI p) = p) := rg_in hp (by omega)
      refine q_ifeq (pc := 12) rfl (fun z => absurd z (by decide)) (fun _ => ?_)
      refine q_iload_n (pc := 15) rfl rfl ?_
      refine q_iconst (pc := 16) rfl (nI 0) (by decide) ?_
      refine q_bipush (pc := 17) rfl (nI 36) (by decide) ?_
      refine q_callS (pc := 19) _ (by decide) rfl rfl rfl rfl (Nat.le_of_ble_eq_true rfl) (by omega) _ rfl ?_
      refine m_in0 (by decide) (fun n0 hn0 e => ?_) (fun g => ?_)
      · subst e
        have z1 : Hd (rg 37 (nI n0) = n0) := rg_in (by omega) (by decide)
        refine q_ifne (pc := 22) rfl (fun _ => ?_) (fun z => absurd z (by decide))
        refine q_aload_n (pc := 28) rfl rfl rfl ?_
        refine q_iload_n (pc := 29) rfl rfl ?_
        refine q_iconst (pc := 30) rfl (nI 0) (by decide) ?_
        refine q_iload_n (pc := 31) rfl rfl ?_
        refine q_callV (pc := 32) _ rfl rfl rfl (by exact HR.c H hl _ rfl) rfl (Nat.le_of_ble_eq_true rfl) (by omega) _ rfl ?_
        refine m_sheet (by omega) H hl N K Mk ?_
        intro h s1 T' eT H N Mk1 f1
        have eT : T' = (up1 σ q (nI 0), up1 sz q n0, up1 cl q (fun _ => 0)) := by
          rw [eT]
          unfold n_sheet
          rw [zs.out, if_pos (show q < 4 ∧ isT (nI 0) from ⟨hq, Or.inr (Or.inl rfl)⟩), if_neg (by decide), show rg 41 (nI n0) = n0 from rg_in (by omega) (by decide), if_pos (by omega)]
        subst eT
        refine q_pop (pc := 35) rfl rfl ?_
        refine q_aload_n (pc := 36) rfl rfl rfl ?_
        refine q_iload_n (pc := 37) rfl rfl ?_
        refine q_callV (pc := 38) _ rfl rfl rfl (by exact HR.c H hl _ rfl) rfl (Nat.le_of_ble_eq_true rfl) (by omega) _ rfl ?_
        refine m_take H hl N (by omega) ?_
        intro h s2 H f2 f2' tk
        have N := N.tf f2
        have Mk2 := Mk1.fr (tf_mf f2)
        refine q_iconst (pc := 41) rfl (nI 0) (by decide) ?_
        refine q_istore (pc := 42) [_, _, _, _, _] rfl (Nat.le_of_ble_eq_true rfl) rfl ?_
        have e1 : o_film β (nI q) (nI p) (nI n0) = nI n0 ∧ n_film C E σ sz cl β (nI q) (nI p) (nI n0) = (up1 σ q 0, up1 sz q n0, up1 cl q (flF C E β p n0)) := by
          refine ⟨?_, ?_⟩
          · unfold o_film
            first | rw [zs.out, zp.out, z1.out, if_pos (show q < 4 ∧ p < β 88 ∧ n0 < 37 from ⟨hq, hp, by omega⟩)] | rw [zs.out, zp.out, z1.out]
          · unfold n_film
            first | rw [zs.out, zp.out, z1.out, if_pos (show q < 4 ∧ p < β 88 ∧ n0 < 37 from ⟨hq, hp, by omega⟩)] | rw [zs.out, zp.out, z1.out]
        rw [e1.1] at kk
        refine m_filmL (by omega) hl KK hq (by omega) hn0 Mk2.2.2.2.2.1 (fun h3 s3 H N f3 c3 => ?_) n0 0 (by omega) h s2 H N sf.rf tk (fun j => by rw [if_neg (by omega)])
        have f13 : sf s1 s3 (fun i => i = 54 ∨ i = 63 ∨ i = 72) := (f2.1.mono (fun i g => by omega)).tr (f3.mono (fun i g => Or.inr g))
        refine kk _ _ _ e1.2.symm H N (Mk2.sh3 f3 (fun r hr => ?_)) (f1.tr (f13.mono (fun i g => by unfold hS; omega)))
        obtain ⟨u1, u2, u3⟩ := Mk2.2.2.2.2.2.1 r hr
        dsimp only at u1 u2 u3 ⊢
        refine ⟨(congrFun (f3 70 (by decide)) _).trans u1, (congrFun (f3 71 (by decide)) _).trans u2, fun i hi => ?_⟩
        rw [c3]
        by_cases e : r = q
        · subst e
          rw [up1_s]
          rw [up1_s] at u3
          unfold flF
          by_cases g : i < n0
          · rw [if_pos (by omega), if_pos g, show 40 * r + i - 40 * r = i by omega]
          · rw [if_neg (by omega), if_neg g]
            exact u3 i hi
        · rw [up1_n e, if_neg (by omega)]
          rw [up1_n e] at u3
          exact u3 i hi
      · have z1 : Hd (rg 37 z = 37) := rg_out g
        refine q_ifne (pc := 22) rfl (fun z => absurd z (by decide)) (fun _ => ?_)
        refine q_bipush (pc := 25) rfl (-2) (by decide) ?_
        refine q_iret (pc := 27) rfl (rfl) ?_
        first
        | (have e1 : o_film β (nI q) (nI p) z = -2 ∧ n_film C E σ sz cl β (nI q) (nI p) z = (σ, sz, cl) := by
             refine ⟨?_, ?_⟩
             · unfold o_film
               first | rw [z1.out, if_neg (fun e => absurd e.2.2 (by decide))] | rw [z1.out]
             · unfold n_film
               first | rw [z1.out, if_neg (fun e => absurd e.2.2 (by decide))] | rw [z1.out]
           rw [e1.1] at kk
           exact kk _ _ _ e1.2.symm H N Mk sf.rf)
        | (have e1 : o_film β (nI q) y z = -2 ∧ n_film C E σ sz cl β (nI q) y z = (σ, sz, cl) := by
             refine ⟨?_, ?_⟩
             · unfold o_film
               first | rw [zp.out, if_neg (fun e => absurd e.2.1 (Nat.lt_irrefl _))] | rw [zp.out]
             · unfold n_film
               first | rw [zp.out, if_neg (fun e => absurd e.2.1 (Nat.lt_irrefl _))] | rw [zp.out]
           rw [e1.1] at kk
           exact kk _ _ _ e1.2.symm H N Mk sf.rf)
        | (have e1 : o_film β x y z = -2 ∧ n_film C E σ sz cl β x y z = (σ, sz, cl) := by
             refine ⟨?_, ?_⟩
             · unfold o_film
               first | rw [zs.out, if_neg (fun e => absurd e.1 (by decide))] | rw [zs.out]
             · unfold n_film
               first | rw [zs.out, if_neg (fun e => absurd e.1 (by decide))] | rw [zs.out]
           rw [e1.1] at kk
           exact kk _ _ _ e1.2.symm H N Mk sf.rf)
    · have zp : Hd (rg (β 88) y = β 88) := rg_out g
      refine q_ifeq (pc := 12) rfl (fun _ => ?_) (fun z => absurd (by decide) z)
      refine q_bipush (pc := 25) rfl (-2) (by decide) ?_
      refine q_iret (pc := 27) rfl (rfl) ?_
      first
      | (have e1 : o_film β (nI q) (nI p) z = -2 ∧ n_film C E σ sz cl β (nI q) (nI p) z = (σ, sz, cl) := by
           refine ⟨?_, ?_⟩
           · unfold o_film
             first | rw [z1.out, if_neg (fun e => absurd e.2.2 (by decide))] | rw [z1.out]
           · unfold n_film
             first | rw [z1.out, if_neg (fun e => absurd e.2.2 (by decide))] | rw [z1.out]
         rw [e1.1] at kk
         exact kk _ _ _ e1.2.symm H N Mk sf.rf)
      | (have e1 : o_film β (nI q) y z = -2 ∧ n_film C E σ sz cl β (nI q) y z = (σ, sz, cl) := by
           refine ⟨?_, ?_⟩
           · unfold o_film
             first | rw [zp.out, if_neg (fun e => absurd e.2.1 (Nat.lt_irrefl _))] | rw [zp.out]
           · unfold n_film
             first | rw [zp.out, if_neg (fun e => absurd e.2.1 (Nat.lt_irrefl _))] | rw [zp.out]
         rw [e1.1] at kk
         exact kk _ _ _ e1.2.symm H N Mk sf.rf)
      | (have e1 : o_film β x y z = -2 ∧ n_film C E σ sz cl β x y z = (σ, sz, cl) := by
           refine ⟨?_, ?_⟩
           · unfold o_film
             first | rw [zs.out, if_neg (fun e => absurd e.1 (by decide))] | rw [zs.out]
           · unfold n_film
             first | rw [zs.out, if_neg (fun e => absurd e.1 (by decide))] | rw [zs.out]
         rw [e1.1] at kk
         exact kk _ _ _ e1.2.symm H N Mk sf.rf)
  · have zs : Hd (rg 4 x = 4) := rg_out g4
    refine q_ifeq (pc := 4) rfl (fun _ => ?_) (fun z => absurd (by decide) z)
    refine q_bipush (pc := 25) rfl (-2) (by decide) ?_
    refine q_iret (pc := 27) rfl (rfl) ?_
    first
    | (have e1 : o_film β (nI q) (nI p) z = -2 ∧ n_film C E σ sz cl β (nI q) (nI p) z = (σ, sz, cl) := by
         refine ⟨?_, ?_⟩
         · unfold o_film
           first | rw [z1.out, if_neg (fun e => absurd e.2.2 (by decide))] | rw [z1.out]
         · unfold n_film
           first | rw [z1.out, if_neg (fun e => absurd e.2.2 (by decide))] | rw [z1.out]
       rw [e1.1] at kk
       exact kk _ _ _ e1.2.symm H N Mk sf.rf)
    | (have e1 : o_film β (nI q) y z = -2 ∧ n_film C E σ sz cl β (nI q) y z = (σ, sz, cl) := by
         refine ⟨?_, ?_⟩
         · unfold o_film
           first | rw [zp.out, if_neg (fun e => absurd e.2.1 (Nat.lt_irrefl _))] | rw [zp.out]
         · unfold n_film
           first | rw [zp.out, if_neg (fun e => absurd e.2.1 (Nat.lt_irrefl _))] | rw [zp.out]
       rw [e1.1] at kk
       exact kk _ _ _ e1.2.symm H N Mk sf.rf)
    | (have e1 : o_film β x y z = -2 ∧ n_film C E σ sz cl β x y z = (σ, sz, cl) := by
         refine ⟨?_, ?_⟩
         · unfold o_film
           first | rw [zs.out, if_neg (fun e => absurd e.1 (by decide))] | rw [zs.out]
         · unfold n_film
           first | rw [zs.out, if_neg (fun e => absurd e.1 (by decide))] | rw [zs.out]
       rw [e1.1] at kk
       exact kk _ _ _ e1.2.symm H N Mk sf.rf)
end P55
