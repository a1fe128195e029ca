/-! ===== the reference: tour, tells ===== -/
section P56
variable {d k pc a i j c p b t n m part q : Nat} {v : Int} {L L' : mx_L} {st r : List Value} {P : mx_Pm} {h : mx_H} {s : mx_St} {Q : Option Value → mx_H → Prop} {x y w z u : Int32} {β κ : Nat → Nat} {C : Nat → Nat → Int32} {E : Nat → Nat → Nat} {ik tz : Nat} {tp : Nat → Nat} {σ : Nat → Int32} {sz : Nat → Nat} {cl : Nat → Nat → Int32}
theorem m_onceL {q n0 : Nat} {z2 : Int32} (hd : 2 ≤ d) (hl : 75 ≤ P.1) (hq : q < 4) (hn40 : n0 ≤ 40) {F : Nat → Int32} {s0 : mx_St} (e71 : s0 71 q = nI n0) (e72 : ∀ i, i < 40 → s0 72 (40 * q + i) = F i) (ht : onceN F n0 → ∀ h' s' z4, HR P h' s' → sf s0 s' (fun i => i = 65) → wq d 187 95 [some (.ref 54), some (.int (nI q)), some (.int z2), some (.int (nI n0)), z4] [] h' Q) (hf : ¬ onceN F n0 → ∀ h' s', HR P h' s' → sf s0 s' (fun i => i = 65) → Q (some (.int (-2))) h') (m i : Nat) (hi : i + m = n0) (w : Nat) (h : mx_H) (s : mx_St) (H : HR P h s) (f : sf s0 s (fun i => i = 65)) (hB : BE s w) (hwi : ∀ c, c < 36 → (w.testBit c = true ↔ ∃ j, j < i ∧ F j = nI c)) (h1 : onceN F i) (z4 : Option Value) : wq d 187 37 [some (.ref 54), some (.int (nI q)), some (.int z2), some (.int (nI i)), z4] [] h Q := by
  have g2 : s 71 q = nI n0 := (congrFun (f 71 (by decide)) _).trans e71
  match m, hi with
  | 0, hi =>
    obtain rfl : i = n0 := by omega
    refine q_iload_n (pc := 37) rfl rfl ?_
    refine q_aload_n (pc := 38) rfl rfl rfl ?_
    refine q_getf (pc := 39) rfl (by exact HR.c H hl _ rfl) rfl rfl ?_
    refine q_iload_n (pc := 42) rfl rfl ?_
    refine n_ild (pc := 43) rfl (by first | exact HR.la H hl rfl rfl N | exact HR.la0 H hl rfl rfl) rfl (by omega) (by omega) ?_
    rw [g2]
    first | refine n_icmpge (pc := 44) rfl (by omega) (by omega) (fun h44 => ?_) (fun h44 => ?_) | refine q_icmpge (pc := 44) rfl (fun h44 => ?_) (fun h44 => ?_)
    · exact ht h1 _ _ _ H f
    · first | (exfalso; omega) | exact absurd h44 (nI_pos (by omega)) | exact absurd (nI_pos' (by omega)) h44
  | m + 1, hi =>
    have g3 : s 72 (40 * q + i) = F i := (congrFun (f 72 (by decide)) _).trans (e72 i (by omega))
    refine q_iload_n (pc := 37) rfl rfl ?_
    refine q_aload_n (pc := 38) rfl rfl rfl ?_
    refine q_getf (pc := 39) rfl (by exact HR.c H hl _ rfl) rfl rfl ?_
    refine q_iload_n (pc := 42) rfl rfl ?_
    refine n_ild (pc := 43) rfl (by first | exact HR.la H hl rfl rfl N | exact HR.la0 H hl rfl rfl) rfl (by omega) (by omega) ?_
    rw [g2]
    first | refine n_icmpge (pc := 44) rfl (by omega) (by omega) (fun h44 => ?_) (fun h44 => ?_) | refine q_icmpge (pc := 44) rfl (fun h44 => ?_) (fun h44 => ?_)
    · first | (exfalso; omega) | exact absurd h44 (nI_pos (by omega)) | exact absurd (nI_pos' (by omega)) h44
    · refine q_aload_n (pc := 47) rfl rfl rfl ?_
      refine q_getf (pc := 48) rfl (by exact HR.c H hl _ rfl) rfl rfl ?_
      refine q_bipush (pc := 51) rfl (nI 40) (by decide) ?_
      refine q_iload_n (pc := 53) rfl rfl ?_
      first | refine n_imul (pc := 54) rfl ?_ | refine q_imul (pc := 54) rfl ?_
      refine q_iload_n (pc := 55) rfl rfl ?_
      first | refine n_iadd (pc := 56) rfl ?_ | refine q_iadd (pc := 56) rfl ?_
      refine n_ild (pc := 57) rfl (by first | exact HR.la H hl rfl rfl N | exact HR.la0 H hl rfl rfl) rfl (by omega) (by omega) ?_
      rw [g3]
      refine q_istore (pc := 58) [_, _, _, _, _] rfl (Nat.le_of_ble_eq_true rfl) rfl ?_
      refine q_iload (pc := 60) rfl rfl ?_
      refine q_callS (pc := 62) _ (by decide) rfl rfl rfl rfl (Nat.le_of_ble_eq_true rfl) (by omega) _ rfl ?_
      refine m_isCell (by omega) (fun c hc e => ?_) (fun g => ?_)
      · rw [e]
        refine q_ifeq (pc := 65) rfl (fun z => absurd z (by decide)) (fun _ => ?_)
        refine q_aload_n (pc := 68) rfl rfl rfl ?_
        refine q_getf (pc := 69) rfl (by exact HR.c H hl _ rfl) rfl rfl ?_
        refine q_iload (pc := 72) rfl rfl ?_
        refine n_bld (pc := 74) rfl H hl rfl rfl hc (by decide) ?_
        rw [hB c hc]
        refine q_ifeq (pc := 75) rfl (fun h75 => ?_) (fun h75 => ?_)
        · have q75 : w.testBit c = false := by
            cases e : w.testBit c
            · rfl
            · rw [e] at h75
              exact absurd h75 (by decide)
          first
          | (exfalso; omega (config := {splitDisjunctions := false}))
          | exact absurd rfl h75
          | skip
            refine q_aload_n (pc := 81) rfl rfl rfl ?_
            refine q_getf (pc := 82) rfl (by exact HR.c H hl _ rfl) rfl rfl ?_
            refine q_iload (pc := 85) rfl rfl ?_
            refine q_iconst (pc := 87) rfl (nI 1) (by decide) ?_
            refine n_bst (pc := 88) rfl H hl rfl (fun _ => rfl) hc (by decide) (by rfl) ?_
            intro h H
            first | refine n_iinc (pc := 89) rfl [_, _, _, _, _] 1 (by decide) rfl rfl ?_ | refine q_iinc (pc := 89) [_, _, _, _, _] (1) rfl rfl (by decide) rfl ?_
            refine q_goto (pc := 92) rfl ?_
            refine m_onceL hd hl hq hn40 e71 e72 ht hf m (i + 1) (by omega) (w ||| 2 ^ c) h _ H (f.st (by rfl)) (fun c2 hc2 => ?_) (fun c2 hc2 => ?_) ⟨fun j hj => ?_, fun a b hab hb => ?_⟩ _
            · by_cases g : c2 = c
              · subst g
                rw [stv_a, Nat.testBit_or, Nat.testBit_two_pow, decide_eq_true (show c2 = c2 from rfl), Bool.or_true]
                rfl
              · rw [stv_o g, Nat.testBit_or, Nat.testBit_two_pow, decide_eq_false (fun z => g z.symm), Bool.or_false]
                exact hB c2 hc2
            · rw [Nat.testBit_or, Nat.testBit_two_pow, Bool.or_eq_true, decide_eq_true_eq]
              constructor
              · rintro (z | z)
                · obtain ⟨j, hj, ej⟩ := (hwi c2 hc2).mp z
                  exact ⟨j, by omega, ej⟩
                · exact ⟨i, by omega, by rw [e, z]⟩
              · rintro ⟨j, hj, ej⟩
                rcases Nat.lt_succ_iff_lt_or_eq.mp hj with z | z
                · exact Or.inl ((hwi c2 hc2).mpr ⟨j, z, ej⟩)
                · rw [z, e] at ej
                  exact Or.inr (x_eq ej (by omega) (by omega))
            · rcases Nat.lt_succ_iff_lt_or_eq.mp hj with z | z
              · exact h1.1 j z
              · rw [z]
                exact ⟨c, hc, e⟩
            · rcases Nat.lt_succ_iff_lt_or_eq.mp hb with z | z
              · exact h1.2 a b hab z
              · rw [z, e]
                intro ea
                have := (hwi c hc).mpr ⟨a, by omega, ea⟩
                rw [q75] at this
                exact absurd this (by decide)
        · have q75 : w.testBit c = true := by
            cases e : w.testBit c
            · rw [e] at h75
              exact absurd rfl h75
            · rfl
          first
          | (exfalso; omega (config := {splitDisjunctions := false}))
          | exact absurd rfl h75
          | skip
            refine q_bipush (pc := 78) rfl (-2) (by decide) ?_
            refine q_iret (pc := 80) rfl (rfl) ?_
            first
            | (have q75' := q75
               exact hf (fun o => by
                 obtain ⟨j, hj, ej⟩ := (hwi c hc).mp q75'
                 exact o.2 j i hj (by omega) (ej.trans e.symm)) _ _ H f)
            | (exact hf (fun o => by
                 obtain ⟨c, hc, e⟩ := o.1 i (by omega)
                 rw [e] at g
                 exact x_out hc (by decide) g) _ _ H f)
      · refine q_ifeq (pc := 65) rfl (fun _ => ?_) (fun z => absurd (by decide) z)
        refine q_bipush (pc := 78) rfl (-2) (by decide) ?_
        refine q_iret (pc := 80) rfl (rfl) ?_
        first
        | (have q75' := q75
           exact hf (fun o => by
             obtain ⟨j, hj, ej⟩ := (hwi c hc).mp q75'
             exact o.2 j i hj (by omega) (ej.trans e.symm)) _ _ H f)
        | (exact hf (fun o => by
             obtain ⟨c, hc, e⟩ := o.1 i (by omega)
             rw [e] at g
             exact x_out hc (by decide) g) _ _ H f)
termination_by m
def uS (i : Nat) : Prop := i = 54 ∨ i = 55 ∨ i = 63
theorem m_tourL {q n0 n p0 : Nat} (hd : 8 ≤ d) (hl : 75 ≤ P.1) (hq : q < 4) (hp : p0 < 4) (hn40 : n0 ≤ 40) {F : Nat → Int32} {s0 : mx_St} (T0 : MT s0 n C E) (e71 : s0 71 q = nI n0) (e72 : ∀ i, i < 40 → s0 72 (40 * q + i) = F i) (ho : onceN F n0) (r : Nat) (kk : ∀ h' s' (γ : Nat → Nat), HR P h' s' → gf lS tF s0 s' → wq d 187 145 [some (.ref 54), some (.int (nI q)), some (.int (nI p0)), some (.int (nI r)), some (.int (nI n0))] [] h' Q) (m i sum : Nat) (hi : i + m = n0) (γ : Nat → Nat) (hγ : bok γ n) (hr : trN C E p0 F m i γ sum = r) (h : mx_H) (s : mx_St) (H : HR P h s) (N : NW s γ) (f : gf lS tF s0 s) : wq d 187 108 [some (.ref 54), some (.int (nI q)), some (.int (nI p0)), some (.int (nI sum)), some (.int (nI i))] [] h Q := by
  have g2 : s 71 q = nI n0 := (congrFun (f.1 71 (by unfold lS; decide)) _).trans e71
  have T := T0.fr (f.mf (fun i g => by unfold lS at g; unfold mS; omega) (by unfold tF; omega))
  match m, hi, hr with
  | 0, hi, hr =>
    obtain rfl : i = n0 := by omega
    subst hr
    refine q_iload (pc := 108) rfl rfl ?_
    refine q_aload_n (pc := 110) rfl rfl rfl ?_
    refine q_getf (pc := 111) rfl (by exact HR.c H hl _ rfl) rfl rfl ?_
    refine q_iload_n (pc := 114) rfl rfl ?_
    refine n_ild (pc := 115) rfl (by first | exact HR.la H hl rfl rfl N | exact HR.la0 H hl rfl rfl) rfl (by omega) (by omega) ?_
    rw [g2]
    first | refine n_icmpge (pc := 116) rfl (by omega) (by omega) (fun h116 => ?_) (fun h116 => ?_) | refine q_icmpge (pc := 116) rfl (fun h116 => ?_) (fun h116 => ?_)
    · exact kk _ _ γ H f
    · first | (exfalso; omega) | exact absurd h116 (nI_pos (by omega)) | exact absurd (nI_pos' (by omega)) h116
  | m + 1, hi, hr =>
    obtain ⟨c0, hc0, hF⟩ := ho.1 i (by omega)
    have g3 : s 72 (40 * q + i) = nI c0 := ((congrFun (f.1 72 (by unfold lS; decide)) _).trans (e72 i (by omega))).trans hF
    unfold trN at hr
    rw [hF, x_cl (by omega)] at hr
    refine q_iload (pc := 108) rfl rfl ?_
    refine q_aload_n (pc := 110) rfl rfl rfl ?_
    refine q_getf (pc := 111) rfl (by exact HR.c H hl _ rfl) rfl rfl ?_
    refine q_iload_n (pc := 114) rfl rfl ?_
    refine n_ild (pc := 115) rfl (by first | exact HR.la H hl rfl rfl N | exact HR.la0 H hl rfl rfl) rfl (by omega) (by omega) ?_
    rw [g2]
    first | refine n_icmpge (pc := 116) rfl (by omega) (by omega) (fun h116 => ?_) (fun h116 => ?_) | refine q_icmpge (pc := 116) rfl (fun h116 => ?_) (fun h116 => ?_)
    · first | (exfalso; omega) | exact absurd h116 (nI_pos (by omega)) | exact absurd (nI_pos' (by omega)) h116
    · refine q_iload_n (pc := 119) rfl rfl ?_
      refine q_aload_n (pc := 120) rfl rfl rfl ?_
      refine q_iload_n (pc := 121) rfl rfl ?_
      refine q_aload_n (pc := 122) rfl rfl rfl ?_
      refine q_getf (pc := 123) rfl (by exact HR.c H hl _ rfl) rfl rfl ?_
      refine q_bipush (pc := 126) rfl (nI 40) (by decide) ?_
      refine q_iload_n (pc := 128) rfl rfl ?_
      first | refine n_imul (pc := 129) rfl ?_ | refine q_imul (pc := 129) rfl ?_
      refine q_iload (pc := 130) rfl rfl ?_
      first | refine n_iadd (pc := 132) rfl ?_ | refine q_iadd (pc := 132) rfl ?_
      refine n_ild (pc := 133) rfl (by first | exact HR.la H hl rfl rfl N | exact HR.la0 H hl rfl rfl) rfl (by omega) (by omega) ?_
      rw [g3]
      refine q_callV (pc := 134) _ rfl rfl rfl (by exact HR.c H hl _ rfl) rfl (Nat.le_of_ble_eq_true rfl) (by omega) _ rfl ?_
      refine m_laid (by omega) H hl N T hγ hp hc0 ?_
      intro h s1 H f1 N
      first | refine n_iadd (pc := 137) rfl ?_ | refine q_iadd (pc := 137) rfl ?_
      refine q_istore_n (pc := 138) [_, _, _, _, _] rfl (Nat.le_of_ble_eq_true rfl) rfl ?_
      first | refine n_iinc (pc := 139) rfl [_, _, _, _, _] 1 (by decide) rfl rfl ?_ | refine q_iinc (pc := 139) [_, _, _, _, _] (1) rfl rfl (by decide) rfl ?_
      refine q_goto (pc := 142) rfl ?_
      exact m_tourL hd hl hq hp hn40 T0 e71 e72 ho r kk m (i + 1) _ (by omega) _ (bok_lay hγ hp hc0) hr h s1 H N (f.tr f1)
termination_by m
theorem m_tourM {z1 z2 z4 : Option Value} {r : Int32} {γ : Nat → Nat} (hd : 1 ≤ d) (hl : 75 ≤ P.1) (H : HR P h s) (W : ∀ i, i < 91 → s 57 i = nI (γ i)) (kk : ∀ h' s', HR P h' s' → sf s s' (fun i => i = 55) → NW s' γ → Q (some (.int r)) h') : wq d 187 145 [some (.ref 54), z1, z2, some (.int r), z4] [] h Q := by
  refine q_aload_n (pc := 145) rfl rfl rfl ?_
  refine q_aload_n (pc := 146) rfl rfl rfl ?_
  refine q_getf (pc := 147) rfl (by exact HR.c H hl _ rfl) rfl rfl ?_
  refine q_callV (pc := 150) _ rfl rfl rfl (by exact HR.c H hl _ rfl) rfl (Nat.le_of_ble_eq_true rfl) (by omega) _ rfl ?_
  refine m_lay H hl (Or.inr rfl) W ?_
  intro h s1 H f N
  refine q_iload_n (pc := 153) rfl rfl ?_
  refine q_iret (pc := 154) rfl (rfl) ?_
  exact kk _ _ H f N
theorem m_tourK {q n0 n p0 : Nat} (hd : 9 ≤ d) (hl : 75 ≤ P.1) (hq : q < 4) (hp : p0 < 4) (hn40 : n0 ≤ 40) (hk : bok β n) {F : Nat → Int32} (T : MT s n C E) (e71 : s 71 q = nI n0) (e72 : ∀ i, i < 40 → s 72 (40 * q + i) = F i) (ho : onceN F n0) (H : HR P h s) (N : NW s β) (kk : ∀ h' s', HR P h' s' → NW s' β → mf s s' → Q (some (.int (nI (trN C E p0 F n0 0 β 0)))) h') (z3 z4 : Option Value) : wq d 187 95 [some (.ref 54), some (.int (nI q)), some (.int (nI p0)), z3, z4] [] h Q := by
  refine q_aload_n (pc := 95) rfl rfl rfl ?_
  refine q_aload_n (pc := 96) rfl rfl rfl ?_
  refine q_getf (pc := 97) rfl (by exact HR.c H hl _ rfl) rfl rfl ?_
  refine q_callV (pc := 100) _ rfl rfl rfl (by exact HR.c H hl _ rfl) rfl (Nat.le_of_ble_eq_true rfl) (by omega) _ rfl ?_
  refine m_keep H hl (Or.inr rfl) N ?_
  intro h s1 H f1 W1
  have N := N.fr f1 (by decide)
  have fm1 : mf s s1 := ⟨f1.mono (fun i g => by unfold mS; omega), congrFun (f1 54 (by decide)) _, congrFun (f1 54 (by decide)) _, congrFun (f1 54 (by decide)) _⟩
  refine q_iconst (pc := 103) rfl (nI 0) (by decide) ?_
  refine q_istore_n (pc := 104) [_, _, _, _, _] rfl (Nat.le_of_ble_eq_true rfl) rfl ?_
  refine q_iconst (pc := 105) rfl (nI 0) (by decide) ?_
  refine q_istore (pc := 106) [_, _, _, _, _] rfl (Nat.le_of_ble_eq_true rfl) rfl ?_
  refine m_tourL (by omega) hl hq hp hn40 (T.fr fm1) ((congrFun (f1 71 (by decide)) _).trans e71) (fun i hi => (congrFun (f1 72 (by decide)) _).trans (e72 i hi)) ho _ (fun h2 s2 γ H f2 => ?_) n0 0 0 (by omega) β hk rfl h s1 H N gf.rf
  have fm2 : mf s s2 := fm1.tr (f2.mf (fun i g => by unfold lS at g; unfold mS; omega) (by unfold tF; omega))
  exact m_tourM (by omega) hl H (fun i hi => (congrFun (f2.1 57 (by unfold lS; decide)) i).trans (W1 i hi)) (fun h3 s3 H f3 N => kk _ _ H N (fm2.tr ⟨f3.mono (fun i g => by unfold mS; omega), congrFun (f3 54 (by decide)) _, congrFun (f3 54 (by decide)) _, congrFun (f3 54 (by decide)) _⟩))
theorem m_tour (hd : 20 ≤ d) (H : HR P h s) (hl : 75 ≤ P.1) (N : NW s β) (K : AOK P.2.1 β κ ik tp tz σ sz) (Mk : MK s P.2.1 κ ik tp tz C E σ sz cl) (kk : ∀ h' s', HR P h' s' → NW s' β → mf s s' → Q (some (.int (o_tour C E σ sz cl β x y))) h') : wc d 187 [.ref 54, .int x, .int y] h Q := by
  have K4 := K.1.2.2.1
  have KK := K.1
  have K89 := K.2.1
  have kSh := K.2.2.2.2.2.2.2
  have hSh := Mk.2.2.2.2.2.1
  refine wc.go [_, _, _, _, _] rfl ?_
  refine q_iload_n (pc := 0) rfl rfl ?_
  refine q_callS (pc := 1) _ (by decide) rfl rfl rfl rfl (Nat.le_of_ble_eq_true rfl) (by omega) _ rfl ?_
  refine m_isSheet (by omega) (fun q hq e => ?_) (fun g4 => ?_)
  · subst e
    have zs : Hd (rg 4 (nI q) = q) := rg_in hq (by decide)
    obtain ⟨g1, g2, g3⟩ := hSh q hq
    obtain ⟨k40, kσ⟩ := kSh q hq
    refine q_ifeq (pc := 4) rfl (fun z => absurd z (by decide)) (fun _ => ?_)
    refine q_aload_n (pc := 7) rfl rfl rfl ?_
    refine q_iload_n (pc := 8) rfl rfl ?_
    refine q_callV (pc := 9) _ rfl rfl rfl (by exact HR.c H hl _ rfl) rfl (Nat.le_of_ble_eq_true rfl) (by omega) _ rfl ?_
    refine m_isOne (by omega) H hl N K4 (fun p hp e => ?_) (fun g => ?_)
    · subst e
      have zp : Hd (rg (β 88) (nI p) = p) := rg_in hp (by omega)
      refine q_ifne (pc := 12) rfl (fun _ => ?_) (fun z => absurd z (by decide))
      refine q_aload_n (pc := 18) rfl rfl rfl ?_
      refine q_getf (pc := 19) rfl (by exact HR.c H hl _ rfl) rfl rfl ?_
      refine q_iload_n (pc := 22) rfl rfl ?_
      refine n_ild (pc := 23) rfl (by first | exact HR.la H hl rfl rfl N | exact HR.la0 H hl rfl rfl) rfl (by omega) (by omega) ?_
      rw [g1]
      refine q_iconst (pc := 24) rfl (-1) (by decide) ?_
      refine q_icmpne (pc := 25) rfl (fun h25 => ?_) (fun h25 => ?_)
      · have gs : σ q ≠ -1 := h25
        first
        | (exfalso; omega (config := {splitDisjunctions := false}))
        | exact absurd rfl h25
        | skip
          refine q_aload_n (pc := 31) rfl rfl rfl ?_
          refine q_callV (pc := 32) _ rfl rfl rfl (by exact HR.c H hl _ rfl) rfl (Nat.le_of_ble_eq_true rfl) (by omega) _ rfl ?_
          refine m_clear H hl ?_
          intro h s1 H f1 e1
          have fm1 : mf s s1 := ⟨f1.mono (fun i g => by unfold mS; omega), congrFun (f1 54 (by decide)) _, congrFun (f1 54 (by decide)) _, congrFun (f1 54 (by decide)) _⟩
          refine q_iconst (pc := 35) rfl (nI 0) (by decide) ?_
          refine q_istore_n (pc := 36) [_, _, _, _, _] rfl (Nat.le_of_ble_eq_true rfl) rfl ?_
          refine m_onceL (F := cl q) (by omega) hl hq k40 ((congrFun (f1 71 (by decide)) _).trans g2) (fun i hi => (congrFun (f1 72 (by decide)) _).trans (g3 i hi)) (fun ho h2 s2 z4 H f2 => ?_) (fun ho h2 s2 H f2 => ?_) (sz q) 0 (by omega) 0 h s1 H sf.rf (fun c hc => by rw [e1 c hc, Nat.zero_testBit]; rfl) (fun c hc => ?_) ⟨fun i hi => by omega, fun i j h1 h2 => by omega⟩ _
          · have f12 : sf s s2 (fun i => i = 65) := f1.tr f2
            have fm12 : mf s s2 := ⟨f12.mono (fun i g => by unfold mS; omega), congrFun (f12 54 (by decide)) _, congrFun (f12 54 (by decide)) _, congrFun (f12 54 (by decide)) _⟩
            have e1 : o_tour C E σ sz cl β (nI q) (nI p) = nI (trN C E p (cl q) (sz q) 0 β 0) := by
              unfold o_tour
              rw [zs.out, zp.out, if_pos (show q < 4 ∧ p < β 88 from ⟨hq, hp⟩), if_neg gs, if_pos (onB_iff.mpr ho)]
            rw [e1] at kk
            exact m_tourK (by omega) hl hq (by omega) k40 KK (Mk.fr ⟨f12.mono (fun i g => by unfold mS; omega), congrFun (f12 54 (by decide)) _, congrFun (f12 54 (by decide)) _, congrFun (f12 54 (by decide)) _⟩).2.2.2.2.1 ((congrFun (f12 71 (by decide)) _).trans g2) (fun i hi => (congrFun (f12 72 (by decide)) _).trans (g3 i hi)) ho H (N.fr f12 (by decide)) (fun h3 s3 H N f3 => kk _ _ H N (fm12.tr f3)) _ _
          · have f12 : sf s s2 (fun i => i = 65) := f1.tr f2
            refine eqQ (v' := o_tour C E σ sz cl β (nI q) (nI p)) ?_ (kk _ _ H (N.fr f12 (by decide)) ⟨f12.mono (fun i g => by unfold mS; omega), congrFun (f12 54 (by decide)) _, congrFun (f12 54 (by decide)) _, congrFun (f12 54 (by decide)) _⟩)
            unfold o_tour
            rw [zs.out, zp.out, if_pos (show q < 4 ∧ p < β 88 from ⟨hq, hp⟩), if_neg gs, if_neg (fun e => ho (onB_iff.mp e))]
          · rw [Nat.zero_testBit]
            exact ⟨fun e => absurd e (by decide), fun ⟨j, hj, _⟩ => by omega⟩
      · have gs : σ q = -1 := h25
        first
        | (exfalso; omega (config := {splitDisjunctions := false}))
        | exact absurd rfl h25
        | skip
          refine q_bipush (pc := 28) rfl (-11) (by decide) ?_
          refine q_iret (pc := 30) rfl (rfl) ?_
          refine eqQ (v' := o_tour C E σ sz cl β (nI q) (nI p)) ?_ (kk _ _ H N mf.rf)
          unfold o_tour
          rw [zs.out, zp.out, if_pos (show q < 4 ∧ p < β 88 from ⟨hq, hp⟩), if_pos gs]
    · have zp : Hd (rg (β 88) y = β 88) := rg_out g
      refine q_ifne (pc := 12) rfl (fun z => absurd z (by decide)) (fun _ => ?_)
      refine q_bipush (pc := 15) rfl (-2) (by decide) ?_
      refine q_iret (pc := 17) rfl (rfl) ?_
      first
      | (refine eqQ (v' := o_tour C E σ sz cl β (nI q) y) ?_ (kk _ _ H N mf.rf)
         unfold o_tour
         rw [zp.out, if_neg (fun e => absurd e.2 (Nat.lt_irrefl _))])
      | (refine eqQ (v' := o_tour C E σ sz cl β x y) ?_ (kk _ _ H N mf.rf)
         unfold o_tour
         rw [zs.out, if_neg (fun e => absurd e.1 (by decide))])
  · have zs : Hd (rg 4 x = 4) := rg_out g4
    refine q_ifeq (pc := 4) rfl (fun _ => ?_) (fun z => absurd (by decide) z)
    refine q_bipush (pc := 15) rfl (-2) (by decide) ?_
    refine q_iret (pc := 17) rfl (rfl) ?_
    first
    | (refine eqQ (v' := o_tour C E σ sz cl β (nI q) y) ?_ (kk _ _ H N mf.rf)
       unfold o_tour
       rw [zp.out, if_neg (fun e => absurd e.2 (Nat.lt_irrefl _))])
    | (refine eqQ (v' := o_tour C E σ sz cl β x y) ?_ (kk _ _ H N mf.rf)
       unfold o_tour
       rw [zs.out, if_neg (fun e => absurd e.1 (by decide))])
end P56
