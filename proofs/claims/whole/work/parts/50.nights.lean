/-! ===== the reference: nights ===== -/
section P50
variable {d k pc a i j c p b t n m part q : Nat} {v : Int} {L L' : mx_L} {st r : List Value} {P : mx_Pm} {h : mx_H} {s : mx_St} {Q : Option Value → mx_H → Prop} {x y w z u : Int32} {β κ : Nat → Nat} {C : Nat → Nat → Int32} {E : Nat → Nat → Nat} {ik tz : Nat} {tp : Nat → Nat} {σ : Nat → Int32} {sz : Nat → Nat} {cl : Nat → Nat → Int32}
theorem n_bld (hc : mx_tb k pc = some (.baload, a, v)) (H : HR P h s) (hl : n ≤ P.1) (hok : okc n b = true) (he : hr_c b (s b) = .inl (1, m, .inl (s b))) (hi : i < m) (hm : m < 2 ^ 31) (kk : wq d k (pc + 1) L (.int (s b i) :: r) h Q) : wq d k pc L (.int (nI i) :: .ref b :: r) h Q := by
  refine q_baload hc ((H.c hl b hok).trans he) (x_vin hi hm) ?_
  rw [x_cl (by omega)]
  exact kk
theorem n_bst (hc : mx_tb k pc = some (.bastore, a, v)) (H : HR P h s) (hl : n ≤ P.1) (hok : okc n b = true) (he : ∀ F, hr_c b F = .inl (1, m, .inl F)) (hi : i < m) (hm : m < 2 ^ 31) (hy : vp_nar .boolean y = y) (kk : ∀ h', HR P h' (stv s b i y) → wq d k (pc + 1) L r h' Q) : wq d k pc L (.int y :: .int (nI i) :: .ref b :: r) h Q := by
  have o1 := okc_spec hok
  have o2 := H.1.1
  refine q_bastore hc ((H.c hl b hok).trans (he _)) (by show b < 1000000; omega) (x_vin hi hm) ?_
  rw [x_cl (by omega), hy]
  exact kk _ (H.set hl hok (he _))
theorem m_clearL (hl : 75 ≤ P.1) {s0 : mx_St} (kk : ∀ h' s', HR P h' s' → sf s0 s' (fun i => i = 65) → (∀ c, c < 36 → s' 65 c = nI 0) → Q none h') (n i : Nat) (hi : i + n = 36) (h : mx_H) (s : mx_St) (H : HR P h s) (f : sf s0 s (fun i => i = 65)) (c1 : ∀ c, c < i → s 65 c = nI 0) : wq d 178 2 [some (.ref 54), some (.int (nI i))] [] h Q := by
  match n, hi with
  | 0, hi =>
    obtain rfl : i = 36 := by omega
    refine q_iload_n (pc := 2) rfl rfl ?_
    refine q_bipush (pc := 3) rfl (nI 36) (by decide) ?_
    first | refine n_icmpge (pc := 5) rfl (by omega) (by omega) (fun h5 => ?_) (fun h5 => ?_) | refine q_icmpge (pc := 5) rfl (fun h5 => ?_) (fun h5 => ?_)
    · refine q_vret (pc := 21) rfl rfl ?_
      exact kk _ _ H f c1
    · first | (exfalso; omega) | exact absurd h5 (nI_pos (by omega)) | exact absurd (nI_pos' (by omega)) h5
  | n + 1, hi =>
    refine q_iload_n (pc := 2) rfl rfl ?_
    refine q_bipush (pc := 3) rfl (nI 36) (by decide) ?_
    first | refine n_icmpge (pc := 5) rfl (by omega) (by omega) (fun h5 => ?_) (fun h5 => ?_) | refine q_icmpge (pc := 5) rfl (fun h5 => ?_) (fun h5 => ?_)
    · first | (exfalso; omega) | exact absurd h5 (nI_pos (by omega)) | exact absurd (nI_pos' (by omega)) h5
    · refine q_aload_n (pc := 8) rfl rfl rfl ?_
      refine q_getf (pc := 9) rfl (by exact HR.c H hl _ rfl) rfl rfl ?_
      refine q_iload_n (pc := 12) rfl rfl ?_
      refine q_iconst (pc := 13) rfl (nI 0) (by decide) ?_
      refine n_bst (pc := 14) rfl H hl rfl (fun _ => rfl) (by omega) (by decide) (by rfl) ?_
      intro h H
      first | refine n_iinc (pc := 15) rfl [_, _] 1 (by decide) rfl rfl ?_ | refine q_iinc (pc := 15) [_, _] (1) rfl rfl (by decide) rfl ?_
      refine q_goto (pc := 18) rfl ?_
      exact m_clearL hl kk n (i + 1) (by omega) h _ H (f.st rfl) (fun j hj => by
        by_cases e : j = i
        · subst e
          exact stv_a
        · rw [stv_o e]
          exact c1 j (by omega))
termination_by n
theorem m_clear (H : HR P h s) (hl : 75 ≤ P.1) (kk : ∀ h' s', HR P h' s' → sf s s' (fun i => i = 65) → (∀ c, c < 36 → s' 65 c = nI 0) → Q none h') : wc d 178 [.ref 54] h Q := by
  refine wc.go [_, _] rfl ?_
  refine q_iconst (pc := 0) rfl (nI 0) (by decide) ?_
  refine q_istore_n (pc := 1) [_, _] rfl (Nat.le_of_ble_eq_true rfl) rfl ?_
  exact m_clearL hl kk 36 0 (by omega) h s H sf.rf (fun j hj => by omega)
/-- the best from a cell on -/
def DI (f : Nat → Bool) (g : Nat → Nat) (k b : Nat) : Prop := (b = 36 ∧ ∀ j, k ≤ j → j < 36 → f j = false) ∨ (b < 36 ∧ k ≤ b ∧ f b = true ∧ ∀ j, k ≤ j → j < 36 → f j = true → g b < g j ∨ (g b = g j ∧ b ≤ j))
theorem DI_u {f : Nat → Bool} {g : Nat → Nat} {a b : Nat} (h1 : DI f g 0 a) (h2 : DI f g 0 b) : a = b := by
  rcases h1 with ⟨e1, h1⟩ | ⟨a1, _, a3, h1⟩
  · rcases h2 with ⟨e2, _⟩ | ⟨b1, _, b3, _⟩
    · omega
    · rw [h1 b (by omega) b1] at b3
      exact absurd b3 (by decide)
  · rcases h2 with ⟨e2, h2⟩ | ⟨b1, _, b3, h2⟩
    · rw [h2 a (by omega) a1] at a3
      exact absurd a3 (by decide)
    · have q1 := h1 b (by omega) b1 b3
      have q2 := h2 a (by omega) a1 a3
      omega
def DU (f : Nat → Bool) (g : Nat → Nat) (n b : Nat) : Prop := (b = 36 ∧ ∀ j, j < n → f j = false) ∨ (b < n ∧ f b = true ∧ ∀ j, j < n → f j = true → g b < g j ∨ (g b = g j ∧ b ≤ j))
theorem nst_DU (f : Nat → Bool) (g : Nat → Nat) : ∀ n, n ≤ 36 → DU f g n (nst f g n) := by
  intro n
  induction n with
  | zero => intro _; exact Or.inl ⟨rfl, fun j hj => by omega⟩
  | succ n ih =>
    intro hn
    have h := ih (by omega)
    cases e : f n with
    | false =>
      have en : nst f g (n + 1) = nst f g n := by simp [nst, e]
      rw [en]
      rcases h with ⟨e1, h⟩ | ⟨a1, a3, h⟩
      · refine Or.inl ⟨e1, fun j hj => ?_⟩
        rcases Nat.lt_succ_iff_lt_or_eq.mp hj with g1 | g1
        · exact h j g1
        · rw [g1]; exact e
      · refine Or.inr ⟨by omega, a3, fun j hj hf => ?_⟩
        rcases Nat.lt_succ_iff_lt_or_eq.mp hj with g1 | g1
        · exact h j g1 hf
        · rw [g1, e] at hf
          exact absurd hf (by decide)
    | true =>
      rcases h with ⟨e1, h⟩ | ⟨a1, a3, h⟩
      · have en : nst f g (n + 1) = n := by simp [nst, e, e1]
        rw [en]
        refine Or.inr ⟨by omega, e, fun j hj hf => ?_⟩
        rcases Nat.lt_succ_iff_lt_or_eq.mp hj with g1 | g1
        · rw [h j g1] at hf
          exact absurd hf (by decide)
        · rw [g1]
          exact Or.inr ⟨rfl, Nat.le_refl _⟩
      · by_cases hg : g n < g (nst f g n)
        · have en : nst f g (n + 1) = n := by simp [nst, e, hg]
          rw [en]
          refine Or.inr ⟨by omega, e, fun j hj hf => ?_⟩
          rcases Nat.lt_succ_iff_lt_or_eq.mp hj with g1 | g1
          · have := h j g1 hf
            omega
          · rw [g1]
            exact Or.inr ⟨rfl, Nat.le_refl _⟩
        · have hne : nst f g n ≠ 36 := by omega
          have en : nst f g (n + 1) = nst f g n := by simp [nst, e, hg, hne]
          rw [en]
          refine Or.inr ⟨by omega, a3, fun j hj hf => ?_⟩
          rcases Nat.lt_succ_iff_lt_or_eq.mp hj with g1 | g1
          · exact h j g1 hf
          · rw [g1]
            omega
theorem nst_DI (f : Nat → Bool) (g : Nat → Nat) : DI f g 0 (nst f g 36) := by
  rcases nst_DU f g 36 (Nat.le_refl _) with ⟨e, h⟩ | ⟨a1, a3, h⟩
  · exact Or.inl ⟨e, fun j _ hj => h j hj⟩
  · exact Or.inr ⟨a1, Nat.zero_le _, a3, fun j _ hj => h j hj⟩
def BE (s : mx_St) (dn : Nat) : Prop := ∀ c, c < 36 → s 65 c = nI (dn.testBit c).toNat

theorem nfr_w {w : Nat} (h : wrn β c = false) : nfr β w c = false := by
  unfold nfr
  rw [h]
  rfl
theorem m_goN {z0 z1 z2 z3 z5 z6 : Option Value} (hb : b < 36) (kk : wq d k pc [z0, z1, z2, z3, some (.int (oc b)), z5, z6] [] h Q) : wq d k pc [z0, z1, z2, z3, some (.int (nI b)), z5, z6] [] h Q := by
  rw [show oc b = nI b from if_pos hb] at kk
  exact kk
theorem m_goM {z0 z1 z2 z3 z5 z6 : Option Value} (kk : wq d k pc [z0, z1, z2, z3, some (.int (oc 36)), z5, z6] [] h Q) : wq d k pc [z0, z1, z2, z3, some (.int (-1)), z5, z6] [] h Q := kk
theorem m_goI {n dn m at0 : Nat} (hd : 2 ≤ d) (H : HR P h s) (hl : 75 ≤ P.1) (N : NW s β) (hk : bok β n) (hp : p < 4) (hat : β (72 + 4 * p + 2) = at0) (hB : BE s dn) {z3 : Int32} (kk : ∀ z5 z6, wq d 179 98 [some (.ref 54), some (.int (nI p)), some (.int (nI m)), some (.int z3), some (.int (oc (nst (nfr β dn) (apN at0) 36))), z5, z6] [] h Q) (k0 b : Nat) (hk0 : k0 ≤ 36) (hD : DI (nfr β dn) (apN at0) k0 b) (z6 : Option Value) : wq d 179 18 [some (.ref 54), some (.int (nI p)), some (.int (nI m)), some (.int z3), some (.int (oc b)), some (.int (nI k0 + (-1))), z6] [] h Q := by
  have ha36 : at0 < 36 := by rw [← hat]; exact (hk.2.1 p hp).2.2.1
  match k0, hk0 with
  | 0, hk0 =>
    rw [← DI_u hD (nst_DI _ _)] at kk
    rw [show nI 0 + (-1) = -1 from by decide]
    refine q_iload (pc := 18) rfl rfl ?_
    refine q_iflt (pc := 20) rfl (fun h20 => ?_) (fun h20 => ?_)
    · first
      | (exfalso; omega (config := {splitDisjunctions := false}))
      | skip
        exact kk _ _
    · exact absurd (by decide) h20
  | k0 + 1, hk0 =>
    have e65 := hB k0 (by omega)
    have ba := apN_le ha36 (show k0 < 36 by omega)
    rw [pk_m1]
    have skip : nfr β dn k0 = false → DI (nfr β dn) (apN at0) k0 b := fun hf => by
      rcases hD with ⟨e, hD⟩ | ⟨b1, b2, b3, hD⟩
      · refine Or.inl ⟨e, fun j h1 h2 => ?_⟩
        rcases Nat.eq_or_lt_of_le h1 with g | g
        · rw [← g]; exact hf
        · exact hD j g h2
      · refine Or.inr ⟨b1, by omega, b3, fun j h1 h2 h3 => ?_⟩
        rcases Nat.eq_or_lt_of_le h1 with g | g
        · rw [← g, hf] at h3
          exact absurd h3 (by decide)
        · exact hD j g h2 h3
    cases hbt : dn.testBit k0 with
    | false =>
      rw [hbt] at e65
      have e65 : s 65 k0 = nI 0 := e65
      rcases hD with ⟨rfl, hD⟩ | ⟨b1, b2, b3, hD⟩
      · rw [show oc 36 = -1 from by decide]
        refine q_iload (pc := 18) rfl rfl ?_
        refine q_iflt (pc := 20) rfl (fun h20 => ?_) (fun h20 => ?_)
        · first | (exfalso; omega) | exact absurd h20 (nI_pos (by omega)) | exact absurd (nI_pos' (by omega)) h20
        · refine q_aload_n (pc := 23) rfl rfl rfl ?_
          refine q_iload (pc := 24) rfl rfl ?_
          refine q_callV (pc := 26) _ rfl rfl rfl (by exact HR.c H hl _ rfl) rfl (Nat.le_of_ble_eq_true rfl) (by omega) _ rfl ?_
          refine m_isWrong H hl N hk.1 (by omega) (fun hw => ?_) (fun hwf => ?_)
          · refine q_ifeq (pc := 29) rfl (fun z => absurd z (by decide)) (fun _ => ?_)
            refine q_aload_n (pc := 32) rfl rfl rfl ?_
            refine q_getf (pc := 33) rfl (by exact HR.c H hl _ rfl) rfl rfl ?_
            refine q_iload (pc := 36) rfl rfl ?_
            refine n_bld (pc := 38) rfl H hl rfl rfl (by omega) (by decide) ?_
            rw [e65]
            first | refine n_ifne (pc := 39) rfl (by omega) (fun h39 => ?_) (fun h39 => ?_) | refine q_ifne (pc := 39) rfl (fun h39 => ?_) (fun h39 => ?_)
            · first
              | (exfalso; omega (config := {splitDisjunctions := false}))
              | exact absurd rfl h39
              | skip
                refine q_iconst (pc := 46) rfl (nI 0) (by decide) ?_
                refine q_istore (pc := 47) [_, _, _, _, _, _, _] rfl (Nat.le_of_ble_eq_true rfl) rfl ?_
                refine q_iload (pc := 49) rfl rfl ?_
                first | refine n_ifeq (pc := 51) rfl (by omega) (fun h51 => ?_) (fun h51 => ?_) | refine q_ifeq (pc := 51) rfl (fun h51 => ?_) (fun h51 => ?_)
                · first
                  | (exfalso; omega (config := {splitDisjunctions := false}))
                  | exact absurd rfl h51
                  | skip
                    refine q_iload (pc := 88) rfl rfl ?_
                    refine q_istore (pc := 90) [_, _, _, _, _, _, _] rfl (Nat.le_of_ble_eq_true rfl) rfl ?_
                    refine q_iinc (pc := 92) [_, _, _, _, _, _, _] (-1) rfl rfl (by decide) rfl ?_
                    refine q_goto (pc := 95) rfl ?_
                    first
                    | (exact m_goN (by omega) (m_goI hd H hl N hk hp hat hB kk k0 k0 (by omega) (Or.inr ⟨by omega, Nat.le_refl _, by unfold nfr; rw [hw, hbt]; rfl, fun j h1 h2 h3 => by
                         rcases Nat.eq_or_lt_of_le h1 with g | g
                         · subst g; exact Or.inr ⟨rfl, Nat.le_refl _⟩
                         · rw [hD j g h2] at h3; exact absurd h3 (by decide)⟩) _))
                    | (exact m_goM (m_goI hd H hl N hk hp hat hB kk k0 36 (by omega) (skip (nfr_w hwf)) _))
                · first
                  | (exfalso; omega (config := {splitDisjunctions := false}))
                  | exact absurd rfl h51
                  | skip
                    refine q_iload (pc := 54) rfl rfl ?_
                    refine q_iconst (pc := 56) rfl (-1) (by decide) ?_
                    refine q_icmpeq (pc := 57) rfl (fun h57 => ?_) (fun h57 => ?_)
                    · first
                      | (exfalso; omega (config := {splitDisjunctions := false}))
                      | exact absurd rfl h57
                      | skip
                        refine q_iload (pc := 83) rfl rfl ?_
                        refine q_goto (pc := 85) rfl ?_
                        refine q_istore (pc := 90) [_, _, _, _, _, _, _] rfl (Nat.le_of_ble_eq_true rfl) rfl ?_
                        refine q_iinc (pc := 92) [_, _, _, _, _, _, _] (-1) rfl rfl (by decide) rfl ?_
                        refine q_goto (pc := 95) rfl ?_
                        first
                        | (exact m_goN (by omega) (m_goI hd H hl N hk hp hat hB kk k0 k0 (by omega) (Or.inr ⟨by omega, Nat.le_refl _, by unfold nfr; rw [hw, hbt]; rfl, fun j h1 h2 h3 => by
                             rcases Nat.eq_or_lt_of_le h1 with g | g
                             · subst g; exact Or.inr ⟨rfl, Nat.le_refl _⟩
                             · rw [hD j g h2] at h3; exact absurd h3 (by decide)⟩) _))
                        | (exact m_goM (m_goI hd H hl N hk hp hat hB kk k0 36 (by omega) (skip (nfr_w hwf)) _))
                    · exact absurd rfl h57
            · first
              | (exfalso; omega (config := {splitDisjunctions := false}))
              | exact absurd rfl h39
              | skip
                refine q_iconst (pc := 42) rfl (nI 1) (by decide) ?_
                refine q_goto (pc := 43) rfl ?_
                refine q_istore (pc := 47) [_, _, _, _, _, _, _] rfl (Nat.le_of_ble_eq_true rfl) rfl ?_
                refine q_iload (pc := 49) rfl rfl ?_
                first | refine n_ifeq (pc := 51) rfl (by omega) (fun h51 => ?_) (fun h51 => ?_) | refine q_ifeq (pc := 51) rfl (fun h51 => ?_) (fun h51 => ?_)
                · first
                  | (exfalso; omega (config := {splitDisjunctions := false}))
                  | exact absurd rfl h51
                  | skip
                    refine q_iload (pc := 88) rfl rfl ?_
                    refine q_istore (pc := 90) [_, _, _, _, _, _, _] rfl (Nat.le_of_ble_eq_true rfl) rfl ?_
                    refine q_iinc (pc := 92) [_, _, _, _, _, _, _] (-1) rfl rfl (by decide) rfl ?_
                    refine q_goto (pc := 95) rfl ?_
                    first
                    | (exact m_goN (by omega) (m_goI hd H hl N hk hp hat hB kk k0 k0 (by omega) (Or.inr ⟨by omega, Nat.le_refl _, by unfold nfr; rw [hw, hbt]; rfl, fun j h1 h2 h3 => by
                         rcases Nat.eq_or_lt_of_le h1 with g | g
                         · subst g; exact Or.inr ⟨rfl, Nat.le_refl _⟩
                         · rw [hD j g h2] at h3; exact absurd h3 (by decide)⟩) _))
                    | (exact m_goM (m_goI hd H hl N hk hp hat hB kk k0 36 (by omega) (skip (nfr_w hwf)) _))
                · first
                  | (exfalso; omega (config := {splitDisjunctions := false}))
                  | exact absurd rfl h51
                  | skip
                    refine q_iload (pc := 54) rfl rfl ?_
                    refine q_iconst (pc := 56) rfl (-1) (by decide) ?_
                    refine q_icmpeq (pc := 57) rfl (fun h57 => ?_) (fun h57 => ?_)
                    · first
                      | (exfalso; omega (config := {splitDisjunctions := false}))
                      | exact absurd rfl h57
                      | skip
                        refine q_iload (pc := 83) rfl rfl ?_
                        refine q_goto (pc := 85) rfl ?_
                        refine q_istore (pc := 90) [_, _, _, _, _, _, _] rfl (Nat.le_of_ble_eq_true rfl) rfl ?_
                        refine q_iinc (pc := 92) [_, _, _, _, _, _, _] (-1) rfl rfl (by decide) rfl ?_
                        refine q_goto (pc := 95) rfl ?_
                        first
                        | (exact m_goN (by omega) (m_goI hd H hl N hk hp hat hB kk k0 k0 (by omega) (Or.inr ⟨by omega, Nat.le_refl _, by unfold nfr; rw [hw, hbt]; rfl, fun j h1 h2 h3 => by
                             rcases Nat.eq_or_lt_of_le h1 with g | g
                             · subst g; exact Or.inr ⟨rfl, Nat.le_refl _⟩
                             · rw [hD j g h2] at h3; exact absurd h3 (by decide)⟩) _))
                        | (exact m_goM (m_goI hd H hl N hk hp hat hB kk k0 36 (by omega) (skip (nfr_w hwf)) _))
                    · exact absurd rfl h57
          · refine q_ifeq (pc := 29) rfl (fun _ => ?_) (fun z => absurd (by decide) z)
            refine q_iconst (pc := 46) rfl (nI 0) (by decide) ?_
            refine q_istore (pc := 47) [_, _, _, _, _, _, _] rfl (Nat.le_of_ble_eq_true rfl) rfl ?_
            refine q_iload (pc := 49) rfl rfl ?_
            first | refine n_ifeq (pc := 51) rfl (by omega) (fun h51 => ?_) (fun h51 => ?_) | refine q_ifeq (pc := 51) rfl (fun h51 => ?_) (fun h51 => ?_)
            · first
              | (exfalso; omega (config := {splitDisjunctions := false}))
              | exact absurd rfl h51
              | skip
                refine q_iload (pc := 88) rfl rfl ?_
                refine q_istore (pc := 90) [_, _, _, _, _, _, _] rfl (Nat.le_of_ble_eq_true rfl) rfl ?_
                refine q_iinc (pc := 92) [_, _, _, _, _, _, _] (-1) rfl rfl (by decide) rfl ?_
                refine q_goto (pc := 95) rfl ?_
                first
                | (exact m_goN (by omega) (m_goI hd H hl N hk hp hat hB kk k0 k0 (by omega) (Or.inr ⟨by omega, Nat.le_refl _, by unfold nfr; rw [hw, hbt]; rfl, fun j h1 h2 h3 => by
                     rcases Nat.eq_or_lt_of_le h1 with g | g
                     · subst g; exact Or.inr ⟨rfl, Nat.le_refl _⟩
                     · rw [hD j g h2] at h3; exact absurd h3 (by decide)⟩) _))
                | (exact m_goM (m_goI hd H hl N hk hp hat hB kk k0 36 (by omega) (skip (nfr_w hwf)) _))
            · first
              | (exfalso; omega (config := {splitDisjunctions := false}))
              | exact absurd rfl h51
              | skip
                refine q_iload (pc := 54) rfl rfl ?_
                refine q_iconst (pc := 56) rfl (-1) (by decide) ?_
                refine q_icmpeq (pc := 57) rfl (fun h57 => ?_) (fun h57 => ?_)
                · first
                  | (exfalso; omega (config := {splitDisjunctions := false}))
                  | exact absurd rfl h57
                  | skip
                    refine q_iload (pc := 83) rfl rfl ?_
                    refine q_goto (pc := 85) rfl ?_
                    refine q_istore (pc := 90) [_, _, _, _, _, _, _] rfl (Nat.le_of_ble_eq_true rfl) rfl ?_
                    refine q_iinc (pc := 92) [_, _, _, _, _, _, _] (-1) rfl rfl (by decide) rfl ?_
                    refine q_goto (pc := 95) rfl ?_
                    first
                    | (exact m_goN (by omega) (m_goI hd H hl N hk hp hat hB kk k0 k0 (by omega) (Or.inr ⟨by omega, Nat.le_refl _, by unfold nfr; rw [hw, hbt]; rfl, fun j h1 h2 h3 => by
                         rcases Nat.eq_or_lt_of_le h1 with g | g
                         · subst g; exact Or.inr ⟨rfl, Nat.le_refl _⟩
                         · rw [hD j g h2] at h3; exact absurd h3 (by decide)⟩) _))
                    | (exact m_goM (m_goI hd H hl N hk hp hat hB kk k0 36 (by omega) (skip (nfr_w hwf)) _))
                · exact absurd rfl h57
      · rw [show oc b = nI b from if_pos b1]
        have bb := apN_le ha36 b1
        refine q_iload (pc := 18) rfl rfl ?_
        refine q_iflt (pc := 20) rfl (fun h20 => ?_) (fun h20 => ?_)
        · first | (exfalso; omega) | exact absurd h20 (nI_pos (by omega)) | exact absurd (nI_pos' (by omega)) h20
        · refine q_aload_n (pc := 23) rfl rfl rfl ?_
          refine q_iload (pc := 24) rfl rfl ?_
          refine q_callV (pc := 26) _ rfl rfl rfl (by exact HR.c H hl _ rfl) rfl (Nat.le_of_ble_eq_true rfl) (by omega) _ rfl ?_
          refine m_isWrong H hl N hk.1 (by omega) (fun hw => ?_) (fun hwf => ?_)
          · refine q_ifeq (pc := 29) rfl (fun z => absurd z (by decide)) (fun _ => ?_)
            refine q_aload_n (pc := 32) rfl rfl rfl ?_
            refine q_getf (pc := 33) rfl (by exact HR.c H hl _ rfl) rfl rfl ?_
            refine q_iload (pc := 36) rfl rfl ?_
            refine n_bld (pc := 38) rfl H hl rfl rfl (by omega) (by decide) ?_
            rw [e65]
            first | refine n_ifne (pc := 39) rfl (by omega) (fun h39 => ?_) (fun h39 => ?_) | refine q_ifne (pc := 39) rfl (fun h39 => ?_) (fun h39 => ?_)
            · first
              | (exfalso; omega (config := {splitDisjunctions := false}))
              | exact absurd rfl h39
              | skip
                refine q_iconst (pc := 46) rfl (nI 0) (by decide) ?_
                refine q_istore (pc := 47) [_, _, _, _, _, _, _] rfl (Nat.le_of_ble_eq_true rfl) rfl ?_
                refine q_iload (pc := 49) rfl rfl ?_
                first | refine n_ifeq (pc := 51) rfl (by omega) (fun h51 => ?_) (fun h51 => ?_) | refine q_ifeq (pc := 51) rfl (fun h51 => ?_) (fun h51 => ?_)
                · first
                  | (exfalso; omega (config := {splitDisjunctions := false}))
                  | exact absurd rfl h51
                  | skip
                    refine q_iload (pc := 88) rfl rfl ?_
                    refine q_istore (pc := 90) [_, _, _, _, _, _, _] rfl (Nat.le_of_ble_eq_true rfl) rfl ?_
                    refine q_iinc (pc := 92) [_, _, _, _, _, _, _] (-1) rfl rfl (by decide) rfl ?_
                    refine q_goto (pc := 95) rfl ?_
                    first
                    | (exact m_goN b1 (m_goI hd H hl N hk hp hat hB kk k0 b (by omega) (skip (nfr_w hwf)) _))
                    | (have q80 : apN at0 b < apN at0 k0 := h80
                       exact m_goN b1 (m_goI hd H hl N hk hp hat hB kk k0 b (by omega) (Or.inr ⟨b1, by omega, b3, fun j h1 h2 h3 => by
                         rcases Nat.eq_or_lt_of_le h1 with g | g
                         · subst g; exact Or.inl (by omega)
                         · exact hD j g h2 h3⟩) _))
                    | (have q80 : apN at0 k0 ≤ apN at0 b := h80
                       exact m_goN (by omega) (m_goI hd H hl N hk hp hat hB kk k0 k0 (by omega) (Or.inr ⟨by omega, Nat.le_refl _, by unfold nfr; rw [hw, hbt]; rfl, fun j h1 h2 h3 => by
                         rcases Nat.eq_or_lt_of_le h1 with g | g
                         · subst g; exact Or.inr ⟨rfl, Nat.le_refl _⟩
                         · have := hD j g h2 h3; omega⟩) _))
                · first
                  | (exfalso; omega (config := {splitDisjunctions := false}))
                  | exact absurd rfl h51
                  | skip
                    refine q_iload (pc := 54) rfl rfl ?_
                    refine q_iconst (pc := 56) rfl (-1) (by decide) ?_
                    refine q_icmpeq (pc := 57) rfl (fun h57 => ?_) (fun h57 => ?_)
                    · exact absurd h57 (nI_m1 (by omega))
                    · first
                      | (exfalso; omega (config := {splitDisjunctions := false}))
                      | exact absurd rfl h57
                      | skip
                        refine q_aload_n (pc := 60) rfl rfl rfl ?_
                        refine q_iload_n (pc := 61) rfl rfl ?_
                        refine q_callV (pc := 62) _ rfl rfl rfl (by exact HR.c H hl _ rfl) rfl (Nat.le_of_ble_eq_true rfl) (by omega) _ rfl ?_
                        refine m_at H hl N hp ?_
                        rw [hat]
                        refine q_iload (pc := 65) rfl rfl ?_
                        refine q_callS (pc := 67) _ (by decide) rfl rfl rfl rfl (Nat.le_of_ble_eq_true rfl) (by omega) _ rfl ?_
                        refine m_apart ha36 (by omega) ?_
                        refine q_aload_n (pc := 70) rfl rfl rfl ?_
                        refine q_iload_n (pc := 71) rfl rfl ?_
                        refine q_callV (pc := 72) _ rfl rfl rfl (by exact HR.c H hl _ rfl) rfl (Nat.le_of_ble_eq_true rfl) (by omega) _ rfl ?_
                        refine m_at H hl N hp ?_
                        rw [hat]
                        refine q_iload (pc := 75) rfl rfl ?_
                        refine q_callS (pc := 77) _ (by decide) rfl rfl rfl rfl (Nat.le_of_ble_eq_true rfl) (by omega) _ rfl ?_
                        refine m_apart ha36 b1 ?_
                        first | refine n_icmpgt (pc := 80) rfl (by omega) (by omega) (fun h80 => ?_) (fun h80 => ?_) | refine q_icmpgt (pc := 80) rfl (fun h80 => ?_) (fun h80 => ?_)
                        · first
                          | (exfalso; omega (config := {splitDisjunctions := false}))
                          | skip
                            refine q_iload (pc := 88) rfl rfl ?_
                            refine q_istore (pc := 90) [_, _, _, _, _, _, _] rfl (Nat.le_of_ble_eq_true rfl) rfl ?_
                            refine q_iinc (pc := 92) [_, _, _, _, _, _, _] (-1) rfl rfl (by decide) rfl ?_
                            refine q_goto (pc := 95) rfl ?_
                            first
                            | (exact m_goN b1 (m_goI hd H hl N hk hp hat hB kk k0 b (by omega) (skip (nfr_w hwf)) _))
                            | (have q80 : apN at0 b < apN at0 k0 := h80
                               exact m_goN b1 (m_goI hd H hl N hk hp hat hB kk k0 b (by omega) (Or.inr ⟨b1, by omega, b3, fun j h1 h2 h3 => by
                                 rcases Nat.eq_or_lt_of_le h1 with g | g
                                 · subst g; exact Or.inl (by omega)
                                 · exact hD j g h2 h3⟩) _))
                            | (have q80 : apN at0 k0 ≤ apN at0 b := h80
                               exact m_goN (by omega) (m_goI hd H hl N hk hp hat hB kk k0 k0 (by omega) (Or.inr ⟨by omega, Nat.le_refl _, by unfold nfr; rw [hw, hbt]; rfl, fun j h1 h2 h3 => by
                                 rcases Nat.eq_or_lt_of_le h1 with g | g
                                 · subst g; exact Or.inr ⟨rfl, Nat.le_refl _⟩
                                 · have := hD j g h2 h3; omega⟩) _))
                        · first
                          | (exfalso; omega (config := {splitDisjunctions := false}))
                          | skip
                            refine q_iload (pc := 83) rfl rfl ?_
                            refine q_goto (pc := 85) rfl ?_
                            refine q_istore (pc := 90) [_, _, _, _, _, _, _] rfl (Nat.le_of_ble_eq_true rfl) rfl ?_
                            refine q_iinc (pc := 92) [_, _, _, _, _, _, _] (-1) rfl rfl (by decide) rfl ?_
                            refine q_goto (pc := 95) rfl ?_
                            first
                            | (exact m_goN b1 (m_goI hd H hl N hk hp hat hB kk k0 b (by omega) (skip (nfr_w hwf)) _))
                            | (have q80 : apN at0 b < apN at0 k0 := h80
                               exact m_goN b1 (m_goI hd H hl N hk hp hat hB kk k0 b (by omega) (Or.inr ⟨b1, by omega, b3, fun j h1 h2 h3 => by
                                 rcases Nat.eq_or_lt_of_le h1 with g | g
                                 · subst g; exact Or.inl (by omega)
                                 · exact hD j g h2 h3⟩) _))
                            | (have q80 : apN at0 k0 ≤ apN at0 b := h80
                               exact m_goN (by omega) (m_goI hd H hl N hk hp hat hB kk k0 k0 (by omega) (Or.inr ⟨by omega, Nat.le_refl _, by unfold nfr; rw [hw, hbt]; rfl, fun j h1 h2 h3 => by
                                 rcases Nat.eq_or_lt_of_le h1 with g | g
                                 · subst g; exact Or.inr ⟨rfl, Nat.le_refl _⟩
                                 · have := hD j g h2 h3; omega⟩) _))
            · first
              | (exfalso; omega (config := {splitDisjunctions := false}))
              | exact absurd rfl h39
              | skip
                refine q_iconst (pc := 42) rfl (nI 1) (by decide) ?_
                refine q_goto (pc := 43) rfl ?_
                refine q_istore (pc := 47) [_, _, _, _, _, _, _] rfl (Nat.le_of_ble_eq_true rfl) rfl ?_
                refine q_iload (pc := 49) rfl rfl ?_
                first | refine n_ifeq (pc := 51) rfl (by omega) (fun h51 => ?_) (fun h51 => ?_) | refine q_ifeq (pc := 51) rfl (fun h51 => ?_) (fun h51 => ?_)
                · first
                  | (exfalso; omega (config := {splitDisjunctions := false}))
                  | exact absurd rfl h51
                  | skip
                    refine q_iload (pc := 88) rfl rfl ?_
                    refine q_istore (pc := 90) [_, _, _, _, _, _, _] rfl (Nat.le_of_ble_eq_true rfl) rfl ?_
                    refine q_iinc (pc := 92) [_, _, _, _, _, _, _] (-1) rfl rfl (by decide) rfl ?_
                    refine q_goto (pc := 95) rfl ?_
                    first
                    | (exact m_goN b1 (m_goI hd H hl N hk hp hat hB kk k0 b (by omega) (skip (nfr_w hwf)) _))
                    | (have q80 : apN at0 b < apN at0 k0 := h80
                       exact m_goN b1 (m_goI hd H hl N hk hp hat hB kk k0 b (by omega) (Or.inr ⟨b1, by omega, b3, fun j h1 h2 h3 => by
                         rcases Nat.eq_or_lt_of_le h1 with g | g
                         · subst g; exact Or.inl (by omega)
                         · exact hD j g h2 h3⟩) _))
                    | (have q80 : apN at0 k0 ≤ apN at0 b := h80
                       exact m_goN (by omega) (m_goI hd H hl N hk hp hat hB kk k0 k0 (by omega) (Or.inr ⟨by omega, Nat.le_refl _, by unfold nfr; rw [hw, hbt]; rfl, fun j h1 h2 h3 => by
                         rcases Nat.eq_or_lt_of_le h1 with g | g
                         · subst g; exact Or.inr ⟨rfl, Nat.le_refl _⟩
                         · have := hD j g h2 h3; omega⟩) _))
                · first
                  | (exfalso; omega (config := {splitDisjunctions := false}))
                  | exact absurd rfl h51
                  | skip
                    refine q_iload (pc := 54) rfl rfl ?_
                    refine q_iconst (pc := 56) rfl (-1) (by decide) ?_
                    refine q_icmpeq (pc := 57) rfl (fun h57 => ?_) (fun h57 => ?_)
                    · exact absurd h57 (nI_m1 (by omega))
                    · first
                      | (exfalso; omega (config := {splitDisjunctions := false}))
                      | exact absurd rfl h57
                      | skip
                        refine q_aload_n (pc := 60) rfl rfl rfl ?_
                        refine q_iload_n (pc := 61) rfl rfl ?_
                        refine q_callV (pc := 62) _ rfl rfl rfl (by exact HR.c H hl _ rfl) rfl (Nat.le_of_ble_eq_true rfl) (by omega) _ rfl ?_
                        refine m_at H hl N hp ?_
                        rw [hat]
                        refine q_iload (pc := 65) rfl rfl ?_
                        refine q_callS (pc := 67) _ (by decide) rfl rfl rfl rfl (Nat.le_of_ble_eq_true rfl) (by omega) _ rfl ?_
                        refine m_apart ha36 (by omega) ?_
                        refine q_aload_n (pc := 70) rfl rfl rfl ?_
                        refine q_iload_n (pc := 71) rfl rfl ?_
                        refine q_callV (pc := 72) _ rfl rfl rfl (by exact HR.c H hl _ rfl) rfl (Nat.le_of_ble_eq_true rfl) (by omega) _ rfl ?_
                        refine m_at H hl N hp ?_
                        rw [hat]
                        refine q_iload (pc := 75) rfl rfl ?_
                        refine q_callS (pc := 77) _ (by decide) rfl rfl rfl rfl (Nat.le_of_ble_eq_true rfl) (by omega) _ rfl ?_
                        refine m_apart ha36 b1 ?_
                        first | refine n_icmpgt (pc := 80) rfl (by omega) (by omega) (fun h80 => ?_) (fun h80 => ?_) | refine q_icmpgt (pc := 80) rfl (fun h80 => ?_) (fun h80 => ?_)
                        · first
                          | (exfalso; omega (config := {splitDisjunctions := false}))
                          | skip
                            refine q_iload (pc := 88) rfl rfl ?_
                            refine q_istore (pc := 90) [_, _, _, _, _, _, _] rfl (Nat.le_of_ble_eq_true rfl) rfl ?_
                            refine q_iinc (pc := 92) [_, _, _, _, _, _, _] (-1) rfl rfl (by decide) rfl ?_
                            refine q_goto (pc := 95) rfl ?_
                            first
                            | (exact m_goN b1 (m_goI hd H hl N hk hp hat hB kk k0 b (by omega) (skip (nfr_w hwf)) _))
                            | (have q80 : apN at0 b < apN at0 k0 := h80
                               exact m_goN b1 (m_goI hd H hl N hk hp hat hB kk k0 b (by omega) (Or.inr ⟨b1, by omega, b3, fun j h1 h2 h3 => by
                                 rcases Nat.eq_or_lt_of_le h1 with g | g
                                 · subst g; exact Or.inl (by omega)
                                 · exact hD j g h2 h3⟩) _))
                            | (have q80 : apN at0 k0 ≤ apN at0 b := h80
                               exact m_goN (by omega) (m_goI hd H hl N hk hp hat hB kk k0 k0 (by omega) (Or.inr ⟨by omega, Nat.le_refl _, by unfold nfr; rw [hw, hbt]; rfl, fun j h1 h2 h3 => by
                                 rcases Nat.eq_or_lt_of_le h1 with g | g
                                 · subst g; exact Or.inr ⟨rfl, Nat.le_refl _⟩
                                 · have := hD j g h2 h3; omega⟩) _))
                        · first
                          | (exfalso; omega (config := {splitDisjunctions := false}))
                          | skip
                            refine q_iload (pc := 83) rfl rfl ?_
                            refine q_goto (pc := 85) rfl ?_
                            refine q_istore (pc := 90) [_, _, _, _, _, _, _] rfl (Nat.le_of_ble_eq_true rfl) rfl ?_
                            refine q_iinc (pc := 92) [_, _, _, _, _, _, _] (-1) rfl rfl (by decide) rfl ?_
                            refine q_goto (pc := 95) rfl ?_
                            first
                            | (exact m_goN b1 (m_goI hd H hl N hk hp hat hB kk k0 b (by omega) (skip (nfr_w hwf)) _))
                            | (have q80 : apN at0 b < apN at0 k0 := h80
                               exact m_goN b1 (m_goI hd H hl N hk hp hat hB kk k0 b (by omega) (Or.inr ⟨b1, by omega, b3, fun j h1 h2 h3 => by
                                 rcases Nat.eq_or_lt_of_le h1 with g | g
                                 · subst g; exact Or.inl (by omega)
                                 · exact hD j g h2 h3⟩) _))
                            | (have q80 : apN at0 k0 ≤ apN at0 b := h80
                               exact m_goN (by omega) (m_goI hd H hl N hk hp hat hB kk k0 k0 (by omega) (Or.inr ⟨by omega, Nat.le_refl _, by unfold nfr; rw [hw, hbt]; rfl, fun j h1 h2 h3 => by
                                 rcases Nat.eq_or_lt_of_le h1 with g | g
                                 · subst g; exact Or.inr ⟨rfl, Nat.le_refl _⟩
                                 · have := hD j g h2 h3; omega⟩) _))
          · refine q_ifeq (pc := 29) rfl (fun _ => ?_) (fun z => absurd (by decide) z)
            refine q_iconst (pc := 46) rfl (nI 0) (by decide) ?_
            refine q_istore (pc := 47) [_, _, _, _, _, _, _] rfl (Nat.le_of_ble_eq_true rfl) rfl ?_
            refine q_iload (pc := 49) rfl rfl ?_
            first | refine n_ifeq (pc := 51) rfl (by omega) (fun h51 => ?_) (fun h51 => ?_) | refine q_ifeq (pc := 51) rfl (fun h51 => ?_) (fun h51 => ?_)
            · first
              | (exfalso; omega (config := {splitDisjunctions := false}))
              | exact absurd rfl h51
              | skip
                refine q_iload (pc := 88) rfl rfl ?_
                refine q_istore (pc := 90) [_, _, _, _, _, _, _] rfl (Nat.le_of_ble_eq_true rfl) rfl ?_
                refine q_iinc (pc := 92) [_, _, _, _, _, _, _] (-1) rfl rfl (by decide) rfl ?_
                refine q_goto (pc := 95) rfl ?_
                first
                | (exact m_goN b1 (m_goI hd H hl N hk hp hat hB kk k0 b (by omega) (skip (nfr_w hwf)) _))
                | (have q80 : apN at0 b < apN at0 k0 := h80
                   exact m_goN b1 (m_goI hd H hl N hk hp hat hB kk k0 b (by omega) (Or.inr ⟨b1, by omega, b3, fun j h1 h2 h3 => by
                     rcases Nat.eq_or_lt_of_le h1 with g | g
                     · subst g; exact Or.inl (by omega)
                     · exact hD j g h2 h3⟩) _))
                | (have q80 : apN at0 k0 ≤ apN at0 b := h80
                   exact m_goN (by omega) (m_goI hd H hl N hk hp hat hB kk k0 k0 (by omega) (Or.inr ⟨by omega, Nat.le_refl _, by unfold nfr; rw [hw, hbt]; rfl, fun j h1 h2 h3 => by
                     rcases Nat.eq_or_lt_of_le h1 with g | g
                     · subst g; exact Or.inr ⟨rfl, Nat.le_refl _⟩
                     · have := hD j g h2 h3; omega⟩) _))
            · first
              | (exfalso; omega (config := {splitDisjunctions := false}))
              | exact absurd rfl h51
              | skip
                refine q_iload (pc := 54) rfl rfl ?_
                refine q_iconst (pc := 56) rfl (-1) (by decide) ?_
                refine q_icmpeq (pc := 57) rfl (fun h57 => ?_) (fun h57 => ?_)
                · exact absurd h57 (nI_m1 (by omega))
                · first
                  | (exfalso; omega (config := {splitDisjunctions := false}))
                  | exact absurd rfl h57
                  | skip
                    refine q_aload_n (pc := 60) rfl rfl rfl ?_
                    refine q_iload_n (pc := 61) rfl rfl ?_
                    refine q_callV (pc := 62) _ rfl rfl rfl (by exact HR.c H hl _ rfl) rfl (Nat.le_of_ble_eq_true rfl) (by omega) _ rfl ?_
                    refine m_at H hl N hp ?_
                    rw [hat]
                    refine q_iload (pc := 65) rfl rfl ?_
                    refine q_callS (pc := 67) _ (by decide) rfl rfl rfl rfl (Nat.le_of_ble_eq_true rfl) (by omega) _ rfl ?_
                    refine m_apart ha36 (by omega) ?_
                    refine q_aload_n (pc := 70) rfl rfl rfl ?_
                    refine q_iload_n (pc := 71) rfl rfl ?_
                    refine q_callV (pc := 72) _ rfl rfl rfl (by exact HR.c H hl _ rfl) rfl (Nat.le_of_ble_eq_true rfl) (by omega) _ rfl ?_
                    refine m_at H hl N hp ?_
                    rw [hat]
                    refine q_iload (pc := 75) rfl rfl ?_
                    refine q_callS (pc := 77) _ (by decide) rfl rfl rfl rfl (Nat.le_of_ble_eq_true rfl) (by omega) _ rfl ?_
                    refine m_apart ha36 b1 ?_
                    first | refine n_icmpgt (pc := 80) rfl (by omega) (by omega) (fun h80 => ?_) (fun h80 => ?_) | refine q_icmpgt (pc := 80) rfl (fun h80 => ?_) (fun h80 => ?_)
                    · first
                      | (exfalso; omega (config := {splitDisjunctions := false}))
                      | skip
                        refine q_iload (pc := 88) rfl rfl ?_
                        refine q_istore (pc := 90) [_, _, _, _, _, _, _] rfl (Nat.le_of_ble_eq_true rfl) rfl ?_
                        refine q_iinc (pc := 92) [_, _, _, _, _, _, _] (-1) rfl rfl (by decide) rfl ?_
                        refine q_goto (pc := 95) rfl ?_
                        first
                        | (exact m_goN b1 (m_goI hd H hl N hk hp hat hB kk k0 b (by omega) (skip (nfr_w hwf)) _))
                        | (have q80 : apN at0 b < apN at0 k0 := h80
                           exact m_goN b1 (m_goI hd H hl N hk hp hat hB kk k0 b (by omega) (Or.inr ⟨b1, by omega, b3, fun j h1 h2 h3 => by
                             rcases Nat.eq_or_lt_of_le h1 with g | g
                             · subst g; exact Or.inl (by omega)
                             · exact hD j g h2 h3⟩) _))
                        | (have q80 : apN at0 k0 ≤ apN at0 b := h80
                           exact m_goN (by omega) (m_goI hd H hl N hk hp hat hB kk k0 k0 (by omega) (Or.inr ⟨by omega, Nat.le_refl _, by unfold nfr; rw [hw, hbt]; rfl, fun j h1 h2 h3 => by
                             rcases Nat.eq_or_lt_of_le h1 with g | g
                             · subst g; exact Or.inr ⟨rfl, Nat.le_refl _⟩
                             · have := hD j g h2 h3; omega⟩) _))
                    · first
                      | (exfalso; omega (config := {splitDisjunctions := false}))
                      | skip
                        refine q_iload (pc := 83) rfl rfl ?_
                        refine q_goto (pc := 85) rfl ?_
                        refine q_istore (pc := 90) [_, _, _, _, _, _, _] rfl (Nat.le_of_ble_eq_true rfl) rfl ?_
                        refine q_iinc (pc := 92) [_, _, _, _, _, _, _] (-1) rfl rfl (by decide) rfl ?_
                        refine q_goto (pc := 95) rfl ?_
                        first
                        | (exact m_goN b1 (m_goI hd H hl N hk hp hat hB kk k0 b (by omega) (skip (nfr_w hwf)) _))
                        | (have q80 : apN at0 b < apN at0 k0 := h80
                           exact m_goN b1 (m_goI hd H hl N hk hp hat hB kk k0 b (by omega) (Or.inr ⟨b1, by omega, b3, fun j h1 h2 h3 => by
                             rcases Nat.eq_or_lt_of_le h1 with g | g
                             · subst g; exact Or.inl (by omega)
                             · exact hD j g h2 h3⟩) _))
                        | (have q80 : apN at0 k0 ≤ apN at0 b := h80
                           exact m_goN (by omega) (m_goI hd H hl N hk hp hat hB kk k0 k0 (by omega) (Or.inr ⟨by omega, Nat.le_refl _, by unfold nfr; rw [hw, hbt]; rfl, fun j h1 h2 h3 => by
                             rcases Nat.eq_or_lt_of_le h1 with g | g
                             · subst g; exact Or.inr ⟨rfl, Nat.le_refl _⟩
                             · have := hD j g h2 h3; omega⟩) _))
    | true =>
      rw [hbt] at e65
      have e65 : s 65 k0 = nI 1 := e65
      rcases hD with ⟨rfl, hD⟩ | ⟨b1, b2, b3, hD⟩
      · rw [show oc 36 = -1 from by decide]
        refine q_iload (pc := 18) rfl rfl ?_
        refine q_iflt (pc := 20) rfl (fun h20 => ?_) (fun h20 => ?_)
        · first | (exfalso; omega) | exact absurd h20 (nI_pos (by omega)) | exact absurd (nI_pos' (by omega)) h20
        · refine q_aload_n (pc := 23) rfl rfl rfl ?_
          refine q_iload (pc := 24) rfl rfl ?_
          refine q_callV (pc := 26) _ rfl rfl rfl (by exact HR.c H hl _ rfl) rfl (Nat.le_of_ble_eq_true rfl) (by omega) _ rfl ?_
          refine m_isWrong H hl N hk.1 (by omega) (fun hw => ?_) (fun hwf => ?_)
          · refine q_ifeq (pc := 29) rfl (fun z => absurd z (by decide)) (fun _ => ?_)
            refine q_aload_n (pc := 32) rfl rfl rfl ?_
            refine q_getf (pc := 33) rfl (by exact HR.c H hl _ rfl) rfl rfl ?_
            refine q_iload (pc := 36) rfl rfl ?_
            refine n_bld (pc := 38) rfl H hl rfl rfl (by omega) (by decide) ?_
            rw [e65]
            first | refine n_ifne (pc := 39) rfl (by omega) (fun h39 => ?_) (fun h39 => ?_) | refine q_ifne (pc := 39) rfl (fun h39 => ?_) (fun h39 => ?_)
            · first
              | (exfalso; omega (config := {splitDisjunctions := false}))
              | exact absurd rfl h39
              | skip
                refine q_iconst (pc := 46) rfl (nI 0) (by decide) ?_
                refine q_istore (pc := 47) [_, _, _, _, _, _, _] rfl (Nat.le_of_ble_eq_true rfl) rfl ?_
                refine q_iload (pc := 49) rfl rfl ?_
                first | refine n_ifeq (pc := 51) rfl (by omega) (fun h51 => ?_) (fun h51 => ?_) | refine q_ifeq (pc := 51) rfl (fun h51 => ?_) (fun h51 => ?_)
                · first
                  | (exfalso; omega (config := {splitDisjunctions := false}))
                  | exact absurd rfl h51
                  | skip
                    refine q_iload (pc := 88) rfl rfl ?_
                    refine q_istore (pc := 90) [_, _, _, _, _, _, _] rfl (Nat.le_of_ble_eq_true rfl) rfl ?_
                    refine q_iinc (pc := 92) [_, _, _, _, _, _, _] (-1) rfl rfl (by decide) rfl ?_
                    refine q_goto (pc := 95) rfl ?_
                    exact m_goM (m_goI hd H hl N hk hp hat hB kk k0 36 (by omega) (skip (nfr_g hbt)) _)
                · first
                  | (exfalso; omega (config := {splitDisjunctions := false}))
                  | exact absurd rfl h51
                  | skip
                    refine q_iload (pc := 54) rfl rfl ?_
                    refine q_iconst (pc := 56) rfl (-1) (by decide) ?_
                    refine q_icmpeq (pc := 57) rfl (fun h57 => ?_) (fun h57 => ?_)
                    · first
                      | (exfalso; omega (config := {splitDisjunctions := false}))
                      | exact absurd rfl h57
                      | skip
                        refine q_iload (pc := 83) rfl rfl ?_
                        refine q_goto (pc := 85) rfl ?_
                        refine q_istore (pc := 90) [_, _, _, _, _, _, _] rfl (Nat.le_of_ble_eq_true rfl) rfl ?_
                        refine q_iinc (pc := 92) [_, _, _, _, _, _, _] (-1) rfl rfl (by decide) rfl ?_
                        refine q_goto (pc := 95) rfl ?_
                        exact m_goM (m_goI hd H hl N hk hp hat hB kk k0 36 (by omega) (skip (nfr_g hbt)) _)
                    · exact absurd rfl h57
            · first
              | (exfalso; omega (config := {splitDisjunctions := false}))
              | exact absurd rfl h39
              | skip
                refine q_iconst (pc := 42) rfl (nI 1) (by decide) ?_
                refine q_goto (pc := 43) rfl ?_
                refine q_istore (pc := 47) [_, _, _, _, _, _, _] rfl (Nat.le_of_ble_eq_true rfl) rfl ?_
                refine q_iload (pc := 49) rfl rfl ?_
                first | refine n_ifeq (pc := 51) rfl (by omega) (fun h51 => ?_) (fun h51 => ?_) | refine q_ifeq (pc := 51) rfl (fun h51 => ?_) (fun h51 => ?_)
                · first
                  | (exfalso; omega (config := {splitDisjunctions := false}))
                  | exact absurd rfl h51
                  | skip
                    refine q_iload (pc := 88) rfl rfl ?_
                    refine q_istore (pc := 90) [_, _, _, _, _, _, _] rfl (Nat.le_of_ble_eq_true rfl) rfl ?_
                    refine q_iinc (pc := 92) [_, _, _, _, _, _, _] (-1) rfl rfl (by decide) rfl ?_
                    refine q_goto (pc := 95) rfl ?_
                    exact m_goM (m_goI hd H hl N hk hp hat hB kk k0 36 (by omega) (skip (nfr_g hbt)) _)
                · first
                  | (exfalso; omega (config := {splitDisjunctions := false}))
                  | exact absurd rfl h51
                  | skip
                    refine q_iload (pc := 54) rfl rfl ?_
                    refine q_iconst (pc := 56) rfl (-1) (by decide) ?_
                    refine q_icmpeq (pc := 57) rfl (fun h57 => ?_) (fun h57 => ?_)
                    · first
                      | (exfalso; omega (config := {splitDisjunctions := false}))
                      | exact absurd rfl h57
                      | skip
                        refine q_iload (pc := 83) rfl rfl ?_
                        refine q_goto (pc := 85) rfl ?_
                        refine q_istore (pc := 90) [_, _, _, _, _, _, _] rfl (Nat.le_of_ble_eq_true rfl) rfl ?_
                        refine q_iinc (pc := 92) [_, _, _, _, _, _, _] (-1) rfl rfl (by decide) rfl ?_
                        refine q_goto (pc := 95) rfl ?_
                        exact m_goM (m_goI hd H hl N hk hp hat hB kk k0 36 (by omega) (skip (nfr_g hbt)) _)
                    · exact absurd rfl h57
          · refine q_ifeq (pc := 29) rfl (fun _ => ?_) (fun z => absurd (by decide) z)
            refine q_iconst (pc := 46) rfl (nI 0) (by decide) ?_
            refine q_istore (pc := 47) [_, _, _, _, _, _, _] rfl (Nat.le_of_ble_eq_true rfl) rfl ?_
            refine q_iload (pc := 49) rfl rfl ?_
            first | refine n_ifeq (pc := 51) rfl (by omega) (fun h51 => ?_) (fun h51 => ?_) | refine q_ifeq (pc := 51) rfl (fun h51 => ?_) (fun h51 => ?_)
            · first
              | (exfalso; omega (config := {splitDisjunctions := false}))
              | exact absurd rfl h51
              | skip
                refine q_iload (pc := 88) rfl rfl ?_
                refine q_istore (pc := 90) [_, _, _, _, _, _, _] rfl (Nat.le_of_ble_eq_true rfl) rfl ?_
                refine q_iinc (pc := 92) [_, _, _, _, _, _, _] (-1) rfl rfl (by decide) rfl ?_
                refine q_goto (pc := 95) rfl ?_
                exact m_goM (m_goI hd H hl N hk hp hat hB kk k0 36 (by omega) (skip (nfr_g hbt)) _)
            · first
              | (exfalso; omega (config := {splitDisjunctions := false}))
              | exact absurd rfl h51
              | skip
                refine q_iload (pc := 54) rfl rfl ?_
                refine q_iconst (pc := 56) rfl (-1) (by decide) ?_
                refine q_icmpeq (pc := 57) rfl (fun h57 => ?_) (fun h57 => ?_)
                · first
                  | (exfalso; omega (config := {splitDisjunctions := false}))
                  | exact absurd rfl h57
                  | skip
                    refine q_iload (pc := 83) rfl rfl ?_
                    refine q_goto (pc := 85) rfl ?_
                    refine q_istore (pc := 90) [_, _, _, _, _, _, _] rfl (Nat.le_of_ble_eq_true rfl) rfl ?_
                    refine q_iinc (pc := 92) [_, _, _, _, _, _, _] (-1) rfl rfl (by decide) rfl ?_
                    refine q_goto (pc := 95) rfl ?_
                    exact m_goM (m_goI hd H hl N hk hp hat hB kk k0 36 (by omega) (skip (nfr_g hbt)) _)
                · exact absurd rfl h57
      · rw [show oc b = nI b from if_pos b1]
        have bb := apN_le ha36 b1
        refine q_iload (pc := 18) rfl rfl ?_
        refine q_iflt (pc := 20) rfl (fun h20 => ?_) (fun h20 => ?_)
        · first | (exfalso; omega) | exact absurd h20 (nI_pos (by omega)) | exact absurd (nI_pos' (by omega)) h20
        · refine q_aload_n (pc := 23) rfl rfl rfl ?_
          refine q_iload (pc := 24) rfl rfl ?_
          refine q_callV (pc := 26) _ rfl rfl rfl (by exact HR.c H hl _ rfl) rfl (Nat.le_of_ble_eq_true rfl) (by omega) _ rfl ?_
          refine m_isWrong H hl N hk.1 (by omega) (fun hw => ?_) (fun hwf => ?_)
          · refine q_ifeq (pc := 29) rfl (fun z => absurd z (by decide)) (fun _ => ?_)
            refine q_aload_n (pc := 32) rfl rfl rfl ?_
            refine q_getf (pc := 33) rfl (by exact HR.c H hl _ rfl) rfl rfl ?_
            refine q_iload (pc := 36) rfl rfl ?_
            refine n_bld (pc := 38) rfl H hl rfl rfl (by omega) (by decide) ?_
            rw [e65]
            first | refine n_ifne (pc := 39) rfl (by omega) (fun h39 => ?_) (fun h39 => ?_) | refine q_ifne (pc := 39) rfl (fun h39 => ?_) (fun h39 => ?_)
            · first
              | (exfalso; omega (config := {splitDisjunctions := false}))
              | exact absurd rfl h39
              | skip
                refine q_iconst (pc := 46) rfl (nI 0) (by decide) ?_
                refine q_istore (pc := 47) [_, _, _, _, _, _, _] rfl (Nat.le_of_ble_eq_true rfl) rfl ?_
                refine q_iload (pc := 49) rfl rfl ?_
                first | refine n_ifeq (pc := 51) rfl (by omega) (fun h51 => ?_) (fun h51 => ?_) | refine q_ifeq (pc := 51) rfl (fun h51 => ?_) (fun h51 => ?_)
                · first
                  | (exfalso; omega (config := {splitDisjunctions := false}))
                  | exact absurd rfl h51
                  | skip
                    refine q_iload (pc := 88) rfl rfl ?_
                    refine q_istore (pc := 90) [_, _, _, _, _, _, _] rfl (Nat.le_of_ble_eq_true rfl) rfl ?_
                    refine q_iinc (pc := 92) [_, _, _, _, _, _, _] (-1) rfl rfl (by decide) rfl ?_
                    refine q_goto (pc := 95) rfl ?_
                    exact m_goN b1 (m_goI hd H hl N hk hp hat hB kk k0 b (by omega) (skip (nfr_g hbt)) _)
                · first
                  | (exfalso; omega (config := {splitDisjunctions := false}))
                  | exact absurd rfl h51
                  | skip
                    refine q_iload (pc := 54) rfl rfl ?_
                    refine q_iconst (pc := 56) rfl (-1) (by decide) ?_
                    refine q_icmpeq (pc := 57) rfl (fun h57 => ?_) (fun h57 => ?_)
                    · exact absurd h57 (nI_m1 (by omega))
                    · first
                      | (exfalso; omega (config := {splitDisjunctions := false}))
                      | exact absurd rfl h57
                      | skip
                        refine q_aload_n (pc := 60) rfl rfl rfl ?_
                        refine q_iload_n (pc := 61) rfl rfl ?_
                        refine q_callV (pc := 62) _ rfl rfl rfl (by exact HR.c H hl _ rfl) rfl (Nat.le_of_ble_eq_true rfl) (by omega) _ rfl ?_
                        refine m_at H hl N hp ?_
                        rw [hat]
                        refine q_iload (pc := 65) rfl rfl ?_
                        refine q_callS (pc := 67) _ (by decide) rfl rfl rfl rfl (Nat.le_of_ble_eq_true rfl) (by omega) _ rfl ?_
                        refine m_apart ha36 (by omega) ?_
                        refine q_aload_n (pc := 70) rfl rfl rfl ?_
                        refine q_iload_n (pc := 71) rfl rfl ?_
                        refine q_callV (pc := 72) _ rfl rfl rfl (by exact HR.c H hl _ rfl) rfl (Nat.le_of_ble_eq_true rfl) (by omega) _ rfl ?_
                        refine m_at H hl N hp ?_
                        rw [hat]
                        refine q_iload (pc := 75) rfl rfl ?_
                        refine q_callS (pc := 77) _ (by decide) rfl rfl rfl rfl (Nat.le_of_ble_eq_true rfl) (by omega) _ rfl ?_
                        refine m_apart ha36 b1 ?_
                        first | refine n_icmpgt (pc := 80) rfl (by omega) (by omega) (fun h80 => ?_) (fun h80 => ?_) | refine q_icmpgt (pc := 80) rfl (fun h80 => ?_) (fun h80 => ?_)
                        · first
                          | (exfalso; omega (config := {splitDisjunctions := false}))
                          | skip
                            refine q_iload (pc := 88) rfl rfl ?_
                            refine q_istore (pc := 90) [_, _, _, _, _, _, _] rfl (Nat.le_of_ble_eq_true rfl) rfl ?_
                            refine q_iinc (pc := 92) [_, _, _, _, _, _, _] (-1) rfl rfl (by decide) rfl ?_
                            refine q_goto (pc := 95) rfl ?_
                            exact m_goN b1 (m_goI hd H hl N hk hp hat hB kk k0 b (by omega) (skip (nfr_g hbt)) _)
                        · first
                          | (exfalso; omega (config := {splitDisjunctions := false}))
                          | skip
                            refine q_iload (pc := 83) rfl rfl ?_
                            refine q_goto (pc := 85) rfl ?_
                            refine q_istore (pc := 90) [_, _, _, _, _, _, _] rfl (Nat.le_of_ble_eq_true rfl) rfl ?_
                            refine q_iinc (pc := 92) [_, _, _, _, _, _, _] (-1) rfl rfl (by decide) rfl ?_
                            refine q_goto (pc := 95) rfl ?_
                            exact m_goN b1 (m_goI hd H hl N hk hp hat hB kk k0 b (by omega) (skip (nfr_g hbt)) _)
            · first
              | (exfalso; omega (config := {splitDisjunctions := false}))
              | exact absurd rfl h39
              | skip
                refine q_iconst (pc := 42) rfl (nI 1) (by decide) ?_
                refine q_goto (pc := 43) rfl ?_
                refine q_istore (pc := 47) [_, _, _, _, _, _, _] rfl (Nat.le_of_ble_eq_true rfl) rfl ?_
                refine q_iload (pc := 49) rfl rfl ?_
                first | refine n_ifeq (pc := 51) rfl (by omega) (fun h51 => ?_) (fun h51 => ?_) | refine q_ifeq (pc := 51) rfl (fun h51 => ?_) (fun h51 => ?_)
                · first
                  | (exfalso; omega (config := {splitDisjunctions := false}))
                  | exact absurd rfl h51
                  | skip
                    refine q_iload (pc := 88) rfl rfl ?_
                    refine q_istore (pc := 90) [_, _, _, _, _, _, _] rfl (Nat.le_of_ble_eq_true rfl) rfl ?_
                    refine q_iinc (pc := 92) [_, _, _, _, _, _, _] (-1) rfl rfl (by decide) rfl ?_
                    refine q_goto (pc := 95) rfl ?_
                    exact m_goN b1 (m_goI hd H hl N hk hp hat hB kk k0 b (by omega) (skip (nfr_g hbt)) _)
                · first
                  | (exfalso; omega (config := {splitDisjunctions := false}))
                  | exact absurd rfl h51
                  | skip
                    refine q_iload (pc := 54) rfl rfl ?_
                    refine q_iconst (pc := 56) rfl (-1) (by decide) ?_
                    refine q_icmpeq (pc := 57) rfl (fun h57 => ?_) (fun h57 => ?_)
                    · exact absurd h57 (nI_m1 (by omega))
                    · first
                      | (exfalso; omega (config := {splitDisjunctions := false}))
                      | exact absurd rfl h57
                      | skip
                        refine q_aload_n (pc := 60) rfl rfl rfl ?_
                        refine q_iload_n (pc := 61) rfl rfl ?_
                        refine q_callV (pc := 62) _ rfl rfl rfl (by exact HR.c H hl _ rfl) rfl (Nat.le_of_ble_eq_true rfl) (by omega) _ rfl ?_
                        refine m_at H hl N hp ?_
                        rw [hat]
                        refine q_iload (pc := 65) rfl rfl ?_
                        refine q_callS (pc := 67) _ (by decide) rfl rfl rfl rfl (Nat.le_of_ble_eq_true rfl) (by omega) _ rfl ?_
                        refine m_apart ha36 (by omega) ?_
                        refine q_aload_n (pc := 70) rfl rfl rfl ?_
                        refine q_iload_n (pc := 71) rfl rfl ?_
                        refine q_callV (pc := 72) _ rfl rfl rfl (by exact HR.c H hl _ rfl) rfl (Nat.le_of_ble_eq_true rfl) (by omega) _ rfl ?_
                        refine m_at H hl N hp ?_
                        rw [hat]
                        refine q_iload (pc := 75) rfl rfl ?_
                        refine q_callS (pc := 77) _ (by decide) rfl rfl rfl rfl (Nat.le_of_ble_eq_true rfl) (by omega) _ rfl ?_
                        refine m_apart ha36 b1 ?_
                        first | refine n_icmpgt (pc := 80) rfl (by omega) (by omega) (fun h80 => ?_) (fun h80 => ?_) | refine q_icmpgt (pc := 80) rfl (fun h80 => ?_) (fun h80 => ?_)
                        · first
                          | (exfalso; omega (config := {splitDisjunctions := false}))
                          | skip
                            refine q_iload (pc := 88) rfl rfl ?_
                            refine q_istore (pc := 90) [_, _, _, _, _, _, _] rfl (Nat.le_of_ble_eq_true rfl) rfl ?_
                            refine q_iinc (pc := 92) [_, _, _, _, _, _, _] (-1) rfl rfl (by decide) rfl ?_
                            refine q_goto (pc := 95) rfl ?_
                            exact m_goN b1 (m_goI hd H hl N hk hp hat hB kk k0 b (by omega) (skip (nfr_g hbt)) _)
                        · first
                          | (exfalso; omega (config := {splitDisjunctions := false}))
                          | skip
                            refine q_iload (pc := 83) rfl rfl ?_
                            refine q_goto (pc := 85) rfl ?_
                            refine q_istore (pc := 90) [_, _, _, _, _, _, _] rfl (Nat.le_of_ble_eq_true rfl) rfl ?_
                            refine q_iinc (pc := 92) [_, _, _, _, _, _, _] (-1) rfl rfl (by decide) rfl ?_
                            refine q_goto (pc := 95) rfl ?_
                            exact m_goN b1 (m_goI hd H hl N hk hp hat hB kk k0 b (by omega) (skip (nfr_g hbt)) _)
          · refine q_ifeq (pc := 29) rfl (fun _ => ?_) (fun z => absurd (by decide) z)
            refine q_iconst (pc := 46) rfl (nI 0) (by decide) ?_
            refine q_istore (pc := 47) [_, _, _, _, _, _, _] rfl (Nat.le_of_ble_eq_true rfl) rfl ?_
            refine q_iload (pc := 49) rfl rfl ?_
            first | refine n_ifeq (pc := 51) rfl (by omega) (fun h51 => ?_) (fun h51 => ?_) | refine q_ifeq (pc := 51) rfl (fun h51 => ?_) (fun h51 => ?_)
            · first
              | (exfalso; omega (config := {splitDisjunctions := false}))
              | exact absurd rfl h51
              | skip
                refine q_iload (pc := 88) rfl rfl ?_
                refine q_istore (pc := 90) [_, _, _, _, _, _, _] rfl (Nat.le_of_ble_eq_true rfl) rfl ?_
                refine q_iinc (pc := 92) [_, _, _, _, _, _, _] (-1) rfl rfl (by decide) rfl ?_
                refine q_goto (pc := 95) rfl ?_
                exact m_goN b1 (m_goI hd H hl N hk hp hat hB kk k0 b (by omega) (skip (nfr_g hbt)) _)
            · first
              | (exfalso; omega (config := {splitDisjunctions := false}))
              | exact absurd rfl h51
              | skip
                refine q_iload (pc := 54) rfl rfl ?_
                refine q_iconst (pc := 56) rfl (-1) (by decide) ?_
                refine q_icmpeq (pc := 57) rfl (fun h57 => ?_) (fun h57 => ?_)
                · exact absurd h57 (nI_m1 (by omega))
                · first
                  | (exfalso; omega (config := {splitDisjunctions := false}))
                  | exact absurd rfl h57
                  | skip
                    refine q_aload_n (pc := 60) rfl rfl rfl ?_
                    refine q_iload_n (pc := 61) rfl rfl ?_
                    refine q_callV (pc := 62) _ rfl rfl rfl (by exact HR.c H hl _ rfl) rfl (Nat.le_of_ble_eq_true rfl) (by omega) _ rfl ?_
                    refine m_at H hl N hp ?_
                    rw [hat]
                    refine q_iload (pc := 65) rfl rfl ?_
                    refine q_callS (pc := 67) _ (by decide) rfl rfl rfl rfl (Nat.le_of_ble_eq_true rfl) (by omega) _ rfl ?_
                    refine m_apart ha36 (by omega) ?_
                    refine q_aload_n (pc := 70) rfl rfl rfl ?_
                    refine q_iload_n (pc := 71) rfl rfl ?_
                    refine q_callV (pc := 72) _ rfl rfl rfl (by exact HR.c H hl _ rfl) rfl (Nat.le_of_ble_eq_true rfl) (by omega) _ rfl ?_
                    refine m_at H hl N hp ?_
                    rw [hat]
                    refine q_iload (pc := 75) rfl rfl ?_
                    refine q_callS (pc := 77) _ (by decide) rfl rfl rfl rfl (Nat.le_of_ble_eq_true rfl) (by omega) _ rfl ?_
                    refine m_apart ha36 b1 ?_
                    first | refine n_icmpgt (pc := 80) rfl (by omega) (by omega) (fun h80 => ?_) (fun h80 => ?_) | refine q_icmpgt (pc := 80) rfl (fun h80 => ?_) (fun h80 => ?_)
                    · first
                      | (exfalso; omega (config := {splitDisjunctions := false}))
                      | skip
                        refine q_iload (pc := 88) rfl rfl ?_
                        refine q_istore (pc := 90) [_, _, _, _, _, _, _] rfl (Nat.le_of_ble_eq_true rfl) rfl ?_
                        refine q_iinc (pc := 92) [_, _, _, _, _, _, _] (-1) rfl rfl (by decide) rfl ?_
                        refine q_goto (pc := 95) rfl ?_
                        exact m_goN b1 (m_goI hd H hl N hk hp hat hB kk k0 b (by omega) (skip (nfr_g hbt)) _)
                    · first
                      | (exfalso; omega (config := {splitDisjunctions := false}))
                      | skip
                        refine q_iload (pc := 83) rfl rfl ?_
                        refine q_goto (pc := 85) rfl ?_
                        refine q_istore (pc := 90) [_, _, _, _, _, _, _] rfl (Nat.le_of_ble_eq_true rfl) rfl ?_
                        refine q_iinc (pc := 92) [_, _, _, _, _, _, _] (-1) rfl rfl (by decide) rfl ?_
                        refine q_goto (pc := 95) rfl ?_
                        exact m_goN b1 (m_goI hd H hl N hk hp hat hB kk k0 b (by omega) (skip (nfr_g hbt)) _)
termination_by k0
theorem m_goH {z0 z1 z2 z4 z5 z6 : Option Value} {a3 : Int32} (kk : wq d 179 18 [z0, z1, z2, some (.int a3), some (.int (oc 36)), some (.int (nI 36 + (-1))), z6] [] h Q) : wq d 179 11 [z0, z1, z2, some (.int a3), z4, z5, z6] [] h Q := by
  refine q_iconst (pc := 11) rfl (-1) (by decide) ?_
  refine q_istore (pc := 12) [_, _, _, _, _, _, _] rfl (Nat.le_of_ble_eq_true rfl) rfl ?_
  refine q_bipush (pc := 14) rfl (nI 35) (by decide) ?_
  refine q_istore (pc := 16) [_, _, _, _, _, _, _] rfl (Nat.le_of_ble_eq_true rfl) rfl ?_
  exact kk
theorem tb_up {dn c : Nat} (hc : c < 36) (h : dn.testBit c = false) (hd : dn < 2 ^ 36) : cntf (dn ||| 2 ^ c).testBit 36 = cntf dn.testBit 36 + 1 := by
  have e : ∀ i, i < 36 → (dn ||| 2 ^ c).testBit i = (dn.testBit i || (decide (i = c) && true)) := fun i hi => by
    rw [Nat.testBit_or, Nat.testBit_two_pow]
    by_cases g : i = c
    · subst g; simp
    · rw [decide_eq_false g, decide_eq_false (fun z => g z.symm)]; simp
  rw [cntf_congr e, cnt_or _ _ _ (fun d hd => ?_), cnt1 (fun _ => true) c 36, decide_eq_true hc]
  · rfl
  · by_cases g : d = c
    · rw [g, h]; rfl
    · rw [decide_eq_false g]; simp
theorem cnt_all (f : Nat → Bool) : ∀ n, cntf f n = n → ∀ i, i < n → f i = true := by
  intro n
  induction n with
  | zero => intro _ i hi; omega
  | succ n ih =>
    intro h i hi
    have h1 := cntf_le f n
    rw [cntf] at h
    cases e : f n with
    | false =>
      rw [e] at h
      have : cntf f n + 0 = n + 1 := h
      omega
    | true =>
      rw [e] at h
      have h2 : cntf f n + 1 = n + 1 := h
      rcases Nat.lt_succ_iff_lt_or_eq.mp hi with g | g
      · exact ih (by omega) i g
      · rw [g]; exact e
def gS (i : Nat) : Prop := i = 54 ∨ i = 55 ∨ i = 63 ∨ i = 65
def gF (i : Nat) : Prop := (18 ≤ i ∧ i ≤ 20) ∨ i = 23
theorem m_goL {n m : Nat} (hd : 8 ≤ d) (hl : 75 ≤ P.1) (hp : p < 4) (hm : m ≤ 999) (r : (Nat → Nat) × Nat × Nat) {s0 : mx_St} (T0 : MT s0 n C E) (kk : ∀ h' s', HR P h' s' → gf gS gF s0 s' → NW s' r.1 → s' 54 23 = nI r.2.1 → Q (some (.int (nI r.2.2))) h') (fu i dn sp : Nat) (hi : i + fu = 36) (β : Nat → Nat) (hr : ngt C E p m fu β dn sp i = r) (hk : bok β n) (hdn : dn < 2 ^ 36) (hcn : cntf dn.testBit 36 = i) (hsp : sp ≤ m) (h : mx_H) (s : mx_St) (H : HR P h s) (N : NW s β) (f : gf gS gF s0 s) (e23 : s 54 23 = nI sp) (hB : BE s dn) (z4 z5 z6 : Option Value) : wq d 179 11 [some (.ref 54), some (.int (nI p)), some (.int (nI m)), some (.int (nI i)), z4, z5, z6] [] h Q := by
  have T : MT s n C E := T0.fr (f.mf (fun i g => by unfold gS at g; unfold mS; omega) (by unfold gF; omega))
  have hat := (hk.2.1 p hp).2.2.1
  have hL := nst_lt (nfr β dn) (apN (β (72 + 4 * p + 2))) 36
  have hDU := nst_DU (nfr β dn) (apN (β (72 + 4 * p + 2))) 36 (Nat.le_refl _)
  match fu, hi, hr with
  | 0, hi, hr =>
    obtain rfl : i = 36 := by omega
    have hno : nst (nfr β dn) (apN (β (72 + 4 * p + 2))) 36 = 36 := by
      rcases hDU with ⟨e, _⟩ | ⟨e, e2, _⟩
      · exact e
      · rw [nfr_g (cnt_all dn.testBit 36 hcn _ e)] at e2
        exact absurd e2 (by decide)
    subst hr
    refine m_goH (m_goI (by omega) H hl N hk hp rfl hB (fun z5 z6 => ?_) 36 36 (by omega) (Or.inl ⟨rfl, fun j h1 h2 => by omega⟩) _)
    rw [hno, show oc 36 = -1 from by decide]
    refine q_iload (pc := 98) rfl rfl ?_
    refine q_iconst (pc := 100) rfl (-1) (by decide) ?_
    refine q_icmpeq (pc := 101) rfl (fun h101 => ?_) (fun h101 => ?_)
    · first
      | (exfalso; omega (config := {splitDisjunctions := false}))
      | exact absurd rfl h101
      | skip
        refine q_iload_n (pc := 120) rfl rfl ?_
        refine q_iret (pc := 121) rfl (rfl) ?_
        exact kk _ _ H f N e23
    · exact absurd rfl h101
  | fu + 1, hi, hr =>
    refine m_goH (m_goI (by omega) H hl N hk hp rfl hB (fun z5 z6 => ?_) 36 36 (by omega) (Or.inl ⟨rfl, fun j h1 h2 => by omega⟩) _)
    unfold ngt at hr
    generalize hcc : nst (nfr β dn) (apN (β (72 + 4 * p + 2))) 36 = c at hr hL hDU
    by_cases hc36 : c = 36
    · subst hc36
      rw [if_pos (Or.inl rfl)] at hr
      subst hr
      rw [show oc 36 = -1 from by decide]
      refine q_iload (pc := 98) rfl rfl ?_
      refine q_iconst (pc := 100) rfl (-1) (by decide) ?_
      refine q_icmpeq (pc := 101) rfl (fun h101 => ?_) (fun h101 => ?_)
      · first
        | (exfalso; omega (config := {splitDisjunctions := false}))
        | exact absurd rfl h101
        | skip
          refine q_iload_n (pc := 120) rfl rfl ?_
          refine q_iret (pc := 121) rfl (rfl) ?_
          exact kk _ _ H f N e23
      · exact absurd rfl h101
    · have hc : c < 36 := by omega
      have hbt : dn.testBit c = false := by
        rcases hDU with ⟨e, _⟩ | ⟨_, e2, _⟩
        · exact absurd e hc36
        · cases e : dn.testBit c
          · rfl
          · rw [nfr_g e] at e2
            exact absurd e2 (by decide)
      have hmn := mnN_le (C := C) (E := E) hk hp hc
      rw [show oc c = nI c from if_pos hc]
      refine q_iload (pc := 98) rfl rfl ?_
      refine q_iconst (pc := 100) rfl (-1) (by decide) ?_
      refine q_icmpeq (pc := 101) rfl (fun h101 => ?_) (fun h101 => ?_)
      · exact absurd h101 (nI_m1 (by omega))
      · first
        | (exfalso; omega (config := {splitDisjunctions := false}))
        | exact absurd rfl h101
        | skip
          refine q_aload_n (pc := 104) rfl rfl rfl ?_
          refine q_getf (pc := 105) rfl (by exact HR.c H hl _ rfl) rfl rfl ?_
          rw [e23]
          refine q_aload_n (pc := 108) rfl rfl rfl ?_
          refine q_iload_n (pc := 109) rfl rfl ?_
          refine q_iload (pc := 110) rfl rfl ?_
          refine q_callV (pc := 112) _ rfl rfl rfl (by exact HR.c H hl _ rfl) rfl (Nat.le_of_ble_eq_true rfl) (by omega) _ rfl ?_
          refine m_minutes (by omega) H hl N T hk hp hc ?_
          intro h s1 H f1 tk1
          have N := N.fr f1.1 (by unfold tS; decide)
          have T := T.fr (f1.mf (fun i g => by unfold tS at g; unfold mS; omega) (by unfold tF; omega))
          have f1g : gf gS gF s s1 := f1.mono (fun i g => by unfold tS at g; unfold gS; omega) (fun i g => Or.inl g)
          first | refine n_iadd (pc := 115) rfl ?_ | refine q_iadd (pc := 115) rfl ?_
          refine q_iload_n (pc := 116) rfl rfl ?_
          first | refine n_icmple (pc := 117) rfl (by omega) (by omega) (fun h117 => ?_) (fun h117 => ?_) | refine q_icmple (pc := 117) rfl (fun h117 => ?_) (fun h117 => ?_)
          · first
            | (exfalso; omega (config := {splitDisjunctions := false}))
            | skip
              refine q_aload_n (pc := 122) rfl rfl rfl ?_
              refine q_dup (pc := 123) rfl rfl ?_
              refine q_getf (pc := 124) rfl (by exact HR.c H hl _ rfl) rfl rfl ?_
              rw [show s1 54 23 = nI sp from (f1.2 23 (by unfold tF; omega)).trans e23]
              refine q_aload_n (pc := 127) rfl rfl rfl ?_
              refine q_iload_n (pc := 128) rfl rfl ?_
              refine q_iload (pc := 129) rfl rfl ?_
              refine q_callV (pc := 131) _ rfl rfl rfl (by exact HR.c H hl _ rfl) rfl (Nat.le_of_ble_eq_true rfl) (by omega) _ rfl ?_
              refine m_laid (by omega) H hl N T hk hp hc ?_
              intro h s2 H f2 N
              have f2g : gf gS gF s1 s2 := f2.mono (fun i g => by unfold lS at g; unfold gS; omega) (fun i g => Or.inl g)
              first | refine n_iadd (pc := 134) rfl ?_ | refine q_iadd (pc := 134) rfl ?_
              refine r_pf2 (pc := 135) (i := 23) rfl H hl rfl rfl rfl rfl (Nat.le_of_ble_eq_true rfl) rfl rfl ?_
              intro h H
              have N := N.fr (S := fun i => i = 54) (s' := stv s2 54 23 (nI (sp + mnN C E β p c))) (sf.rf.st (by rfl)) (by decide)
              refine q_aload_n (pc := 138) rfl rfl rfl ?_
              refine q_getf (pc := 139) rfl (by exact HR.c H hl _ rfl) rfl rfl ?_
              refine q_iload (pc := 142) rfl rfl ?_
              refine q_iconst (pc := 144) rfl (nI 1) (by decide) ?_
              refine n_bst (pc := 145) rfl H hl rfl (fun _ => rfl) (by omega) (by decide) (by rfl) ?_
              intro h H
              first | refine n_iinc (pc := 146) rfl [_, _, _, _, _, _, _] 1 (by decide) rfl rfl ?_ | refine q_iinc (pc := 146) [_, _, _, _, _, _, _] (1) rfl rfl (by decide) rfl ?_
              refine q_goto (pc := 149) rfl ?_
              rw [if_neg (by omega)] at hr
              have fg : gf gS gF s (stv (stv s2 54 23 (nI (sp + mnN C E β p c))) 65 c (nI 1)) := ((f1g.tr f2g).tr (gf.fd (Or.inl rfl) (Or.inr rfl))).tr (gf.wr (by unfold gS; omega) (by decide))
              refine m_goL hd hl hp hm r T0 kk fu (i + 1) (dn ||| 2 ^ c) (sp + mnN C E β p c) (by omega) (layb C E β p c) hr (bok_lay hk hp hc) (Nat.or_lt_two_pow hdn (Nat.pow_lt_pow_right (by decide) hc)) (by rw [tb_up hc hbt hdn, hcn]) (by omega) h _ H (N.fr (S := fun i => i = 65) (sf.rf.st (by rfl)) (by decide)) (f.tr fg) ((congrFun (stv_n (by decide)) _).trans stv_a) (fun c2 hc2 => ?_) _ _ _
              by_cases g : c2 = c
              · subst g
                rw [stv_a, Nat.testBit_or, Nat.testBit_two_pow, decide_eq_true (show c2 = c2 from rfl), Bool.or_true]
                rfl
              · rw [stv_o g, stv_n (by decide), Nat.testBit_or, Nat.testBit_two_pow, decide_eq_false (fun z => g z.symm), Bool.or_false]
                rw [show s2 65 = s 65 from (f2.1 65 (by unfold lS; decide)).trans (f1.1 65 (by unfold tS; decide))]
                exact hB c2 hc2
          · first
            | (exfalso; omega (config := {splitDisjunctions := false}))
            | skip
              refine q_iload_n (pc := 120) rfl rfl ?_
              refine q_iret (pc := 121) rfl (rfl) ?_
              rw [if_pos (Or.inr (by omega))] at hr
              subst hr
              exact kk _ _ H (f.tr f1g) N ((f1.2 23 (by unfold tF; omega)).trans e23)
termination_by fu
theorem m_go {n m : Nat} (hd : 9 ≤ d) (H : HR P h s) (hl : 75 ≤ P.1) (N : NW s β) (T : MT s n C E) (hk : bok β n) (hp : p < 4) (hm : m ≤ 999) (kk : ∀ h' s', HR P h' s' → gf gS gF s s' → NW s' (ngtF C E β p m).1 → s' 54 23 = nI (ngtF C E β p m).2.1 → Q (some (.int (nI (ngtF C E β p m).2.2))) h') : wc d 179 [.ref 54, .int (nI p), .int (nI m)] h Q := by
  refine wc.go [_, _, _, _, _, _, _] rfl ?_
  refine q_aload_n (pc := 0) rfl rfl rfl ?_
  refine q_callV (pc := 1) _ rfl rfl rfl (by exact HR.c H hl _ rfl) rfl (Nat.le_of_ble_eq_true rfl) (by omega) _ rfl ?_
  refine m_clear H hl ?_
  intro h s1 H f1 e1
  refine q_aload_n (pc := 4) rfl rfl rfl ?_
  refine q_iconst (pc := 5) rfl (nI 0) (by decide) ?_
  refine r_pf2 (pc := 6) (i := 23) rfl H hl rfl rfl rfl rfl (Nat.le_of_ble_eq_true rfl) rfl rfl ?_
  intro h H
  refine q_iconst (pc := 9) rfl (nI 0) (by decide) ?_
  refine q_istore_n (pc := 10) [_, _, _, _, _, _, _] rfl (Nat.le_of_ble_eq_true rfl) rfl ?_
  have fz : gf gS gF s (stv s1 54 23 (nI 0)) := (gf.of f1 (fun i g => by unfold gS; omega) (by decide)).tr (gf.fd (Or.inl rfl) (Or.inr rfl))
  exact m_goL (by omega) hl hp hm _ T kk 36 0 0 0 (by omega) β rfl hk (by decide) (by rw [show (0 : Nat).testBit = fun _ => false from funext (fun i => Nat.zero_testBit i)]; exact cntf_0 _ _ (fun _ _ => rfl)) (Nat.zero_le _) h _ H ((N.fr f1 (by decide)).fr (S := fun i => i = 54) (sf.rf.st (by rfl)) (by decide)) fz stv_a (fun c hc => by rw [stv_n (by decide), e1 c hc, Nat.zero_testBit]; rfl) _ _ _
theorem m_night (hd : 20 ≤ d) (H : HR P h s) (hl : 75 ≤ P.1) (N : NW s β) (K : AOK P.2.1 β κ ik tp tz σ sz) (Mk : MK s P.2.1 κ ik tp tz C E σ sz cl) (kk : ∀ h' s', HR P h' s' → NW s' (n_night C E β x y) → mf s s' → Q (some (.int (o_night C E β x y))) h') : wc d 180 [.ref 54, .int x, .int y] h Q := by
  have K4 := K.1.2.2.1
  have KK := K.1
  have K89 := K.2.1
  refine wc.go [_, _, _] rfl ?_
  refine q_aload_n (pc := 0) rfl rfl rfl ?_
  refine q_iload_n (pc := 1) rfl rfl ?_
  refine q_callV (pc := 2) _ rfl rfl rfl (by exact HR.c H hl _ rfl) rfl (Nat.le_of_ble_eq_true rfl) (by omega) _ rfl ?_
  refine m_isOne (by omega) H hl N K4 (fun p hp e => ?_) (fun g => ?_)
  · subst e
    have zp : Hd (rg (β 88) (nI p) = p) := rg_in hp (by omega)
    refine q_ifeq (pc := 5) rfl (fun z => absurd z (by decide)) (fun _ => ?_)
    refine q_iload_n (pc := 8) rfl rfl ?_
    refine q_iconst (pc := 9) rfl (nI 0) (by decide) ?_
    refine q_sipush (pc := 10) rfl (nI 999) (by decide) ?_
    refine q_callS (pc := 13) _ (by decide) rfl rfl rfl rfl (Nat.le_of_ble_eq_true rfl) (by omega) _ rfl ?_
    refine m_in0 (by decide) (fun m0 hm0 e => ?_) (fun g => ?_)
    · subst e
      have zm : Hd (rg 1000 (nI m0) = m0) := rg_in (by omega) (by decide)
      refine q_ifeq (pc := 16) rfl (fun z => absurd z (by decide)) (fun _ => ?_)
      refine q_aload_n (pc := 19) rfl rfl rfl ?_
      refine q_iload_n (pc := 20) rfl rfl ?_
      refine q_iload_n (pc := 21) rfl rfl ?_
      refine q_callV (pc := 22) _ rfl rfl rfl (by exact HR.c H hl _ rfl) rfl (Nat.le_of_ble_eq_true rfl) (by omega) _ rfl ?_
      refine m_go (by omega) H hl N Mk.2.2.2.2.1 KK (by omega) hm0 ?_
      intro h s1 H f1 N e1
      refine q_goto (pc := 25) rfl ?_
      refine q_iret (pc := 30) rfl (rfl) ?_
      unfold o_night n_night at kk
      first
      | (rw [zp.out, zm.out, if_pos (by omega), if_pos (by omega)] at kk
         exact kk _ _ H N (f1.mf (fun i g => by unfold gS at g; unfold mS; omega) (by unfold gF; omega)))
      | (rw [zp.out, if_neg (by omega), if_neg (by omega)] at kk
         exact kk _ _ H N mf.rf)
      | (rw [zm.out, if_neg (by omega), if_neg (by omega)] at kk
         exact kk _ _ H N mf.rf)
    · have zm : Hd (rg 1000 y = 1000) := rg_out g
      refine q_ifeq (pc := 16) rfl (fun _ => ?_) (fun z => absurd (by decide) z)
      refine q_bipush (pc := 28) rfl (-2) (by decide) ?_
      refine q_iret (pc := 30) rfl (rfl) ?_
      unfold o_night n_night at kk
      first
      | (rw [zp.out, zm.out, if_pos (by omega), if_pos (by omega)] at kk
         exact kk _ _ H N (f1.mf (fun i g => by unfold gS at g; unfold mS; omega) (by unfold gF; omega)))
      | (rw [zp.out, if_neg (by omega), if_neg (by omega)] at kk
         exact kk _ _ H N mf.rf)
      | (rw [zm.out, if_neg (by omega), if_neg (by omega)] at kk
         exact kk _ _ H N mf.rf)
  · have zp : Hd (rg (β 88) x = β 88) := rg_out g
    refine q_ifeq (pc := 5) rfl (fun _ => ?_) (fun z => absurd (by decide) z)
    refine q_bipush (pc := 28) rfl (-2) (by decide) ?_
    refine q_iret (pc := 30) rfl (rfl) ?_
    unfold o_night n_night at kk
    first
    | (rw [zp.out, zm.out, if_pos (by omega), if_pos (by omega)] at kk
       exact kk _ _ H N (f1.mf (fun i g => by unfold gS at g; unfold mS; omega) (by unfold gF; omega)))
    | (rw [zp.out, if_neg (by omega), if_neg (by omega)] at kk
       exact kk _ _ H N mf.rf)
    | (rw [zm.out, if_neg (by omega), if_neg (by omega)] at kk
       exact kk _ _ H N mf.rf)
theorem ngt_bk {n p m : Nat} (hp : p < 4) : ∀ (f : Nat) (β : Nat → Nat) (dn sp rl : Nat), bok β n → bok (ngt C E p m f β dn sp rl).1 n := by
  intro f
  induction f with
  | zero => intro β dn sp rl h; exact h
  | succ f ih =>
    intro β dn sp rl h
    rw [ngt]
    have hL := nst_lt (nfr β dn) (apN (β (72 + 4 * p + 2))) 36
    split
    · exact h
    · exact ih _ _ _ _ (bok_lay h hp (by omega))
theorem m_run (hd : 20 ≤ d) (H : HR P h s) (hl : 75 ≤ P.1) (N : NW s β) (K : AOK P.2.1 β κ ik tp tz σ sz) (Mk : MK s P.2.1 κ ik tp tz C E σ sz cl) (kk : ∀ h' s', HR P h' s' → NW s' β → mf s s' → Q (some (.int (o_run C E β x y z))) h') : wc d 181 [.ref 54, .int x, .int y, .int z] h Q := by
  have K4 := K.1.2.2.1
  have KK := K.1
  have K89 := K.2.1
  refine wc.go [_, _, _, _, _, _] rfl ?_
  refine q_aload_n (pc := 0) rfl rfl rfl ?_
  refine q_iload_n (pc := 1) rfl rfl ?_
  refine q_callV (pc := 2) _ rfl rfl rfl (by exact HR.c H hl _ rfl) rfl (Nat.le_of_ble_eq_true rfl) (by omega) _ rfl ?_
  refine m_isOne (by omega) H hl N K4 (fun p hp e => ?_) (fun g => ?_)
  · subst e
    have zp : Hd (rg (β 88) (nI p) = p) := rg_in hp (by omega)
    refine q_ifeq (pc := 5) rfl (fun z => absurd z (by decide)) (fun _ => ?_)
    refine q_iload_n (pc := 8) rfl rfl ?_
    refine q_iconst (pc := 9) rfl (nI 0) (by decide) ?_
    refine q_sipush (pc := 10) rfl (nI 999) (by decide) ?_
    refine q_callS (pc := 13) _ (by decide) rfl rfl rfl rfl (Nat.le_of_ble_eq_true rfl) (by omega) _ rfl ?_
    refine m_in0 (by decide) (fun m0 hm0 e => ?_) (fun g => ?_)
    · subst e
      have zm : Hd (rg 1000 (nI m0) = m0) := rg_in (by omega) (by decide)
      refine q_ifeq (pc := 16) rfl (fun z => absurd z (by decide)) (fun _ => ?_)
      refine q_iload_n (pc := 19) rfl rfl ?_
      refine q_iconst (pc := 20) rfl (nI 0) (by decide) ?_
      refine q_iconst (pc := 21) rfl (nI 3) (by decide) ?_
      refine q_callS (pc := 22) _ (by decide) rfl rfl rfl rfl (Nat.le_of_ble_eq_true rfl) (by omega) _ rfl ?_
      refine m_in0 (by decide) (fun w hw e => ?_) (fun g => ?_)
      · subst e
        have zw : Hd (rg 4 (nI w) = w) := rg_in (by omega) (by decide)
        refine q_ifne (pc := 25) rfl (fun _ => ?_) (fun z => absurd z (by decide))
        refine q_aload_n (pc := 31) rfl rfl rfl ?_
        refine q_aload_n (pc := 32) rfl rfl rfl ?_
        refine q_getf (pc := 33) rfl (by exact HR.c H hl _ rfl) rfl rfl ?_
        refine q_callV (pc := 36) _ rfl rfl rfl (by exact HR.c H hl _ rfl) rfl (Nat.le_of_ble_eq_true rfl) (by omega) _ rfl ?_
        refine m_keep H hl (Or.inr rfl) N ?_
        intro h s1 H f1 W1
        have N := N.fr f1 (by decide)
        have fm1 : mf s s1 := ⟨f1.mono (fun i g => by unfold mS; omega), congrFun (f1 54 (by decide)) _, congrFun (f1 54 (by decide)) _, congrFun (f1 54 (by decide)) _⟩
        have T := Mk.2.2.2.2.1.fr fm1
        refine q_aload_n (pc := 39) rfl rfl rfl ?_
        refine q_iload_n (pc := 40) rfl rfl ?_
        refine q_iload_n (pc := 41) rfl rfl ?_
        refine q_callV (pc := 42) _ rfl rfl rfl (by exact HR.c H hl _ rfl) rfl (Nat.le_of_ble_eq_true rfl) (by omega) _ rfl ?_
        refine m_go (by omega) H hl N T KK (by omega) hm0 ?_
        intro h s2 H f2 N e23
        have hbk := ngt_bk (C := C) (E := E) (n := P.2.1) (p := p) (m := m0) (by omega) 36 β 0 0 0 KK
        have W2 : ∀ i, i < 91 → s2 57 i = nI (β i) := fun i hi => (congrFun (f2.1 57 (by unfold gS; decide)) i).trans (W1 i hi)
        have fm2 := fm1.tr (f2.mf (fun i g => by unfold gS at g; unfold mS; omega) (by unfold gF; omega))
        refine q_istore (pc := 45) [_, _, _, _, _, _] rfl (Nat.le_of_ble_eq_true rfl) rfl ?_
        refine q_iload_n (pc := 47) rfl rfl ?_
        first | refine n_ifne (pc := 48) rfl (by omega) (fun h48 => ?_) (fun h48 => ?_) | refine q_ifne (pc := 48) rfl (fun h48 => ?_) (fun h48 => ?_)
        · first
          | (exfalso; omega (config := {splitDisjunctions := false}))
          | exact absurd rfl h48
          | skip
            refine q_iload_n (pc := 58) rfl rfl ?_
            refine q_iconst (pc := 59) rfl (nI 1) (by decide) ?_
            first | refine n_icmpne (pc := 60) rfl (by omega) (by omega) (fun h60 => ?_) (fun h60 => ?_) | refine q_icmpne (pc := 60) rfl (fun h60 => ?_) (fun h60 => ?_)
            · first
              | (exfalso; omega (config := {splitDisjunctions := false}))
              | exact absurd rfl h60
              | skip
                refine q_iload_n (pc := 68) rfl rfl ?_
                refine q_iconst (pc := 69) rfl (nI 2) (by decide) ?_
                first | refine n_icmpne (pc := 70) rfl (by omega) (by omega) (fun h70 => ?_) (fun h70 => ?_) | refine q_icmpne (pc := 70) rfl (fun h70 => ?_) (fun h70 => ?_)
                · first
                  | (exfalso; omega (config := {splitDisjunctions := false}))
                  | exact absurd rfl h70
                  | skip
                    refine q_aload_n (pc := 80) rfl rfl rfl ?_
                    refine q_iload_n (pc := 81) rfl rfl ?_
                    refine q_callV (pc := 82) _ rfl rfl rfl (by exact HR.c H hl _ rfl) rfl (Nat.le_of_ble_eq_true rfl) (by omega) _ rfl ?_
                    refine m_at H hl N (by omega) ?_
                    refine q_istore (pc := 85) [_, _, _, _, _, _] rfl (Nat.le_of_ble_eq_true rfl) rfl ?_
                    refine q_aload_n (pc := 87) rfl rfl rfl ?_
                    refine q_aload_n (pc := 88) rfl rfl rfl ?_
                    refine q_getf (pc := 89) rfl (by exact HR.c H hl _ rfl) rfl rfl ?_
                    refine q_callV (pc := 92) _ rfl rfl rfl (by exact HR.c H hl _ rfl) rfl (Nat.le_of_ble_eq_true rfl) (by omega) _ rfl ?_
                    refine m_lay H hl (Or.inr rfl) W2 ?_
                    intro h s3 H f3 N3
                    have fm3 := fm2.tr ⟨f3.mono (fun i g => by unfold mS; omega), congrFun (f3 54 (by decide)) _, congrFun (f3 54 (by decide)) _, congrFun (f3 54 (by decide)) _⟩
                    refine q_iload (pc := 95) rfl rfl ?_
                    refine q_iret (pc := 97) rfl (rfl) ?_
                    first
                    | (refine eqQ ?_ (kk _ _ H N3 fm3)
                       unfold o_run
                       rw [zp.out, zm.out, zw.out, if_pos (by omega), if_pos (by omega)])
                    | (refine eqQ ?_ (kk _ _ H N3 fm3)
                       unfold o_run
                       rw [zp.out, zm.out, zw.out, if_pos (by omega), if_neg (by omega), if_pos (by omega)])
                    | (refine eqQ ?_ (kk _ _ H N3 fm3)
                       unfold o_run
                       rw [zp.out, zm.out, zw.out, if_pos (by omega), if_neg (by omega), if_neg (by omega), if_pos (by omega)])
                    | (refine eqQ ?_ (kk _ _ H N3 fm3)
                       unfold o_run
                       rw [zp.out, zm.out, zw.out, if_pos (by omega), if_neg (by omega), if_neg (by omega), if_neg (by omega), if_pos (by omega)])
                · first
                  | (exfalso; omega (config := {splitDisjunctions := false}))
                  | exact absurd rfl h70
                  | skip
                    refine q_aload_n (pc := 73) rfl rfl rfl ?_
                    refine q_callV (pc := 74) _ rfl rfl rfl (by exact HR.c H hl _ rfl) rfl (Nat.le_of_ble_eq_true rfl) (by omega) _ rfl ?_
                    refine m_wrongs (by omega) H hl N hbk.1 ?_
                    refine q_goto (pc := 77) rfl ?_
                    refine q_istore (pc := 85) [_, _, _, _, _, _] rfl (Nat.le_of_ble_eq_true rfl) rfl ?_
                    refine q_aload_n (pc := 87) rfl rfl rfl ?_
                    refine q_aload_n (pc := 88) rfl rfl rfl ?_
                    refine q_getf (pc := 89) rfl (by exact HR.c H hl _ rfl) rfl rfl ?_
                    refine q_callV (pc := 92) _ rfl rfl rfl (by exact HR.c H hl _ rfl) rfl (Nat.le_of_ble_eq_true rfl) (by omega) _ rfl ?_
                    refine m_lay H hl (Or.inr rfl) W2 ?_
                    intro h s3 H f3 N3
                    have fm3 := fm2.tr ⟨f3.mono (fun i g => by unfold mS; omega), congrFun (f3 54 (by decide)) _, congrFun (f3 54 (by decide)) _, congrFun (f3 54 (by decide)) _⟩
                    refine q_iload (pc := 95) rfl rfl ?_
                    refine q_iret (pc := 97) rfl (rfl) ?_
                    first
                    | (refine eqQ ?_ (kk _ _ H N3 fm3)
                       unfold o_run
                       rw [zp.out, zm.out, zw.out, if_pos (by omega), if_pos (by omega)])
                    | (refine eqQ ?_ (kk _ _ H N3 fm3)
                       unfold o_run
                       rw [zp.out, zm.out, zw.out, if_pos (by omega), if_neg (by omega), if_pos (by omega)])
                    | (refine eqQ ?_ (kk _ _ H N3 fm3)
                       unfold o_run
                       rw [zp.out, zm.out, zw.out, if_pos (by omega), if_neg (by omega), if_neg (by omega), if_pos (by omega)])
                    | (refine eqQ ?_ (kk _ _ H N3 fm3)
                       unfold o_run
                       rw [zp.out, zm.out, zw.out, if_pos (by omega), if_neg (by omega), if_neg (by omega), if_neg (by omega), if_pos (by omega)])
            · first
              | (exfalso; omega (config := {splitDisjunctions := false}))
              | exact absurd rfl h60
              | skip
                refine q_iload (pc := 63) rfl rfl ?_
                refine q_goto (pc := 65) rfl ?_
                refine q_istore (pc := 85) [_, _, _, _, _, _] rfl (Nat.le_of_ble_eq_true rfl) rfl ?_
                refine q_aload_n (pc := 87) rfl rfl rfl ?_
                refine q_aload_n (pc := 88) rfl rfl rfl ?_
                refine q_getf (pc := 89) rfl (by exact HR.c H hl _ rfl) rfl rfl ?_
                refine q_callV (pc := 92) _ rfl rfl rfl (by exact HR.c H hl _ rfl) rfl (Nat.le_of_ble_eq_true rfl) (by omega) _ rfl ?_
                refine m_lay H hl (Or.inr rfl) W2 ?_
                intro h s3 H f3 N3
                have fm3 := fm2.tr ⟨f3.mono (fun i g => by unfold mS; omega), congrFun (f3 54 (by decide)) _, congrFun (f3 54 (by decide)) _, congrFun (f3 54 (by decide)) _⟩
                refine q_iload (pc := 95) rfl rfl ?_
                refine q_iret (pc := 97) rfl (rfl) ?_
                first
                | (refine eqQ ?_ (kk _ _ H N3 fm3)
                   unfold o_run
                   rw [zp.out, zm.out, zw.out, if_pos (by omega), if_pos (by omega)])
                | (refine eqQ ?_ (kk _ _ H N3 fm3)
                   unfold o_run
                   rw [zp.out, zm.out, zw.out, if_pos (by omega), if_neg (by omega), if_pos (by omega)])
                | (refine eqQ ?_ (kk _ _ H N3 fm3)
                   unfold o_run
                   rw [zp.out, zm.out, zw.out, if_pos (by omega), if_neg (by omega), if_neg (by omega), if_pos (by omega)])
                | (refine eqQ ?_ (kk _ _ H N3 fm3)
                   unfold o_run
                   rw [zp.out, zm.out, zw.out, if_pos (by omega), if_neg (by omega), if_neg (by omega), if_neg (by omega), if_pos (by omega)])
        · first
          | (exfalso; omega (config := {splitDisjunctions := false}))
          | exact absurd rfl h48
          | skip
            refine q_aload_n (pc := 51) rfl rfl rfl ?_
            refine q_getf (pc := 52) rfl (by exact HR.c H hl _ rfl) rfl rfl ?_
            rw [e23]
            refine q_goto (pc := 55) rfl ?_
            refine q_istore (pc := 85) [_, _, _, _, _, _] rfl (Nat.le_of_ble_eq_true rfl) rfl ?_
            refine q_aload_n (pc := 87) rfl rfl rfl ?_
            refine q_aload_n (pc := 88) rfl rfl rfl ?_
            refine q_getf (pc := 89) rfl (by exact HR.c H hl _ rfl) rfl rfl ?_
            refine q_callV (pc := 92) _ rfl rfl rfl (by exact HR.c H hl _ rfl) rfl (Nat.le_of_ble_eq_true rfl) (by omega) _ rfl ?_
            refine m_lay H hl (Or.inr rfl) W2 ?_
            intro h s3 H f3 N3
            have fm3 := fm2.tr ⟨f3.mono (fun i g => by unfold mS; omega), congrFun (f3 54 (by decide)) _, congrFun (f3 54 (by decide)) _, congrFun (f3 54 (by decide)) _⟩
            refine q_iload (pc := 95) rfl rfl ?_
            refine q_iret (pc := 97) rfl (rfl) ?_
            first
            | (refine eqQ ?_ (kk _ _ H N3 fm3)
               unfold o_run
               rw [zp.out, zm.out, zw.out, if_pos (by omega), if_pos (by omega)])
            | (refine eqQ ?_ (kk _ _ H N3 fm3)
               unfold o_run
               rw [zp.out, zm.out, zw.out, if_pos (by omega), if_neg (by omega), if_pos (by omega)])
            | (refine eqQ ?_ (kk _ _ H N3 fm3)
               unfold o_run
               rw [zp.out, zm.out, zw.out, if_pos (by omega), if_neg (by omega), if_neg (by omega), if_pos (by omega)])
            | (refine eqQ ?_ (kk _ _ H N3 fm3)
               unfold o_run
               rw [zp.out, zm.out, zw.out, if_pos (by omega), if_neg (by omega), if_neg (by omega), if_neg (by omega), if_pos (by omega)])
      · have zw : Hd (rg 4 z = 4) := rg_out g
        refine q_ifne (pc := 25) rfl (fun z => absurd z (by decide)) (fun _ => ?_)
        refine q_bipush (pc := 28) rfl (-2) (by decide) ?_
        refine q_iret (pc := 30) rfl (rfl) ?_
        first
        | (refine eqQ (v' := o_run C E β (nI p) (nI m0) z) ?_ (kk _ _ H N mf.rf)
           unfold o_run
           rw [zp.out, zm.out, zw.out, if_pos (by omega), if_neg (by decide), if_neg (by decide), if_neg (by decide), if_neg (by decide)])
        | (refine eqQ (v' := o_run C E β (nI p) y z) ?_ (kk _ _ H N mf.rf)
           unfold o_run
           rw [zm.out, if_neg (by omega)])
        | (refine eqQ (v' := o_run C E β x y z) ?_ (kk _ _ H N mf.rf)
           unfold o_run
           rw [zp.out, if_neg (by omega)])
    · have zm : Hd (rg 1000 y = 1000) := rg_out g
      refine q_ifeq (pc := 16) rfl (fun _ => ?_) (fun z => absurd (by decide) z)
      refine q_bipush (pc := 28) rfl (-2) (by decide) ?_
      refine q_iret (pc := 30) rfl (rfl) ?_
      first
      | (refine eqQ (v' := o_run C E β (nI p) (nI m0) z) ?_ (kk _ _ H N mf.rf)
         unfold o_run
         rw [zp.out, zm.out, zw.out, if_pos (by omega), if_neg (by decide), if_neg (by decide), if_neg (by decide), if_neg (by decide)])
      | (refine eqQ (v' := o_run C E β (nI p) y z) ?_ (kk _ _ H N mf.rf)
         unfold o_run
         rw [zm.out, if_neg (by omega)])
      | (refine eqQ (v' := o_run C E β x y z) ?_ (kk _ _ H N mf.rf)
         unfold o_run
         rw [zp.out, if_neg (by omega)])
  · have zp : Hd (rg (β 88) x = β 88) := rg_out g
    refine q_ifeq (pc := 5) rfl (fun _ => ?_) (fun z => absurd (by decide) z)
    refine q_bipush (pc := 28) rfl (-2) (by decide) ?_
    refine q_iret (pc := 30) rfl (rfl) ?_
    first
    | (refine eqQ (v' := o_run C E β (nI p) (nI m0) z) ?_ (kk _ _ H N mf.rf)
       unfold o_run
       rw [zp.out, zm.out, zw.out, if_pos (by omega), if_neg (by decide), if_neg (by decide), if_neg (by decide), if_neg (by decide)])
    | (refine eqQ (v' := o_run C E β (nI p) y z) ?_ (kk _ _ H N mf.rf)
       unfold o_run
       rw [zm.out, if_neg (by omega)])
    | (refine eqQ (v' := o_run C E β x y z) ?_ (kk _ _ H N mf.rf)
       unfold o_run
       rw [zp.out, if_neg (by omega)])
end P50
