/-! ===== the reference: what was laid tells, the call ===== -/
section P58
variable {d k pc a i j c p b t n m part q : Nat} {v : Int} {L L' : mx_L} {st r : List Value} {P : mx_Pm} {h : mx_H} {s : mx_St} {Q : Option Value → mx_H → Prop} {x y w z u : Int32} {β κ : Nat → Nat} {C : Nat → Nat → Int32} {E : Nat → Nat → Nat} {ik tz : Nat} {tp : Nat → Nat} {σ : Nat → Int32} {sz : Nat → Nat} {cl : Nat → Nat → Int32}
theorem TKN.put {p m t : Nat} {a b c : Int32} (h1 : a = nI p) (h2 : b = nI m) (h3 : c = nI t) : TKN (stv (stv (stv s 54 18 a) 54 19 b) 54 20 c) p m t := by
  refine ⟨?_, ?_, ?_⟩
  · rw [stv_o (by decide), stv_o (by decide), stv_a]
    exact h1
  · rw [stv_o (by decide), stv_a]
    exact h2
  · rw [stv_a]
    exact h3
theorem alK_k {F : Nat → Int32} {n0 : Nat} (h36 : n0 ≤ 36) (hp : p < 4) : alB (lyG C E β i (β (72 + 4 * p + 1)) (β 90)) F n0 = alK C E β p (72 + 4 * p) F n0 i := by
  unfold alK
  refine alB_cg (fun c hc => ?_)
  unfold lyN
  rw [upN_s, upN_n (by omega), upN_n (by omega)]
  exact lyG_cg (fun j hj => (upN_n (by omega)).symm) (upN_n (by omega)).symm (by omega)
theorem alK_n {F : Nat → Int32} {n0 : Nat} (h36 : n0 ≤ 36) (hp : p < 4) : alB (lyG C E β (β (72 + 4 * p)) i (β 90)) F n0 = alK C E β p (72 + 4 * p + 1) F n0 i := by
  unfold alK
  refine alB_cg (fun c hc => ?_)
  unfold lyN
  rw [upN_s, upN_n (by omega), upN_n (by omega)]
  exact lyG_cg (fun j hj => (upN_n (by omega)).symm) (upN_n (by omega)).symm (by omega)
theorem alK_t {F : Nat → Int32} {n0 : Nat} (h36 : n0 ≤ 36) (hp : p < 4) : alB (lyG C E β (β (72 + 4 * p)) (β (72 + 4 * p + 1)) i) F n0 = alK C E β p 90 F n0 i := by
  unfold alK
  refine alB_cg (fun c hc => ?_)
  unfold lyN
  rw [upN_s, upN_n (by omega), upN_n (by omega)]
  exact lyG_cg (fun j hj => (upN_n (by omega)).symm) (upN_n (by omega)).symm (by omega)
theorem alK_d {F : Nat → Int32} {n0 : Nat} (h36 : n0 ≤ 36) (hp : p < 4) : alK C E β p 89 F n0 i = alB (lyG C E (upN β 89 i) (β (72 + 4 * p)) (β (72 + 4 * p + 1)) (β 90)) F n0 := by
  unfold alK
  refine alB_cg (fun c hc => ?_)
  unfold lyN
  rw [upN_n (by omega), upN_n (by omega), upN_n (by omega)]
def tlS (i : Nat) : Prop := i = 54 ∨ i = 55 ∨ i = 57 ∨ i = 63 ∨ i = 64
theorem m_tellL1 {q n0 n : Nat} (hd : 9 ≤ d) (hl : 75 ≤ P.1) (hq : q < 4) (hp : p < 4) (h36 : n0 ≤ 36) (hk : bok β n) (h9 : β 89 ≤ 999) {F : Nat → Int32} {s0 : mx_St} (T0 : MT s0 n C E) (e71 : s0 71 q = nI n0) (e72 : ∀ i, i < 40 → s0 72 (40 * q + i) = F i) (kk : ∀ h' s', HR P h' s' → gf tlS tF s0 s' → NW s' β → Q (some (.int (nI (bset (alK C E β p (72 + 4 * p) F n0) (6))))) h') (k0 i : Nat) (hi : i + k0 = 6) (h : mx_H) (s : mx_St) (H : HR P h s) (N : NW s β) (f : gf tlS tF s0 s) (z7 : Option Value) : wq d 205 138 [some (.ref 54), some (.int (nI q)), some (.int (nI p)), some (.int (nI 1)), some (.int (nI (6))), some (.int (nI (bset (alK C E β p (72 + 4 * p) F n0) i))), some (.int (nI i)), z7] [] h Q := by
  obtain ⟨kp1, kp2, kp3, kp4⟩ := hk.2.1 p hp
  have T : MT s n C E := T0.fr (f.mf (fun i g => by unfold tlS at g; unfold mS; omega) (by unfold tF; omega))
  have hn6 := T.2.1
  match k0, hi with
  | 0, hi =>
    obtain rfl : i = 6 := by omega
    refine q_iload (pc := 138) rfl rfl ?_
    refine q_iload (pc := 140) rfl rfl ?_
    first | refine n_icmpge (pc := 142) rfl (by omega) (by omega) (fun h142 => ?_) (fun h142 => ?_) | refine q_icmpge (pc := 142) rfl (fun h142 => ?_) (fun h142 => ?_)
    · refine q_iload (pc := 260) rfl rfl ?_
      refine q_iret (pc := 262) rfl (rfl) ?_
      exact kk _ _ H f N
    · first | (exfalso; omega) | exact absurd h142 (nI_pos (by omega)) | exact absurd (nI_pos' (by omega)) h142
  | k0 + 1, hi =>
    refine q_iload (pc := 138) rfl rfl ?_
    refine q_iload (pc := 140) rfl rfl ?_
    first | refine n_icmpge (pc := 142) rfl (by omega) (by omega) (fun h142 => ?_) (fun h142 => ?_) | refine q_icmpge (pc := 142) rfl (fun h142 => ?_) (fun h142 => ?_)
    · first | (exfalso; omega) | exact absurd h142 (nI_pos (by omega)) | exact absurd (nI_pos' (by omega)) h142
    · refine q_aload_n (pc := 145) rfl rfl rfl ?_
      refine q_iload_n (pc := 146) rfl rfl ?_
      refine q_callV (pc := 147) _ rfl rfl rfl (by exact HR.c H hl _ rfl) rfl (Nat.le_of_ble_eq_true rfl) (by omega) _ rfl ?_
      refine m_take H hl N hp ?_
      intro h s1 H f1 f1a tk
      have N := N.tf f1
      have T := T.fr (tf_mf f1)
      have g1 : gf tlS tF s0 s1 := f.tr ((tf_gf f1).mono (fun i g => by unfold tS at g; unfold tlS; omega) (fun i g => g))
      refine q_aload_n (pc := 150) rfl rfl rfl ?_
      refine q_iload_n (pc := 151) rfl rfl ?_
      refine q_iconst (pc := 152) rfl (nI 1) (by decide) ?_
      first | refine n_icmpne (pc := 153) rfl (by omega) (by omega) (fun h153 => ?_) (fun h153 => ?_) | refine q_icmpne (pc := 153) rfl (fun h153 => ?_) (fun h153 => ?_)
      · first | (exfalso; omega) | exact absurd h153 (nI_pos (by omega)) | exact absurd (nI_pos' (by omega)) h153
      · refine q_iload (pc := 156) rfl rfl ?_
        refine q_goto (pc := 158) rfl ?_
        refine r_pf2 (pc := 165) (i := 18) rfl H hl rfl rfl rfl rfl (Nat.le_of_ble_eq_true rfl) rfl rfl ?_
        intro h H
        refine q_aload_n (pc := 168) rfl rfl rfl ?_
        refine q_iload_n (pc := 169) rfl rfl ?_
        refine q_iconst (pc := 170) rfl (nI 2) (by decide) ?_
        first | refine n_icmpne (pc := 171) rfl (by omega) (by omega) (fun h171 => ?_) (fun h171 => ?_) | refine q_icmpne (pc := 171) rfl (fun h171 => ?_) (fun h171 => ?_)
        · refine q_aload_n (pc := 179) rfl rfl rfl ?_
          refine q_getf (pc := 180) rfl (by exact HR.c H hl _ rfl) rfl rfl ?_
          refine r_pf2 (pc := 183) (i := 19) rfl H hl rfl rfl rfl rfl (Nat.le_of_ble_eq_true rfl) rfl rfl ?_
          intro h H
          refine q_aload_n (pc := 186) rfl rfl rfl ?_
          refine q_iload_n (pc := 187) rfl rfl ?_
          refine q_iconst (pc := 188) rfl (nI 5) (by decide) ?_
          first | refine n_icmpne (pc := 189) rfl (by omega) (by omega) (fun h189 => ?_) (fun h189 => ?_) | refine q_icmpne (pc := 189) rfl (fun h189 => ?_) (fun h189 => ?_)
          · refine q_aload_n (pc := 197) rfl rfl rfl ?_
            refine q_getf (pc := 198) rfl (by exact HR.c H hl _ rfl) rfl rfl ?_
            refine r_pf2 (pc := 201) (i := 20) rfl H hl rfl rfl rfl rfl (Nat.le_of_ble_eq_true rfl) rfl rfl ?_
            intro h H
            have g2 : gf tlS tF s1 (stv (stv (stv s1 54 18 (nI i)) 54 19 (stv s1 54 18 (nI i) 54 19)) 54 20 (stv (stv s1 54 18 (nI i)) 54 19 (stv s1 54 18 (nI i) 54 19) 54 20)) := ((gf.fd (Or.inl rfl) (by unfold tF; omega)).tr (gf.fd (Or.inl rfl) (by unfold tF; omega))).tr (gf.fd (Or.inl rfl) (by unfold tF; omega))
            have tk : TKN (stv (stv (stv s1 54 18 (nI i)) 54 19 (stv s1 54 18 (nI i) 54 19)) 54 20 (stv (stv s1 54 18 (nI i)) 54 19 (stv s1 54 18 (nI i) 54 19) 54 20)) i (β (72 + 4 * p + 1)) (β 90) := TKN.put rfl ((stv_o (by decide)).trans tk.2.1) ((stv_o (by decide)).trans ((stv_o (by decide)).trans tk.2.2))
            have N := N.fr (s' := (stv (stv (stv s1 54 18 (nI i)) 54 19 (stv s1 54 18 (nI i) 54 19)) 54 20 (stv (stv s1 54 18 (nI i)) 54 19 (stv s1 54 18 (nI i) 54 19) 54 20))) (S := fun i => i = 54) (((sf.rf.st (by rfl)).st (by rfl)).st (by rfl)) (by decide)
            have g := g1.tr g2
            have T := T.fr (g2.mf (fun i g => by unfold tlS at g; unfold mS; omega) (by unfold tF; omega))
            refine q_iload_n (pc := 204) rfl rfl ?_
            refine q_bipush (pc := 205) rfl (nI 6) (by decide) ?_
            first | refine n_icmpne (pc := 207) rfl (by omega) (by omega) (fun h207 => ?_) (fun h207 => ?_) | refine q_icmpne (pc := 207) rfl (fun h207 => ?_) (fun h207 => ?_)
            · refine q_aload_n (pc := 220) rfl rfl rfl ?_
              refine q_iload_n (pc := 221) rfl rfl ?_
              refine q_callV (pc := 222) _ rfl rfl rfl (by exact HR.c H hl _ rfl) rfl (Nat.le_of_ble_eq_true rfl) (by omega) _ rfl ?_
              refine m_other (by omega) H hl N hq h36 hk.1 T tk (by omega) (by omega) (by first | exact hk.2.2.2.2 | omega) ((congrFun (g.1 71 (by unfold tlS; decide)) _).trans e71) (fun i hi => (congrFun (g.1 72 (by unfold tlS; decide)) _).trans (e72 i hi)) ?_
              intro h s2 H f2
              have N := N.fr f2 (by decide)
              have g := g.tr (gf.of f2 (fun i g => by unfold tlS; omega) (by decide))
              have hal : foV (lyG C E β i (β (72 + 4 * p + 1)) (β 90)) F n0 = -1 ↔ (alK C E β p (72 + 4 * p) F n0) i = true := by
                rw [← alK_k h36 hp]
                exact foV_m (by omega)
              refine q_iconst (pc := 225) rfl (-1) (by decide) ?_
              refine q_icmpne (pc := 226) rfl (fun h226 => ?_) (fun h226 => ?_)
              · have hw : (alK C E β p (72 + 4 * p) F n0) i = false := Bool.eq_false_iff.mpr (fun e => h226 (hal.mpr e))
                first
                | (exfalso; omega (config := {splitDisjunctions := false}))
                | exact absurd rfl h226
                | skip
                  refine q_iconst (pc := 233) rfl (nI 0) (by decide) ?_
                  refine q_istore (pc := 234) [_, _, _, _, _, _, _, _] rfl (Nat.le_of_ble_eq_true rfl) rfl ?_
                  refine q_iload (pc := 236) rfl rfl ?_
                  refine q_iload (pc := 238) rfl rfl ?_
                  first | refine n_ifeq (pc := 240) rfl (by omega) (fun h240 => ?_) (fun h240 => ?_) | refine q_ifeq (pc := 240) rfl (fun h240 => ?_) (fun h240 => ?_)
                  · first
                    | (exfalso; omega (config := {splitDisjunctions := false}))
                    | exact absurd rfl h240
                    | skip
                      refine q_iconst (pc := 250) rfl (nI 0) (by decide) ?_
                      refine n_ior (pc := 251) rfl ?_
                      refine q_istore (pc := 252) [_, _, _, _, _, _, _, _] rfl (Nat.le_of_ble_eq_true rfl) rfl ?_
                      first | refine n_iinc (pc := 254) rfl [_, _, _, _, _, _, _, _] 1 (by decide) rfl rfl ?_ | refine q_iinc (pc := 254) [_, _, _, _, _, _, _, _] (1) rfl rfl (by decide) rfl ?_
                      refine q_goto (pc := 257) rfl ?_
                      first
                      | (have ih := m_tellL1 hd hl hq hp h36 hk h9 T0 e71 e72 kk k0 (i + 1) (by omega) h _ H N g (some (.int (nI 1)))
                         rw [show bset (alK C E β p (72 + 4 * p) F n0) (i + 1) = bset (alK C E β p (72 + 4 * p) F n0) i ||| 2 ^ i from bset_t hw] at ih
                         exact ih)
                      | (have ih := m_tellL1 hd hl hq hp h36 hk h9 T0 e71 e72 kk k0 (i + 1) (by omega) h _ H N g (some (.int (nI 0)))
                         rw [show bset (alK C E β p (72 + 4 * p) F n0) (i + 1) = bset (alK C E β p (72 + 4 * p) F n0) i from bset_f hw, show bset (alK C E β p (72 + 4 * p) F n0) i = bset (alK C E β p (72 + 4 * p) F n0) i ||| 0 from (Nat.or_zero _).symm] at ih
                         exact ih)
                  · first
                    | (exfalso; omega (config := {splitDisjunctions := false}))
                    | exact absurd rfl h240
                    | skip
                      refine q_iconst (pc := 243) rfl (nI 1) (by decide) ?_
                      refine q_iload (pc := 244) rfl rfl ?_
                      refine n_ishl1 (pc := 246) rfl (by omega) ?_
                      refine q_goto (pc := 247) rfl ?_
                      refine n_ior (pc := 251) rfl ?_
                      refine q_istore (pc := 252) [_, _, _, _, _, _, _, _] rfl (Nat.le_of_ble_eq_true rfl) rfl ?_
                      first | refine n_iinc (pc := 254) rfl [_, _, _, _, _, _, _, _] 1 (by decide) rfl rfl ?_ | refine q_iinc (pc := 254) [_, _, _, _, _, _, _, _] (1) rfl rfl (by decide) rfl ?_
                      refine q_goto (pc := 257) rfl ?_
                      first
                      | (have ih := m_tellL1 hd hl hq hp h36 hk h9 T0 e71 e72 kk k0 (i + 1) (by omega) h _ H N g (some (.int (nI 1)))
                         rw [show bset (alK C E β p (72 + 4 * p) F n0) (i + 1) = bset (alK C E β p (72 + 4 * p) F n0) i ||| 2 ^ i from bset_t hw] at ih
                         exact ih)
                      | (have ih := m_tellL1 hd hl hq hp h36 hk h9 T0 e71 e72 kk k0 (i + 1) (by omega) h _ H N g (some (.int (nI 0)))
                         rw [show bset (alK C E β p (72 + 4 * p) F n0) (i + 1) = bset (alK C E β p (72 + 4 * p) F n0) i from bset_f hw, show bset (alK C E β p (72 + 4 * p) F n0) i = bset (alK C E β p (72 + 4 * p) F n0) i ||| 0 from (Nat.or_zero _).symm] at ih
                         exact ih)
              · have hw : (alK C E β p (72 + 4 * p) F n0) i = true := hal.mp h226
                first
                | (exfalso; omega (config := {splitDisjunctions := false}))
                | exact absurd rfl h226
                | skip
                  refine q_iconst (pc := 229) rfl (nI 1) (by decide) ?_
                  refine q_goto (pc := 230) rfl ?_
                  refine q_istore (pc := 234) [_, _, _, _, _, _, _, _] rfl (Nat.le_of_ble_eq_true rfl) rfl ?_
                  refine q_iload (pc := 236) rfl rfl ?_
                  refine q_iload (pc := 238) rfl rfl ?_
                  first | refine n_ifeq (pc := 240) rfl (by omega) (fun h240 => ?_) (fun h240 => ?_) | refine q_ifeq (pc := 240) rfl (fun h240 => ?_) (fun h240 => ?_)
                  · first
                    | (exfalso; omega (config := {splitDisjunctions := false}))
                    | exact absurd rfl h240
                    | skip
                      refine q_iconst (pc := 250) rfl (nI 0) (by decide) ?_
                      refine n_ior (pc := 251) rfl ?_
                      refine q_istore (pc := 252) [_, _, _, _, _, _, _, _] rfl (Nat.le_of_ble_eq_true rfl) rfl ?_
                      first | refine n_iinc (pc := 254) rfl [_, _, _, _, _, _, _, _] 1 (by decide) rfl rfl ?_ | refine q_iinc (pc := 254) [_, _, _, _, _, _, _, _] (1) rfl rfl (by decide) rfl ?_
                      refine q_goto (pc := 257) rfl ?_
                      first
                      | (have ih := m_tellL1 hd hl hq hp h36 hk h9 T0 e71 e72 kk k0 (i + 1) (by omega) h _ H N g (some (.int (nI 1)))
                         rw [show bset (alK C E β p (72 + 4 * p) F n0) (i + 1) = bset (alK C E β p (72 + 4 * p) F n0) i ||| 2 ^ i from bset_t hw] at ih
                         exact ih)
                      | (have ih := m_tellL1 hd hl hq hp h36 hk h9 T0 e71 e72 kk k0 (i + 1) (by omega) h _ H N g (some (.int (nI 0)))
                         rw [show bset (alK C E β p (72 + 4 * p) F n0) (i + 1) = bset (alK C E β p (72 + 4 * p) F n0) i from bset_f hw, show bset (alK C E β p (72 + 4 * p) F n0) i = bset (alK C E β p (72 + 4 * p) F n0) i ||| 0 from (Nat.or_zero _).symm] at ih
                         exact ih)
                  · first
                    | (exfalso; omega (config := {splitDisjunctions := false}))
                    | exact absurd rfl h240
                    | skip
                      refine q_iconst (pc := 243) rfl (nI 1) (by decide) ?_
                      refine q_iload (pc := 244) rfl rfl ?_
                      refine n_ishl1 (pc := 246) rfl (by omega) ?_
                      refine q_goto (pc := 247) rfl ?_
                      refine n_ior (pc := 251) rfl ?_
                      refine q_istore (pc := 252) [_, _, _, _, _, _, _, _] rfl (Nat.le_of_ble_eq_true rfl) rfl ?_
                      first | refine n_iinc (pc := 254) rfl [_, _, _, _, _, _, _, _] 1 (by decide) rfl rfl ?_ | refine q_iinc (pc := 254) [_, _, _, _, _, _, _, _] (1) rfl rfl (by decide) rfl ?_
                      refine q_goto (pc := 257) rfl ?_
                      first
                      | (have ih := m_tellL1 hd hl hq hp h36 hk h9 T0 e71 e72 kk k0 (i + 1) (by omega) h _ H N g (some (.int (nI 1)))
                         rw [show bset (alK C E β p (72 + 4 * p) F n0) (i + 1) = bset (alK C E β p (72 + 4 * p) F n0) i ||| 2 ^ i from bset_t hw] at ih
                         exact ih)
                      | (have ih := m_tellL1 hd hl hq hp h36 hk h9 T0 e71 e72 kk k0 (i + 1) (by omega) h _ H N g (some (.int (nI 0)))
                         rw [show bset (alK C E β p (72 + 4 * p) F n0) (i + 1) = bset (alK C E β p (72 + 4 * p) F n0) i from bset_f hw, show bset (alK C E β p (72 + 4 * p) F n0) i = bset (alK C E β p (72 + 4 * p) F n0) i ||| 0 from (Nat.or_zero _).symm] at ih
                         exact ih)
            · first | (exfalso; omega) | exact absurd h207 (nI_pos (by omega)) | exact absurd (nI_pos' (by omega)) h207
          · first | (exfalso; omega) | exact absurd h189 (nI_pos (by omega)) | exact absurd (nI_pos' (by omega)) h189
        · first | (exfalso; omega) | exact absurd h171 (nI_pos (by omega)) | exact absurd (nI_pos' (by omega)) h171
termination_by k0
theorem m_tellL2 {q n0 n : Nat} (hd : 9 ≤ d) (hl : 75 ≤ P.1) (hq : q < 4) (hp : p < 4) (h36 : n0 ≤ 36) (hk : bok β n) (h9 : β 89 ≤ 999) {F : Nat → Int32} {s0 : mx_St} (T0 : MT s0 n C E) (e71 : s0 71 q = nI n0) (e72 : ∀ i, i < 40 → s0 72 (40 * q + i) = F i) (kk : ∀ h' s', HR P h' s' → gf tlS tF s0 s' → NW s' β → Q (some (.int (nI (bset (alK C E β p (72 + 4 * p + 1) F n0) (10))))) h') (k0 i : Nat) (hi : i + k0 = 10) (h : mx_H) (s : mx_St) (H : HR P h s) (N : NW s β) (f : gf tlS tF s0 s) (z7 : Option Value) : wq d 205 138 [some (.ref 54), some (.int (nI q)), some (.int (nI p)), some (.int (nI 2)), some (.int (nI (10))), some (.int (nI (bset (alK C E β p (72 + 4 * p + 1) F n0) i))), some (.int (nI i)), z7] [] h Q := by
  obtain ⟨kp1, kp2, kp3, kp4⟩ := hk.2.1 p hp
  have T : MT s n C E := T0.fr (f.mf (fun i g => by unfold tlS at g; unfold mS; omega) (by unfold tF; omega))
  have hn6 := T.2.1
  match k0, hi with
  | 0, hi =>
    obtain rfl : i = 10 := by omega
    refine q_iload (pc := 138) rfl rfl ?_
    refine q_iload (pc := 140) rfl rfl ?_
    first | refine n_icmpge (pc := 142) rfl (by omega) (by omega) (fun h142 => ?_) (fun h142 => ?_) | refine q_icmpge (pc := 142) rfl (fun h142 => ?_) (fun h142 => ?_)
    · refine q_iload (pc := 260) rfl rfl ?_
      refine q_iret (pc := 262) rfl (rfl) ?_
      exact kk _ _ H f N
    · first | (exfalso; omega) | exact absurd h142 (nI_pos (by omega)) | exact absurd (nI_pos' (by omega)) h142
  | k0 + 1, hi =>
    refine q_iload (pc := 138) rfl rfl ?_
    refine q_iload (pc := 140) rfl rfl ?_
    first | refine n_icmpge (pc := 142) rfl (by omega) (by omega) (fun h142 => ?_) (fun h142 => ?_) | refine q_icmpge (pc := 142) rfl (fun h142 => ?_) (fun h142 => ?_)
    · first | (exfalso; omega) | exact absurd h142 (nI_pos (by omega)) | exact absurd (nI_pos' (by omega)) h142
    · refine q_aload_n (pc := 145) rfl rfl rfl ?_
      refine q_iload_n (pc := 146) rfl rfl ?_
      refine q_callV (pc := 147) _ rfl rfl rfl (by exact HR.c H hl _ rfl) rfl (Nat.le_of_ble_eq_true rfl) (by omega) _ rfl ?_
      refine m_take H hl N hp ?_
      intro h s1 H f1 f1a tk
      have N := N.tf f1
      have T := T.fr (tf_mf f1)
      have g1 : gf tlS tF s0 s1 := f.tr ((tf_gf f1).mono (fun i g => by unfold tS at g; unfold tlS; omega) (fun i g => g))
      refine q_aload_n (pc := 150) rfl rfl rfl ?_
      refine q_iload_n (pc := 151) rfl rfl ?_
      refine q_iconst (pc := 152) rfl (nI 1) (by decide) ?_
      first | refine n_icmpne (pc := 153) rfl (by omega) (by omega) (fun h153 => ?_) (fun h153 => ?_) | refine q_icmpne (pc := 153) rfl (fun h153 => ?_) (fun h153 => ?_)
      · refine q_aload_n (pc := 161) rfl rfl rfl ?_
        refine q_getf (pc := 162) rfl (by exact HR.c H hl _ rfl) rfl rfl ?_
        refine r_pf2 (pc := 165) (i := 18) rfl H hl rfl rfl rfl rfl (Nat.le_of_ble_eq_true rfl) rfl rfl ?_
        intro h H
        refine q_aload_n (pc := 168) rfl rfl rfl ?_
        refine q_iload_n (pc := 169) rfl rfl ?_
        refine q_iconst (pc := 170) rfl (nI 2) (by decide) ?_
        first | refine n_icmpne (pc := 171) rfl (by omega) (by omega) (fun h171 => ?_) (fun h171 => ?_) | refine q_icmpne (pc := 171) rfl (fun h171 => ?_) (fun h171 => ?_)
        · first | (exfalso; omega) | exact absurd h171 (nI_pos (by omega)) | exact absurd (nI_pos' (by omega)) h171
        · refine q_iload (pc := 174) rfl rfl ?_
          refine q_goto (pc := 176) rfl ?_
          refine r_pf2 (pc := 183) (i := 19) rfl H hl rfl rfl rfl rfl (Nat.le_of_ble_eq_true rfl) rfl rfl ?_
          intro h H
          refine q_aload_n (pc := 186) rfl rfl rfl ?_
          refine q_iload_n (pc := 187) rfl rfl ?_
          refine q_iconst (pc := 188) rfl (nI 5) (by decide) ?_
          first | refine n_icmpne (pc := 189) rfl (by omega) (by omega) (fun h189 => ?_) (fun h189 => ?_) | refine q_icmpne (pc := 189) rfl (fun h189 => ?_) (fun h189 => ?_)
          · refine q_aload_n (pc := 197) rfl rfl rfl ?_
            refine q_getf (pc := 198) rfl (by exact HR.c H hl _ rfl) rfl rfl ?_
            refine r_pf2 (pc := 201) (i := 20) rfl H hl rfl rfl rfl rfl (Nat.le_of_ble_eq_true rfl) rfl rfl ?_
            intro h H
            have g2 : gf tlS tF s1 (stv (stv (stv s1 54 18 (s1 54 18)) 54 19 (nI i)) 54 20 (stv (stv s1 54 18 (s1 54 18)) 54 19 (nI i) 54 20)) := ((gf.fd (Or.inl rfl) (by unfold tF; omega)).tr (gf.fd (Or.inl rfl) (by unfold tF; omega))).tr (gf.fd (Or.inl rfl) (by unfold tF; omega))
            have tk : TKN (stv (stv (stv s1 54 18 (s1 54 18)) 54 19 (nI i)) 54 20 (stv (stv s1 54 18 (s1 54 18)) 54 19 (nI i) 54 20)) (β (72 + 4 * p)) i (β 90) := TKN.put tk.1 rfl ((stv_o (by decide)).trans ((stv_o (by decide)).trans tk.2.2))
            have N := N.fr (s' := (stv (stv (stv s1 54 18 (s1 54 18)) 54 19 (nI i)) 54 20 (stv (stv s1 54 18 (s1 54 18)) 54 19 (nI i) 54 20))) (S := fun i => i = 54) (((sf.rf.st (by rfl)).st (by rfl)).st (by rfl)) (by decide)
            have g := g1.tr g2
            have T := T.fr (g2.mf (fun i g => by unfold tlS at g; unfold mS; omega) (by unfold tF; omega))
            refine q_iload_n (pc := 204) rfl rfl ?_
            refine q_bipush (pc := 205) rfl (nI 6) (by decide) ?_
            first | refine n_icmpne (pc := 207) rfl (by omega) (by omega) (fun h207 => ?_) (fun h207 => ?_) | refine q_icmpne (pc := 207) rfl (fun h207 => ?_) (fun h207 => ?_)
            · refine q_aload_n (pc := 220) rfl rfl rfl ?_
              refine q_iload_n (pc := 221) rfl rfl ?_
              refine q_callV (pc := 222) _ rfl rfl rfl (by exact HR.c H hl _ rfl) rfl (Nat.le_of_ble_eq_true rfl) (by omega) _ rfl ?_
              refine m_other (by omega) H hl N hq h36 hk.1 T tk (by omega) (by omega) (by first | exact hk.2.2.2.2 | omega) ((congrFun (g.1 71 (by unfold tlS; decide)) _).trans e71) (fun i hi => (congrFun (g.1 72 (by unfold tlS; decide)) _).trans (e72 i hi)) ?_
              intro h s2 H f2
              have N := N.fr f2 (by decide)
              have g := g.tr (gf.of f2 (fun i g => by unfold tlS; omega) (by decide))
              have hal : foV (lyG C E β (β (72 + 4 * p)) i (β 90)) F n0 = -1 ↔ (alK C E β p (72 + 4 * p + 1) F n0) i = true := by
                rw [← alK_n h36 hp]
                exact foV_m (by omega)
              refine q_iconst (pc := 225) rfl (-1) (by decide) ?_
              refine q_icmpne (pc := 226) rfl (fun h226 => ?_) (fun h226 => ?_)
              · have hw : (alK C E β p (72 + 4 * p + 1) F n0) i = false := Bool.eq_false_iff.mpr (fun e => h226 (hal.mpr e))
                first
                | (exfalso; omega (config := {splitDisjunctions := false}))
                | exact absurd rfl h226
                | skip
                  refine q_iconst (pc := 233) rfl (nI 0) (by decide) ?_
                  refine q_istore (pc := 234) [_, _, _, _, _, _, _, _] rfl (Nat.le_of_ble_eq_true rfl) rfl ?_
                  refine q_iload (pc := 236) rfl rfl ?_
                  refine q_iload (pc := 238) rfl rfl ?_
                  first | refine n_ifeq (pc := 240) rfl (by omega) (fun h240 => ?_) (fun h240 => ?_) | refine q_ifeq (pc := 240) rfl (fun h240 => ?_) (fun h240 => ?_)
                  · first
                    | (exfalso; omega (config := {splitDisjunctions := false}))
                    | exact absurd rfl h240
                    | skip
                      refine q_iconst (pc := 250) rfl (nI 0) (by decide) ?_
                      refine n_ior (pc := 251) rfl ?_
                      refine q_istore (pc := 252) [_, _, _, _, _, _, _, _] rfl (Nat.le_of_ble_eq_true rfl) rfl ?_
                      first | refine n_iinc (pc := 254) rfl [_, _, _, _, _, _, _, _] 1 (by decide) rfl rfl ?_ | refine q_iinc (pc := 254) [_, _, _, _, _, _, _, _] (1) rfl rfl (by decide) rfl ?_
                      refine q_goto (pc := 257) rfl ?_
                      first
                      | (have ih := m_tellL2 hd hl hq hp h36 hk h9 T0 e71 e72 kk k0 (i + 1) (by omega) h _ H N g (some (.int (nI 1)))
                         rw [show bset (alK C E β p (72 + 4 * p + 1) F n0) (i + 1) = bset (alK C E β p (72 + 4 * p + 1) F n0) i ||| 2 ^ i from bset_t hw] at ih
                         exact ih)
                      | (have ih := m_tellL2 hd hl hq hp h36 hk h9 T0 e71 e72 kk k0 (i + 1) (by omega) h _ H N g (some (.int (nI 0)))
                         rw [show bset (alK C E β p (72 + 4 * p + 1) F n0) (i + 1) = bset (alK C E β p (72 + 4 * p + 1) F n0) i from bset_f hw, show bset (alK C E β p (72 + 4 * p + 1) F n0) i = bset (alK C E β p (72 + 4 * p + 1) F n0) i ||| 0 from (Nat.or_zero _).symm] at ih
                         exact ih)
                  · first
                    | (exfalso; omega (config := {splitDisjunctions := false}))
                    | exact absurd rfl h240
                    | skip
                      refine q_iconst (pc := 243) rfl (nI 1) (by decide) ?_
                      refine q_iload (pc := 244) rfl rfl ?_
                      refine n_ishl1 (pc := 246) rfl (by omega) ?_
                      refine q_goto (pc := 247) rfl ?_
                      refine n_ior (pc := 251) rfl ?_
                      refine q_istore (pc := 252) [_, _, _, _, _, _, _, _] rfl (Nat.le_of_ble_eq_true rfl) rfl ?_
                      first | refine n_iinc (pc := 254) rfl [_, _, _, _, _, _, _, _] 1 (by decide) rfl rfl ?_ | refine q_iinc (pc := 254) [_, _, _, _, _, _, _, _] (1) rfl rfl (by decide) rfl ?_
                      refine q_goto (pc := 257) rfl ?_
                      first
                      | (have ih := m_tellL2 hd hl hq hp h36 hk h9 T0 e71 e72 kk k0 (i + 1) (by omega) h _ H N g (some (.int (nI 1)))
                         rw [show bset (alK C E β p (72 + 4 * p + 1) F n0) (i + 1) = bset (alK C E β p (72 + 4 * p + 1) F n0) i ||| 2 ^ i from bset_t hw] at ih
                         exact ih)
                      | (have ih := m_tellL2 hd hl hq hp h36 hk h9 T0 e71 e72 kk k0 (i + 1) (by omega) h _ H N g (some (.int (nI 0)))
                         rw [show bset (alK C E β p (72 + 4 * p + 1) F n0) (i + 1) = bset (alK C E β p (72 + 4 * p + 1) F n0) i from bset_f hw, show bset (alK C E β p (72 + 4 * p + 1) F n0) i = bset (alK C E β p (72 + 4 * p + 1) F n0) i ||| 0 from (Nat.or_zero _).symm] at ih
                         exact ih)
              · have hw : (alK C E β p (72 + 4 * p + 1) F n0) i = true := hal.mp h226
                first
                | (exfalso; omega (config := {splitDisjunctions := false}))
                | exact absurd rfl h226
                | skip
                  refine q_iconst (pc := 229) rfl (nI 1) (by decide) ?_
                  refine q_goto (pc := 230) rfl ?_
                  refine q_istore (pc := 234) [_, _, _, _, _, _, _, _] rfl (Nat.le_of_ble_eq_true rfl) rfl ?_
                  refine q_iload (pc := 236) rfl rfl ?_
                  refine q_iload (pc := 238) rfl rfl ?_
                  first | refine n_ifeq (pc := 240) rfl (by omega) (fun h240 => ?_) (fun h240 => ?_) | refine q_ifeq (pc := 240) rfl (fun h240 => ?_) (fun h240 => ?_)
                  · first
                    | (exfalso; omega (config := {splitDisjunctions := false}))
                    | exact absurd rfl h240
                    | skip
                      refine q_iconst (pc := 250) rfl (nI 0) (by decide) ?_
                      refine n_ior (pc := 251) rfl ?_
                      refine q_istore (pc := 252) [_, _, _, _, _, _, _, _] rfl (Nat.le_of_ble_eq_true rfl) rfl ?_
                      first | refine n_iinc (pc := 254) rfl [_, _, _, _, _, _, _, _] 1 (by decide) rfl rfl ?_ | refine q_iinc (pc := 254) [_, _, _, _, _, _, _, _] (1) rfl rfl (by decide) rfl ?_
                      refine q_goto (pc := 257) rfl ?_
                      first
                      | (have ih := m_tellL2 hd hl hq hp h36 hk h9 T0 e71 e72 kk k0 (i + 1) (by omega) h _ H N g (some (.int (nI 1)))
                         rw [show bset (alK C E β p (72 + 4 * p + 1) F n0) (i + 1) = bset (alK C E β p (72 + 4 * p + 1) F n0) i ||| 2 ^ i from bset_t hw] at ih
                         exact ih)
                      | (have ih := m_tellL2 hd hl hq hp h36 hk h9 T0 e71 e72 kk k0 (i + 1) (by omega) h _ H N g (some (.int (nI 0)))
                         rw [show bset (alK C E β p (72 + 4 * p + 1) F n0) (i + 1) = bset (alK C E β p (72 + 4 * p + 1) F n0) i from bset_f hw, show bset (alK C E β p (72 + 4 * p + 1) F n0) i = bset (alK C E β p (72 + 4 * p + 1) F n0) i ||| 0 from (Nat.or_zero _).symm] at ih
                         exact ih)
                  · first
                    | (exfalso; omega (config := {splitDisjunctions := false}))
                    | exact absurd rfl h240
                    | skip
                      refine q_iconst (pc := 243) rfl (nI 1) (by decide) ?_
                      refine q_iload (pc := 244) rfl rfl ?_
                      refine n_ishl1 (pc := 246) rfl (by omega) ?_
                      refine q_goto (pc := 247) rfl ?_
                      refine n_ior (pc := 251) rfl ?_
                      refine q_istore (pc := 252) [_, _, _, _, _, _, _, _] rfl (Nat.le_of_ble_eq_true rfl) rfl ?_
                      first | refine n_iinc (pc := 254) rfl [_, _, _, _, _, _, _, _] 1 (by decide) rfl rfl ?_ | refine q_iinc (pc := 254) [_, _, _, _, _, _, _, _] (1) rfl rfl (by decide) rfl ?_
                      refine q_goto (pc := 257) rfl ?_
                      first
                      | (have ih := m_tellL2 hd hl hq hp h36 hk h9 T0 e71 e72 kk k0 (i + 1) (by omega) h _ H N g (some (.int (nI 1)))
                         rw [show bset (alK C E β p (72 + 4 * p + 1) F n0) (i + 1) = bset (alK C E β p (72 + 4 * p + 1) F n0) i ||| 2 ^ i from bset_t hw] at ih
                         exact ih)
                      | (have ih := m_tellL2 hd hl hq hp h36 hk h9 T0 e71 e72 kk k0 (i + 1) (by omega) h _ H N g (some (.int (nI 0)))
                         rw [show bset (alK C E β p (72 + 4 * p + 1) F n0) (i + 1) = bset (alK C E β p (72 + 4 * p + 1) F n0) i from bset_f hw, show bset (alK C E β p (72 + 4 * p + 1) F n0) i = bset (alK C E β p (72 + 4 * p + 1) F n0) i ||| 0 from (Nat.or_zero _).symm] at ih
                         exact ih)
            · first | (exfalso; omega) | exact absurd h207 (nI_pos (by omega)) | exact absurd (nI_pos' (by omega)) h207
          · first | (exfalso; omega) | exact absurd h189 (nI_pos (by omega)) | exact absurd (nI_pos' (by omega)) h189
      · first | (exfalso; omega) | exact absurd h153 (nI_pos (by omega)) | exact absurd (nI_pos' (by omega)) h153
termination_by k0
theorem m_tellL5 {q n0 n : Nat} (hd : 9 ≤ d) (hl : 75 ≤ P.1) (hq : q < 4) (hp : p < 4) (h36 : n0 ≤ 36) (hk : bok β n) (h9 : β 89 ≤ 999) {F : Nat → Int32} {s0 : mx_St} (T0 : MT s0 n C E) (e71 : s0 71 q = nI n0) (e72 : ∀ i, i < 40 → s0 72 (40 * q + i) = F i) (kk : ∀ h' s', HR P h' s' → gf tlS tF s0 s' → NW s' β → Q (some (.int (nI (bset (alK C E β p (90) F n0) (n))))) h') (k0 i : Nat) (hi : i + k0 = n) (h : mx_H) (s : mx_St) (H : HR P h s) (N : NW s β) (f : gf tlS tF s0 s) (z7 : Option Value) : wq d 205 138 [some (.ref 54), some (.int (nI q)), some (.int (nI p)), some (.int (nI 5)), some (.int (nI (n))), some (.int (nI (bset (alK C E β p (90) F n0) i))), some (.int (nI i)), z7] [] h Q := by
  obtain ⟨kp1, kp2, kp3, kp4⟩ := hk.2.1 p hp
  have T : MT s n C E := T0.fr (f.mf (fun i g => by unfold tlS at g; unfold mS; omega) (by unfold tF; omega))
  have hn6 := T.2.1
  match k0, hi with
  | 0, hi =>
    obtain rfl : i = n := by omega
    refine q_iload (pc := 138) rfl rfl ?_
    refine q_iload (pc := 140) rfl rfl ?_
    first | refine n_icmpge (pc := 142) rfl (by omega) (by omega) (fun h142 => ?_) (fun h142 => ?_) | refine q_icmpge (pc := 142) rfl (fun h142 => ?_) (fun h142 => ?_)
    · refine q_iload (pc := 260) rfl rfl ?_
      refine q_iret (pc := 262) rfl (rfl) ?_
      exact kk _ _ H f N
    · first | (exfalso; omega) | exact absurd h142 (nI_pos (by omega)) | exact absurd (nI_pos' (by omega)) h142
  | k0 + 1, hi =>
    refine q_iload (pc := 138) rfl rfl ?_
    refine q_iload (pc := 140) rfl rfl ?_
    first | refine n_icmpge (pc := 142) rfl (by omega) (by omega) (fun h142 => ?_) (fun h142 => ?_) | refine q_icmpge (pc := 142) rfl (fun h142 => ?_) (fun h142 => ?_)
    · first | (exfalso; omega) | exact absurd h142 (nI_pos (by omega)) | exact absurd (nI_pos' (by omega)) h142
    · refine q_aload_n (pc := 145) rfl rfl rfl ?_
      refine q_iload_n (pc := 146) rfl rfl ?_
      refine q_callV (pc := 147) _ rfl rfl rfl (by exact HR.c H hl _ rfl) rfl (Nat.le_of_ble_eq_true rfl) (by omega) _ rfl ?_
      refine m_take H hl N hp ?_
      intro h s1 H f1 f1a tk
      have N := N.tf f1
      have T := T.fr (tf_mf f1)
      have g1 : gf tlS tF s0 s1 := f.tr ((tf_gf f1).mono (fun i g => by unfold tS at g; unfold tlS; omega) (fun i g => g))
      refine q_aload_n (pc := 150) rfl rfl rfl ?_
      refine q_iload_n (pc := 151) rfl rfl ?_
      refine q_iconst (pc := 152) rfl (nI 1) (by decide) ?_
      first | refine n_icmpne (pc := 153) rfl (by omega) (by omega) (fun h153 => ?_) (fun h153 => ?_) | refine q_icmpne (pc := 153) rfl (fun h153 => ?_) (fun h153 => ?_)
      · refine q_aload_n (pc := 161) rfl rfl rfl ?_
        refine q_getf (pc := 162) rfl (by exact HR.c H hl _ rfl) rfl rfl ?_
        refine r_pf2 (pc := 165) (i := 18) rfl H hl rfl rfl rfl rfl (Nat.le_of_ble_eq_true rfl) rfl rfl ?_
        intro h H
        refine q_aload_n (pc := 168) rfl rfl rfl ?_
        refine q_iload_n (pc := 169) rfl rfl ?_
        refine q_iconst (pc := 170) rfl (nI 2) (by decide) ?_
        first | refine n_icmpne (pc := 171) rfl (by omega) (by omega) (fun h171 => ?_) (fun h171 => ?_) | refine q_icmpne (pc := 171) rfl (fun h171 => ?_) (fun h171 => ?_)
        · refine q_aload_n (pc := 179) rfl rfl rfl ?_
          refine q_getf (pc := 180) rfl (by exact HR.c H hl _ rfl) rfl rfl ?_
          refine r_pf2 (pc := 183) (i := 19) rfl H hl rfl rfl rfl rfl (Nat.le_of_ble_eq_true rfl) rfl rfl ?_
          intro h H
          refine q_aload_n (pc := 186) rfl rfl rfl ?_
          refine q_iload_n (pc := 187) rfl rfl ?_
          refine q_iconst (pc := 188) rfl (nI 5) (by decide) ?_
          first | refine n_icmpne (pc := 189) rfl (by omega) (by omega) (fun h189 => ?_) (fun h189 => ?_) | refine q_icmpne (pc := 189) rfl (fun h189 => ?_) (fun h189 => ?_)
          · first | (exfalso; omega) | exact absurd h189 (nI_pos (by omega)) | exact absurd (nI_pos' (by omega)) h189
          · refine q_iload (pc := 192) rfl rfl ?_
            refine q_goto (pc := 194) rfl ?_
            refine r_pf2 (pc := 201) (i := 20) rfl H hl rfl rfl rfl rfl (Nat.le_of_ble_eq_true rfl) rfl rfl ?_
            intro h H
            have g2 : gf tlS tF s1 (stv (stv (stv s1 54 18 (s1 54 18)) 54 19 (stv s1 54 18 (s1 54 18) 54 19)) 54 20 (nI i)) := ((gf.fd (Or.inl rfl) (by unfold tF; omega)).tr (gf.fd (Or.inl rfl) (by unfold tF; omega))).tr (gf.fd (Or.inl rfl) (by unfold tF; omega))
            have tk : TKN (stv (stv (stv s1 54 18 (s1 54 18)) 54 19 (stv s1 54 18 (s1 54 18) 54 19)) 54 20 (nI i)) (β (72 + 4 * p)) (β (72 + 4 * p + 1)) i := TKN.put tk.1 ((stv_o (by decide)).trans tk.2.1) rfl
            have N := N.fr (s' := (stv (stv (stv s1 54 18 (s1 54 18)) 54 19 (stv s1 54 18 (s1 54 18) 54 19)) 54 20 (nI i))) (S := fun i => i = 54) (((sf.rf.st (by rfl)).st (by rfl)).st (by rfl)) (by decide)
            have g := g1.tr g2
            have T := T.fr (g2.mf (fun i g => by unfold tlS at g; unfold mS; omega) (by unfold tF; omega))
            refine q_iload_n (pc := 204) rfl rfl ?_
            refine q_bipush (pc := 205) rfl (nI 6) (by decide) ?_
            first | refine n_icmpne (pc := 207) rfl (by omega) (by omega) (fun h207 => ?_) (fun h207 => ?_) | refine q_icmpne (pc := 207) rfl (fun h207 => ?_) (fun h207 => ?_)
            · refine q_aload_n (pc := 220) rfl rfl rfl ?_
              refine q_iload_n (pc := 221) rfl rfl ?_
              refine q_callV (pc := 222) _ rfl rfl rfl (by exact HR.c H hl _ rfl) rfl (Nat.le_of_ble_eq_true rfl) (by omega) _ rfl ?_
              refine m_other (by omega) H hl N hq h36 hk.1 T tk (by omega) (by omega) (by first | exact hk.2.2.2.2 | omega) ((congrFun (g.1 71 (by unfold tlS; decide)) _).trans e71) (fun i hi => (congrFun (g.1 72 (by unfold tlS; decide)) _).trans (e72 i hi)) ?_
              intro h s2 H f2
              have N := N.fr f2 (by decide)
              have g := g.tr (gf.of f2 (fun i g => by unfold tlS; omega) (by decide))
              have hal : foV (lyG C E β (β (72 + 4 * p)) (β (72 + 4 * p + 1)) i) F n0 = -1 ↔ (alK C E β p (90) F n0) i = true := by
                rw [← alK_t h36 hp]
                exact foV_m (by omega)
              refine q_iconst (pc := 225) rfl (-1) (by decide) ?_
              refine q_icmpne (pc := 226) rfl (fun h226 => ?_) (fun h226 => ?_)
              · have hw : (alK C E β p (90) F n0) i = false := Bool.eq_false_iff.mpr (fun e => h226 (hal.mpr e))
                first
                | (exfalso; omega (config := {splitDisjunctions := false}))
                | exact absurd rfl h226
                | skip
                  refine q_iconst (pc := 233) rfl (nI 0) (by decide) ?_
                  refine q_istore (pc := 234) [_, _, _, _, _, _, _, _] rfl (Nat.le_of_ble_eq_true rfl) rfl ?_
                  refine q_iload (pc := 236) rfl rfl ?_
                  refine q_iload (pc := 238) rfl rfl ?_
                  first | refine n_ifeq (pc := 240) rfl (by omega) (fun h240 => ?_) (fun h240 => ?_) | refine q_ifeq (pc := 240) rfl (fun h240 => ?_) (fun h240 => ?_)
                  · first
                    | (exfalso; omega (config := {splitDisjunctions := false}))
                    | exact absurd rfl h240
                    | skip
                      refine q_iconst (pc := 250) rfl (nI 0) (by decide) ?_
                      refine n_ior (pc := 251) rfl ?_
                      refine q_istore (pc := 252) [_, _, _, _, _, _, _, _] rfl (Nat.le_of_ble_eq_true rfl) rfl ?_
                      first | refine n_iinc (pc := 254) rfl [_, _, _, _, _, _, _, _] 1 (by decide) rfl rfl ?_ | refine q_iinc (pc := 254) [_, _, _, _, _, _, _, _] (1) rfl rfl (by decide) rfl ?_
                      refine q_goto (pc := 257) rfl ?_
                      first
                      | (have ih := m_tellL5 hd hl hq hp h36 hk h9 T0 e71 e72 kk k0 (i + 1) (by omega) h _ H N g (some (.int (nI 1)))
                         rw [show bset (alK C E β p (90) F n0) (i + 1) = bset (alK C E β p (90) F n0) i ||| 2 ^ i from bset_t hw] at ih
                         exact ih)
                      | (have ih := m_tellL5 hd hl hq hp h36 hk h9 T0 e71 e72 kk k0 (i + 1) (by omega) h _ H N g (some (.int (nI 0)))
                         rw [show bset (alK C E β p (90) F n0) (i + 1) = bset (alK C E β p (90) F n0) i from bset_f hw, show bset (alK C E β p (90) F n0) i = bset (alK C E β p (90) F n0) i ||| 0 from (Nat.or_zero _).symm] at ih
                         exact ih)
                  · first
                    | (exfalso; omega (config := {splitDisjunctions := false}))
                    | exact absurd rfl h240
                    | skip
                      refine q_iconst (pc := 243) rfl (nI 1) (by decide) ?_
                      refine q_iload (pc := 244) rfl rfl ?_
                      refine n_ishl1 (pc := 246) rfl (by omega) ?_
                      refine q_goto (pc := 247) rfl ?_
                      refine n_ior (pc := 251) rfl ?_
                      refine q_istore (pc := 252) [_, _, _, _, _, _, _, _] rfl (Nat.le_of_ble_eq_true rfl) rfl ?_
                      first | refine n_iinc (pc := 254) rfl [_, _, _, _, _, _, _, _] 1 (by decide) rfl rfl ?_ | refine q_iinc (pc := 254) [_, _, _, _, _, _, _, _] (1) rfl rfl (by decide) rfl ?_
                      refine q_goto (pc := 257) rfl ?_
                      first
                      | (have ih := m_tellL5 hd hl hq hp h36 hk h9 T0 e71 e72 kk k0 (i + 1) (by omega) h _ H N g (some (.int (nI 1)))
                         rw [show bset (alK C E β p (90) F n0) (i + 1) = bset (alK C E β p (90) F n0) i ||| 2 ^ i from bset_t hw] at ih
                         exact ih)
                      | (have ih := m_tellL5 hd hl hq hp h36 hk h9 T0 e71 e72 kk k0 (i + 1) (by omega) h _ H N g (some (.int (nI 0)))
                         rw [show bset (alK C E β p (90) F n0) (i + 1) = bset (alK C E β p (90) F n0) i from bset_f hw, show bset (alK C E β p (90) F n0) i = bset (alK C E β p (90) F n0) i ||| 0 from (Nat.or_zero _).symm] at ih
                         exact ih)
              · have hw : (alK C E β p (90) F n0) i = true := hal.mp h226
                first
                | (exfalso; omega (config := {splitDisjunctions := false}))
                | exact absurd rfl h226
                | skip
                  refine q_iconst (pc := 229) rfl (nI 1) (by decide) ?_
                  refine q_goto (pc := 230) rfl ?_
                  refine q_istore (pc := 234) [_, _, _, _, _, _, _, _] rfl (Nat.le_of_ble_eq_true rfl) rfl ?_
                  refine q_iload (pc := 236) rfl rfl ?_
                  refine q_iload (pc := 238) rfl rfl ?_
                  first | refine n_ifeq (pc := 240) rfl (by omega) (fun h240 => ?_) (fun h240 => ?_) | refine q_ifeq (pc := 240) rfl (fun h240 => ?_) (fun h240 => ?_)
                  · first
                    | (exfalso; omega (config := {splitDisjunctions := false}))
                    | exact absurd rfl h240
                    | skip
                      refine q_iconst (pc := 250) rfl (nI 0) (by decide) ?_
                      refine n_ior (pc := 251) rfl ?_
                      refine q_istore (pc := 252) [_, _, _, _, _, _, _, _] rfl (Nat.le_of_ble_eq_true rfl) rfl ?_
                      first | refine n_iinc (pc := 254) rfl [_, _, _, _, _, _, _, _] 1 (by decide) rfl rfl ?_ | refine q_iinc (pc := 254) [_, _, _, _, _, _, _, _] (1) rfl rfl (by decide) rfl ?_
                      refine q_goto (pc := 257) rfl ?_
                      first
                      | (have ih := m_tellL5 hd hl hq hp h36 hk h9 T0 e71 e72 kk k0 (i + 1) (by omega) h _ H N g (some (.int (nI 1)))
                         rw [show bset (alK C E β p (90) F n0) (i + 1) = bset (alK C E β p (90) F n0) i ||| 2 ^ i from bset_t hw] at ih
                         exact ih)
                      | (have ih := m_tellL5 hd hl hq hp h36 hk h9 T0 e71 e72 kk k0 (i + 1) (by omega) h _ H N g (some (.int (nI 0)))
                         rw [show bset (alK C E β p (90) F n0) (i + 1) = bset (alK C E β p (90) F n0) i from bset_f hw, show bset (alK C E β p (90) F n0) i = bset (alK C E β p (90) F n0) i ||| 0 from (Nat.or_zero _).symm] at ih
                         exact ih)
                  · first
                    | (exfalso; omega (config := {splitDisjunctions := false}))
                    | exact absurd rfl h240
                    | skip
                      refine q_iconst (pc := 243) rfl (nI 1) (by decide) ?_
                      refine q_iload (pc := 244) rfl rfl ?_
                      refine n_ishl1 (pc := 246) rfl (by omega) ?_
                      refine q_goto (pc := 247) rfl ?_
                      refine n_ior (pc := 251) rfl ?_
                      refine q_istore (pc := 252) [_, _, _, _, _, _, _, _] rfl (Nat.le_of_ble_eq_true rfl) rfl ?_
                      first | refine n_iinc (pc := 254) rfl [_, _, _, _, _, _, _, _] 1 (by decide) rfl rfl ?_ | refine q_iinc (pc := 254) [_, _, _, _, _, _, _, _] (1) rfl rfl (by decide) rfl ?_
                      refine q_goto (pc := 257) rfl ?_
                      first
                      | (have ih := m_tellL5 hd hl hq hp h36 hk h9 T0 e71 e72 kk k0 (i + 1) (by omega) h _ H N g (some (.int (nI 1)))
                         rw [show bset (alK C E β p (90) F n0) (i + 1) = bset (alK C E β p (90) F n0) i ||| 2 ^ i from bset_t hw] at ih
                         exact ih)
                      | (have ih := m_tellL5 hd hl hq hp h36 hk h9 T0 e71 e72 kk k0 (i + 1) (by omega) h _ H N g (some (.int (nI 0)))
                         rw [show bset (alK C E β p (90) F n0) (i + 1) = bset (alK C E β p (90) F n0) i from bset_f hw, show bset (alK C E β p (90) F n0) i = bset (alK C E β p (90) F n0) i ||| 0 from (Nat.or_zero _).symm] at ih
                         exact ih)
            · first | (exfalso; omega) | exact absurd h207 (nI_pos (by omega)) | exact absurd (nI_pos' (by omega)) h207
        · first | (exfalso; omega) | exact absurd h171 (nI_pos (by omega)) | exact absurd (nI_pos' (by omega)) h171
      · first | (exfalso; omega) | exact absurd h153 (nI_pos (by omega)) | exact absurd (nI_pos' (by omega)) h153
termination_by k0
theorem m_tellL6 {q n0 n : Nat} (hd : 9 ≤ d) (hl : 75 ≤ P.1) (hq : q < 4) (hp : p < 4) (h36 : n0 ≤ 36) (hk : bok β n) (h9 : β 89 ≤ 999) {F : Nat → Int32} {s0 : mx_St} (T0 : MT s0 n C E) (e71 : s0 71 q = nI n0) (e72 : ∀ i, i < 40 → s0 72 (40 * q + i) = F i) (kk : ∀ h' s', HR P h' s' → gf tlS tF s0 s' → NW s' β → Q (some (.int (nI (bset (bhB C E β F n0) (7))))) h') (k0 i : Nat) (hi : i + k0 = 7) (h : mx_H) (s : mx_St) (H : HR P h s) (N : NW s β) (f : gf tlS tF s0 s) (z7 : Option Value) : wq d 205 138 [some (.ref 54), some (.int (nI q)), some (.int (nI p)), some (.int (nI 6)), some (.int (nI (7))), some (.int (nI (bset (bhB C E β F n0) i))), some (.int (nI i)), z7] [] h Q := by
  obtain ⟨kp1, kp2, kp3, kp4⟩ := hk.2.1 p hp
  have T : MT s n C E := T0.fr (f.mf (fun i g => by unfold tlS at g; unfold mS; omega) (by unfold tF; omega))
  have hn6 := T.2.1
  match k0, hi with
  | 0, hi =>
    obtain rfl : i = 7 := by omega
    refine q_iload (pc := 138) rfl rfl ?_
    refine q_iload (pc := 140) rfl rfl ?_
    first | refine n_icmpge (pc := 142) rfl (by omega) (by omega) (fun h142 => ?_) (fun h142 => ?_) | refine q_icmpge (pc := 142) rfl (fun h142 => ?_) (fun h142 => ?_)
    · refine q_iload (pc := 260) rfl rfl ?_
      refine q_iret (pc := 262) rfl (rfl) ?_
      exact kk _ _ H f N
    · first | (exfalso; omega) | exact absurd h142 (nI_pos (by omega)) | exact absurd (nI_pos' (by omega)) h142
  | k0 + 1, hi =>
    refine q_iload (pc := 138) rfl rfl ?_
    refine q_iload (pc := 140) rfl rfl ?_
    first | refine n_icmpge (pc := 142) rfl (by omega) (by omega) (fun h142 => ?_) (fun h142 => ?_) | refine q_icmpge (pc := 142) rfl (fun h142 => ?_) (fun h142 => ?_)
    · first | (exfalso; omega) | exact absurd h142 (nI_pos (by omega)) | exact absurd (nI_pos' (by omega)) h142
    · refine q_aload_n (pc := 145) rfl rfl rfl ?_
      refine q_iload_n (pc := 146) rfl rfl ?_
      refine q_callV (pc := 147) _ rfl rfl rfl (by exact HR.c H hl _ rfl) rfl (Nat.le_of_ble_eq_true rfl) (by omega) _ rfl ?_
      refine m_take H hl N hp ?_
      intro h s1 H f1 f1a tk
      have N := N.tf f1
      have T := T.fr (tf_mf f1)
      have g1 : gf tlS tF s0 s1 := f.tr ((tf_gf f1).mono (fun i g => by unfold tS at g; unfold tlS; omega) (fun i g => g))
      refine q_aload_n (pc := 150) rfl rfl rfl ?_
      refine q_iload_n (pc := 151) rfl rfl ?_
      refine q_iconst (pc := 152) rfl (nI 1) (by decide) ?_
      first | refine n_icmpne (pc := 153) rfl (by omega) (by omega) (fun h153 => ?_) (fun h153 => ?_) | refine q_icmpne (pc := 153) rfl (fun h153 => ?_) (fun h153 => ?_)
      · refine q_aload_n (pc := 161) rfl rfl rfl ?_
        refine q_getf (pc := 162) rfl (by exact HR.c H hl _ rfl) rfl rfl ?_
        refine r_pf2 (pc := 165) (i := 18) rfl H hl rfl rfl rfl rfl (Nat.le_of_ble_eq_true rfl) rfl rfl ?_
        intro h H
        refine q_aload_n (pc := 168) rfl rfl rfl ?_
        refine q_iload_n (pc := 169) rfl rfl ?_
        refine q_iconst (pc := 170) rfl (nI 2) (by decide) ?_
        first | refine n_icmpne (pc := 171) rfl (by omega) (by omega) (fun h171 => ?_) (fun h171 => ?_) | refine q_icmpne (pc := 171) rfl (fun h171 => ?_) (fun h171 => ?_)
        · refine q_aload_n (pc := 179) rfl rfl rfl ?_
          refine q_getf (pc := 180) rfl (by exact HR.c H hl _ rfl) rfl rfl ?_
          refine r_pf2 (pc := 183) (i := 19) rfl H hl rfl rfl rfl rfl (Nat.le_of_ble_eq_true rfl) rfl rfl ?_
          intro h H
          refine q_aload_n (pc := 186) rfl rfl rfl ?_
          refine q_iload_n (pc := 187) rfl rfl ?_
          refine q_iconst (pc := 188) rfl (nI 5) (by decide) ?_
          first | refine n_icmpne (pc := 189) rfl (by omega) (by omega) (fun h189 => ?_) (fun h189 => ?_) | refine q_icmpne (pc := 189) rfl (fun h189 => ?_) (fun h189 => ?_)
          · refine q_aload_n (pc := 197) rfl rfl rfl ?_
            refine q_getf (pc := 198) rfl (by exact HR.c H hl _ rfl) rfl rfl ?_
            refine r_pf2 (pc := 201) (i := 20) rfl H hl rfl rfl rfl rfl (Nat.le_of_ble_eq_true rfl) rfl rfl ?_
            intro h H
            have g2 : gf tlS tF s1 (stv (stv (stv s1 54 18 (s1 54 18)) 54 19 (stv s1 54 18 (s1 54 18) 54 19)) 54 20 (stv (stv s1 54 18 (s1 54 18)) 54 19 (stv s1 54 18 (s1 54 18) 54 19) 54 20)) := ((gf.fd (Or.inl rfl) (by unfold tF; omega)).tr (gf.fd (Or.inl rfl) (by unfold tF; omega))).tr (gf.fd (Or.inl rfl) (by unfold tF; omega))
            have tk : TKN (stv (stv (stv s1 54 18 (s1 54 18)) 54 19 (stv s1 54 18 (s1 54 18) 54 19)) 54 20 (stv (stv s1 54 18 (s1 54 18)) 54 19 (stv s1 54 18 (s1 54 18) 54 19) 54 20)) (β (72 + 4 * p)) (β (72 + 4 * p + 1)) (β 90) := TKN.put tk.1 ((stv_o (by decide)).trans tk.2.1) ((stv_o (by decide)).trans ((stv_o (by decide)).trans tk.2.2))
            have N := N.fr (s' := (stv (stv (stv s1 54 18 (s1 54 18)) 54 19 (stv s1 54 18 (s1 54 18) 54 19)) 54 20 (stv (stv s1 54 18 (s1 54 18)) 54 19 (stv s1 54 18 (s1 54 18) 54 19) 54 20))) (S := fun i => i = 54) (((sf.rf.st (by rfl)).st (by rfl)).st (by rfl)) (by decide)
            have g := g1.tr g2
            have T := T.fr (g2.mf (fun i g => by unfold tlS at g; unfold mS; omega) (by unfold tF; omega))
            refine q_iload_n (pc := 204) rfl rfl ?_
            refine q_bipush (pc := 205) rfl (nI 6) (by decide) ?_
            first | refine n_icmpne (pc := 207) rfl (by omega) (by omega) (fun h207 => ?_) (fun h207 => ?_) | refine q_icmpne (pc := 207) rfl (fun h207 => ?_) (fun h207 => ?_)
            · first | (exfalso; omega) | exact absurd h207 (nI_pos (by omega)) | exact absurd (nI_pos' (by omega)) h207
            · refine q_aload_n (pc := 210) rfl rfl rfl ?_
              refine q_iload_n (pc := 211) rfl rfl ?_
              refine q_iload (pc := 212) rfl rfl ?_
              refine q_callV (pc := 214) _ rfl rfl rfl (by exact HR.c H hl _ rfl) rfl (Nat.le_of_ble_eq_true rfl) (by omega) _ rfl ?_
              refine m_isBeh (by omega) H hl N hq h36 hk h9 T (by omega) ((congrFun (g.1 71 (by unfold tlS; decide)) _).trans e71) (fun i hi => (congrFun (g.1 72 (by unfold tlS; decide)) _).trans (e72 i hi)) ?_
              intro h s2 H f2 N
              have g := g.tr (f2.mono (fun i g => by unfold bS at g; unfold tlS; omega) (fun i g => by unfold fF at g; unfold tF; omega))
              have hz : (bhB C E β F n0 i).toNat = 0 ∨ (bhB C E β F n0 i).toNat = 1 := by cases bhB C E β F n0 i <;> simp
              refine q_goto (pc := 217) rfl ?_
              refine q_istore (pc := 234) [_, _, _, _, _, _, _, _] rfl (Nat.le_of_ble_eq_true rfl) rfl ?_
              refine q_iload (pc := 236) rfl rfl ?_
              refine q_iload (pc := 238) rfl rfl ?_
              refine q_ifeq (pc := 240) rfl (fun h240 => ?_) (fun h240 => ?_)
              · have hw : (bhB C E β F n0) i = false := by
                  cases e : (bhB C E β F n0) i
                  · rfl
                  · rw [e] at h240
                    exact absurd h240 (by decide)
                first
                | (exfalso; omega (config := {splitDisjunctions := false}))
                | exact absurd rfl h240
                | skip
                  refine q_iconst (pc := 250) rfl (nI 0) (by decide) ?_
                  refine n_ior (pc := 251) rfl ?_
                  refine q_istore (pc := 252) [_, _, _, _, _, _, _, _] rfl (Nat.le_of_ble_eq_true rfl) rfl ?_
                  first | refine n_iinc (pc := 254) rfl [_, _, _, _, _, _, _, _] 1 (by decide) rfl rfl ?_ | refine q_iinc (pc := 254) [_, _, _, _, _, _, _, _] (1) rfl rfl (by decide) rfl ?_
                  refine q_goto (pc := 257) rfl ?_
                  first
                  | (have ih := m_tellL6 hd hl hq hp h36 hk h9 T0 e71 e72 kk k0 (i + 1) (by omega) h _ H N g (some (.int (nI (bhB C E β F n0 i).toNat)))
                     rw [show bset (bhB C E β F n0) (i + 1) = bset (bhB C E β F n0) i ||| 2 ^ i from bset_t hw] at ih
                     exact ih)
                  | (have ih := m_tellL6 hd hl hq hp h36 hk h9 T0 e71 e72 kk k0 (i + 1) (by omega) h _ H N g (some (.int (nI (bhB C E β F n0 i).toNat)))
                     rw [show bset (bhB C E β F n0) (i + 1) = bset (bhB C E β F n0) i from bset_f hw, show bset (bhB C E β F n0) i = bset (bhB C E β F n0) i ||| 0 from (Nat.or_zero _).symm] at ih
                     exact ih)
              · have hw : (bhB C E β F n0) i = true := by
                  cases e : (bhB C E β F n0) i
                  · rw [e] at h240
                    exact absurd rfl h240
                  · rfl
                first
                | (exfalso; omega (config := {splitDisjunctions := false}))
                | exact absurd rfl h240
                | skip
                  refine q_iconst (pc := 243) rfl (nI 1) (by decide) ?_
                  refine q_iload (pc := 244) rfl rfl ?_
                  refine n_ishl1 (pc := 246) rfl (by omega) ?_
                  refine q_goto (pc := 247) rfl ?_
                  refine n_ior (pc := 251) rfl ?_
                  refine q_istore (pc := 252) [_, _, _, _, _, _, _, _] rfl (Nat.le_of_ble_eq_true rfl) rfl ?_
                  first | refine n_iinc (pc := 254) rfl [_, _, _, _, _, _, _, _] 1 (by decide) rfl rfl ?_ | refine q_iinc (pc := 254) [_, _, _, _, _, _, _, _] (1) rfl rfl (by decide) rfl ?_
                  refine q_goto (pc := 257) rfl ?_
                  first
                  | (have ih := m_tellL6 hd hl hq hp h36 hk h9 T0 e71 e72 kk k0 (i + 1) (by omega) h _ H N g (some (.int (nI (bhB C E β F n0 i).toNat)))
                     rw [show bset (bhB C E β F n0) (i + 1) = bset (bhB C E β F n0) i ||| 2 ^ i from bset_t hw] at ih
                     exact ih)
                  | (have ih := m_tellL6 hd hl hq hp h36 hk h9 T0 e71 e72 kk k0 (i + 1) (by omega) h _ H N g (some (.int (nI (bhB C E β F n0 i).toNat)))
                     rw [show bset (bhB C E β F n0) (i + 1) = bset (bhB C E β F n0) i from bset_f hw, show bset (bhB C E β F n0) i = bset (bhB C E β F n0) i ||| 0 from (Nat.or_zero _).symm] at ih
                     exact ih)
          · first | (exfalso; omega) | exact absurd h189 (nI_pos (by omega)) | exact absurd (nI_pos' (by omega)) h189
        · first | (exfalso; omega) | exact absurd h171 (nI_pos (by omega)) | exact absurd (nI_pos' (by omega)) h171
      · first | (exfalso; omega) | exact absurd h153 (nI_pos (by omega)) | exact absurd (nI_pos' (by omega)) h153
termination_by k0
theorem m_tellB0 {q n0 n : Nat} (hd : 10 ≤ d) (hl : 75 ≤ P.1) (hq : q < 4) (hp : p < 4) (h36 : n0 ≤ 36) (hk : bok β n) (h9 : β 89 ≤ 999) {F : Nat → Int32} (T : MT s n C E) (e71 : s 71 q = nI n0) (e72 : ∀ i, i < 40 → s 72 (40 * q + i) = F i) (tk : TKN s (β (72 + 4 * p)) (β (72 + 4 * p + 1)) (β 90)) (H : HR P h s) (N : NW s β) (kk : ∀ h' s', HR P h' s' → gf tlS tF s s' → NW s' β → Q (some (.int (tlV C E β F n0 n p 0))) h') {z4 z5 z6 z7 : Option Value} : wq d 205 60 [some (.ref 54), some (.int (nI q)), some (.int (nI p)), some (.int (nI 0)), z4, z5, z6, z7] [] h Q := by
  obtain ⟨kp1, kp2, kp3, kp4⟩ := hk.2.1 p hp
  have hn6 := T.2.1
  refine q_iload_n (pc := 60) rfl rfl ?_
  first | refine n_ifne (pc := 61) rfl (by omega) (fun h61 => ?_) (fun h61 => ?_) | refine q_ifne (pc := 61) rfl (fun h61 => ?_) (fun h61 => ?_)
  · first | (exfalso; omega) | exact absurd h61 (nI_pos (by omega)) | exact absurd (nI_pos' (by omega)) h61
  · refine q_aload_n (pc := 64) rfl rfl rfl ?_
    refine q_iload_n (pc := 65) rfl rfl ?_
    refine q_callV (pc := 66) _ rfl rfl rfl (by exact HR.c H hl _ rfl) rfl (Nat.le_of_ble_eq_true rfl) (by omega) _ rfl ?_
    refine m_other (by omega) H hl N hq h36 hk.1 T tk (by omega) (by omega) hk.2.2.2.2 e71 e72 ?_
    intro h s2 H f2
    refine q_iret (pc := 69) rfl (rfl) ?_
    exact kk _ _ H (gf.of f2 (fun i g => by unfold tlS; omega) (by decide)) (N.fr f2 (by decide))
theorem m_tellB1 {q n0 n : Nat} (hd : 10 ≤ d) (hl : 75 ≤ P.1) (hq : q < 4) (hp : p < 4) (h36 : n0 ≤ 36) (hk : bok β n) (h9 : β 89 ≤ 999) {F : Nat → Int32} (T : MT s n C E) (e71 : s 71 q = nI n0) (e72 : ∀ i, i < 40 → s 72 (40 * q + i) = F i) (tk : TKN s (β (72 + 4 * p)) (β (72 + 4 * p + 1)) (β 90)) (H : HR P h s) (N : NW s β) (kk : ∀ h' s', HR P h' s' → gf tlS tF s s' → NW s' β → Q (some (.int (tlV C E β F n0 n p 1))) h') {z4 z5 z6 z7 : Option Value} : wq d 205 60 [some (.ref 54), some (.int (nI q)), some (.int (nI p)), some (.int (nI 1)), z4, z5, z6, z7] [] h Q := by
  obtain ⟨kp1, kp2, kp3, kp4⟩ := hk.2.1 p hp
  have hn6 := T.2.1
  refine q_iload_n (pc := 60) rfl rfl ?_
  first | refine n_ifne (pc := 61) rfl (by omega) (fun h61 => ?_) (fun h61 => ?_) | refine q_ifne (pc := 61) rfl (fun h61 => ?_) (fun h61 => ?_)
  · refine q_iload_n (pc := 70) rfl rfl ?_
    refine q_iconst (pc := 71) rfl (nI 3) (by decide) ?_
    first | refine n_icmpeq (pc := 72) rfl (by omega) (by omega) (fun h72 => ?_) (fun h72 => ?_) | refine q_icmpeq (pc := 72) rfl (fun h72 => ?_) (fun h72 => ?_)
    · first | (exfalso; omega) | exact absurd h72 (nI_pos (by omega)) | exact absurd (nI_pos' (by omega)) h72
    · refine q_iload_n (pc := 75) rfl rfl ?_
      refine q_iconst (pc := 76) rfl (nI 4) (by decide) ?_
      first | refine n_icmpne (pc := 77) rfl (by omega) (by omega) (fun h77 => ?_) (fun h77 => ?_) | refine q_icmpne (pc := 77) rfl (fun h77 => ?_) (fun h77 => ?_)
      · refine q_iload_n (pc := 96) rfl rfl ?_
        refine q_iconst (pc := 97) rfl (nI 1) (by decide) ?_
        first | refine n_icmpne (pc := 98) rfl (by omega) (by omega) (fun h98 => ?_) (fun h98 => ?_) | refine q_icmpne (pc := 98) rfl (fun h98 => ?_) (fun h98 => ?_)
        · first | (exfalso; omega) | exact absurd h98 (nI_pos (by omega)) | exact absurd (nI_pos' (by omega)) h98
        · refine q_bipush (pc := 101) rfl (nI 6) (by decide) ?_
          refine q_goto (pc := 103) rfl ?_
          refine q_istore (pc := 130) [_, _, _, _, _, _, _, _] rfl (Nat.le_of_ble_eq_true rfl) rfl ?_
          refine q_iconst (pc := 132) rfl (nI 0) (by decide) ?_
          refine q_istore (pc := 133) [_, _, _, _, _, _, _, _] rfl (Nat.le_of_ble_eq_true rfl) rfl ?_
          refine q_iconst (pc := 135) rfl (nI 0) (by decide) ?_
          refine q_istore (pc := 136) [_, _, _, _, _, _, _, _] rfl (Nat.le_of_ble_eq_true rfl) rfl ?_
          exact m_tellL1 (by omega) hl hq hp h36 hk h9 T e71 e72 kk _ 0 (Nat.zero_add _) h s H N gf.rf _
      · first | (exfalso; omega) | exact absurd h77 (nI_pos (by omega)) | exact absurd (nI_pos' (by omega)) h77
  · first | (exfalso; omega) | exact absurd h61 (nI_pos (by omega)) | exact absurd (nI_pos' (by omega)) h61
theorem m_tellB2 {q n0 n : Nat} (hd : 10 ≤ d) (hl : 75 ≤ P.1) (hq : q < 4) (hp : p < 4) (h36 : n0 ≤ 36) (hk : bok β n) (h9 : β 89 ≤ 999) {F : Nat → Int32} (T : MT s n C E) (e71 : s 71 q = nI n0) (e72 : ∀ i, i < 40 → s 72 (40 * q + i) = F i) (tk : TKN s (β (72 + 4 * p)) (β (72 + 4 * p + 1)) (β 90)) (H : HR P h s) (N : NW s β) (kk : ∀ h' s', HR P h' s' → gf tlS tF s s' → NW s' β → Q (some (.int (tlV C E β F n0 n p 2))) h') {z4 z5 z6 z7 : Option Value} : wq d 205 60 [some (.ref 54), some (.int (nI q)), some (.int (nI p)), some (.int (nI 2)), z4, z5, z6, z7] [] h Q := by
  obtain ⟨kp1, kp2, kp3, kp4⟩ := hk.2.1 p hp
  have hn6 := T.2.1
  refine q_iload_n (pc := 60) rfl rfl ?_
  first | refine n_ifne (pc := 61) rfl (by omega) (fun h61 => ?_) (fun h61 => ?_) | refine q_ifne (pc := 61) rfl (fun h61 => ?_) (fun h61 => ?_)
  · refine q_iload_n (pc := 70) rfl rfl ?_
    refine q_iconst (pc := 71) rfl (nI 3) (by decide) ?_
    first | refine n_icmpeq (pc := 72) rfl (by omega) (by omega) (fun h72 => ?_) (fun h72 => ?_) | refine q_icmpeq (pc := 72) rfl (fun h72 => ?_) (fun h72 => ?_)
    · first | (exfalso; omega) | exact absurd h72 (nI_pos (by omega)) | exact absurd (nI_pos' (by omega)) h72
    · refine q_iload_n (pc := 75) rfl rfl ?_
      refine q_iconst (pc := 76) rfl (nI 4) (by decide) ?_
      first | refine n_icmpne (pc := 77) rfl (by omega) (by omega) (fun h77 => ?_) (fun h77 => ?_) | refine q_icmpne (pc := 77) rfl (fun h77 => ?_) (fun h77 => ?_)
      · refine q_iload_n (pc := 96) rfl rfl ?_
        refine q_iconst (pc := 97) rfl (nI 1) (by decide) ?_
        first | refine n_icmpne (pc := 98) rfl (by omega) (by omega) (fun h98 => ?_) (fun h98 => ?_) | refine q_icmpne (pc := 98) rfl (fun h98 => ?_) (fun h98 => ?_)
        · refine q_iload_n (pc := 106) rfl rfl ?_
          refine q_iconst (pc := 107) rfl (nI 2) (by decide) ?_
          first | refine n_icmpne (pc := 108) rfl (by omega) (by omega) (fun h108 => ?_) (fun h108 => ?_) | refine q_icmpne (pc := 108) rfl (fun h108 => ?_) (fun h108 => ?_)
          · first | (exfalso; omega) | exact absurd h108 (nI_pos (by omega)) | exact absurd (nI_pos' (by omega)) h108
          · refine q_bipush (pc := 111) rfl (nI 10) (by decide) ?_
            refine q_goto (pc := 113) rfl ?_
            refine q_istore (pc := 130) [_, _, _, _, _, _, _, _] rfl (Nat.le_of_ble_eq_true rfl) rfl ?_
            refine q_iconst (pc := 132) rfl (nI 0) (by decide) ?_
            refine q_istore (pc := 133) [_, _, _, _, _, _, _, _] rfl (Nat.le_of_ble_eq_true rfl) rfl ?_
            refine q_iconst (pc := 135) rfl (nI 0) (by decide) ?_
            refine q_istore (pc := 136) [_, _, _, _, _, _, _, _] rfl (Nat.le_of_ble_eq_true rfl) rfl ?_
            exact m_tellL2 (by omega) hl hq hp h36 hk h9 T e71 e72 kk _ 0 (Nat.zero_add _) h s H N gf.rf _
        · first | (exfalso; omega) | exact absurd h98 (nI_pos (by omega)) | exact absurd (nI_pos' (by omega)) h98
      · first | (exfalso; omega) | exact absurd h77 (nI_pos (by omega)) | exact absurd (nI_pos' (by omega)) h77
  · first | (exfalso; omega) | exact absurd h61 (nI_pos (by omega)) | exact absurd (nI_pos' (by omega)) h61
theorem m_tellB3 {q n0 n : Nat} (hd : 10 ≤ d) (hl : 75 ≤ P.1) (hq : q < 4) (hp : p < 4) (h36 : n0 ≤ 36) (hk : bok β n) (h9 : β 89 ≤ 999) {F : Nat → Int32} (T : MT s n C E) (e71 : s 71 q = nI n0) (e72 : ∀ i, i < 40 → s 72 (40 * q + i) = F i) (tk : TKN s (β (72 + 4 * p)) (β (72 + 4 * p + 1)) (β 90)) (H : HR P h s) (N : NW s β) (kk : ∀ h' s', HR P h' s' → gf tlS tF s s' → NW s' β → Q (some (.int (tlV C E β F n0 n p 3))) h') {z4 z5 z6 z7 : Option Value} : wq d 205 60 [some (.ref 54), some (.int (nI q)), some (.int (nI p)), some (.int (nI 3)), z4, z5, z6, z7] [] h Q := by
  obtain ⟨kp1, kp2, kp3, kp4⟩ := hk.2.1 p hp
  have hn6 := T.2.1
  refine q_iload_n (pc := 60) rfl rfl ?_
  first | refine n_ifne (pc := 61) rfl (by omega) (fun h61 => ?_) (fun h61 => ?_) | refine q_ifne (pc := 61) rfl (fun h61 => ?_) (fun h61 => ?_)
  · refine q_iload_n (pc := 70) rfl rfl ?_
    refine q_iconst (pc := 71) rfl (nI 3) (by decide) ?_
    first | refine n_icmpeq (pc := 72) rfl (by omega) (by omega) (fun h72 => ?_) (fun h72 => ?_) | refine q_icmpeq (pc := 72) rfl (fun h72 => ?_) (fun h72 => ?_)
    · refine q_aload_n (pc := 80) rfl rfl rfl ?_
      refine q_iload_n (pc := 81) rfl rfl ?_
      refine q_iload_n (pc := 82) rfl rfl ?_
      refine q_iconst (pc := 83) rfl (nI 3) (by decide) ?_
      first | refine n_icmpne (pc := 84) rfl (by omega) (by omega) (fun h84 => ?_) (fun h84 => ?_) | refine q_icmpne (pc := 84) rfl (fun h84 => ?_) (fun h84 => ?_)
      · first | (exfalso; omega) | exact absurd h84 (nI_pos (by omega)) | exact absurd (nI_pos' (by omega)) h84
      · refine q_iconst (pc := 87) rfl (nI 1) (by decide) ?_
        refine q_goto (pc := 88) rfl ?_
        refine q_callV (pc := 92) _ rfl rfl rfl (by exact HR.c H hl _ rfl) rfl (Nat.le_of_ble_eq_true rfl) (by omega) _ rfl ?_
        refine m_tides (by omega) H hl N (by omega) hq h36 hk.1 T tk (by omega) (by omega) hk.2.2.2.2 e71 e72 (alK C E β p 89 F n0) (fun v hv => alK_d h36 hp) ?_
        intro h s2 H f2 N
        refine q_iret (pc := 95) rfl (rfl) ?_
        exact kk _ _ H (gf.of f2 (fun i g => by unfold tlS; omega) (by decide)) N
    · first | (exfalso; omega) | exact absurd h72 (nI_pos (by omega)) | exact absurd (nI_pos' (by omega)) h72
  · first | (exfalso; omega) | exact absurd h61 (nI_pos (by omega)) | exact absurd (nI_pos' (by omega)) h61
theorem m_tellB4 {q n0 n : Nat} (hd : 10 ≤ d) (hl : 75 ≤ P.1) (hq : q < 4) (hp : p < 4) (h36 : n0 ≤ 36) (hk : bok β n) (h9 : β 89 ≤ 999) {F : Nat → Int32} (T : MT s n C E) (e71 : s 71 q = nI n0) (e72 : ∀ i, i < 40 → s 72 (40 * q + i) = F i) (tk : TKN s (β (72 + 4 * p)) (β (72 + 4 * p + 1)) (β 90)) (H : HR P h s) (N : NW s β) (kk : ∀ h' s', HR P h' s' → gf tlS tF s s' → NW s' β → Q (some (.int (tlV C E β F n0 n p 4))) h') {z4 z5 z6 z7 : Option Value} : wq d 205 60 [some (.ref 54), some (.int (nI q)), some (.int (nI p)), some (.int (nI 4)), z4, z5, z6, z7] [] h Q := by
  obtain ⟨kp1, kp2, kp3, kp4⟩ := hk.2.1 p hp
  have hn6 := T.2.1
  refine q_iload_n (pc := 60) rfl rfl ?_
  first | refine n_ifne (pc := 61) rfl (by omega) (fun h61 => ?_) (fun h61 => ?_) | refine q_ifne (pc := 61) rfl (fun h61 => ?_) (fun h61 => ?_)
  · refine q_iload_n (pc := 70) rfl rfl ?_
    refine q_iconst (pc := 71) rfl (nI 3) (by decide) ?_
    first | refine n_icmpeq (pc := 72) rfl (by omega) (by omega) (fun h72 => ?_) (fun h72 => ?_) | refine q_icmpeq (pc := 72) rfl (fun h72 => ?_) (fun h72 => ?_)
    · first | (exfalso; omega) | exact absurd h72 (nI_pos (by omega)) | exact absurd (nI_pos' (by omega)) h72
    · refine q_iload_n (pc := 75) rfl rfl ?_
      refine q_iconst (pc := 76) rfl (nI 4) (by decide) ?_
      first | refine n_icmpne (pc := 77) rfl (by omega) (by omega) (fun h77 => ?_) (fun h77 => ?_) | refine q_icmpne (pc := 77) rfl (fun h77 => ?_) (fun h77 => ?_)
      · first | (exfalso; omega) | exact absurd h77 (nI_pos (by omega)) | exact absurd (nI_pos' (by omega)) h77
      · refine q_aload_n (pc := 80) rfl rfl rfl ?_
        refine q_iload_n (pc := 81) rfl rfl ?_
        refine q_iload_n (pc := 82) rfl rfl ?_
        refine q_iconst (pc := 83) rfl (nI 3) (by decide) ?_
        first | refine n_icmpne (pc := 84) rfl (by omega) (by omega) (fun h84 => ?_) (fun h84 => ?_) | refine q_icmpne (pc := 84) rfl (fun h84 => ?_) (fun h84 => ?_)
        · refine q_iconst (pc := 91) rfl (nI 0) (by decide) ?_
          refine q_callV (pc := 92) _ rfl rfl rfl (by exact HR.c H hl _ rfl) rfl (Nat.le_of_ble_eq_true rfl) (by omega) _ rfl ?_
          refine m_tides (by omega) H hl N (by omega) hq h36 hk.1 T tk (by omega) (by omega) hk.2.2.2.2 e71 e72 (alK C E β p 89 F n0) (fun v hv => alK_d h36 hp) ?_
          intro h s2 H f2 N
          refine q_iret (pc := 95) rfl (rfl) ?_
          exact kk _ _ H (gf.of f2 (fun i g => by unfold tlS; omega) (by decide)) N
        · first | (exfalso; omega) | exact absurd h84 (nI_pos (by omega)) | exact absurd (nI_pos' (by omega)) h84
  · first | (exfalso; omega) | exact absurd h61 (nI_pos (by omega)) | exact absurd (nI_pos' (by omega)) h61
theorem m_tellB5 {q n0 n : Nat} (hd : 10 ≤ d) (hl : 75 ≤ P.1) (hq : q < 4) (hp : p < 4) (h36 : n0 ≤ 36) (hk : bok β n) (h9 : β 89 ≤ 999) {F : Nat → Int32} (T : MT s n C E) (e71 : s 71 q = nI n0) (e72 : ∀ i, i < 40 → s 72 (40 * q + i) = F i) (tk : TKN s (β (72 + 4 * p)) (β (72 + 4 * p + 1)) (β 90)) (H : HR P h s) (N : NW s β) (kk : ∀ h' s', HR P h' s' → gf tlS tF s s' → NW s' β → Q (some (.int (tlV C E β F n0 n p 5))) h') {z4 z5 z6 z7 : Option Value} : wq d 205 60 [some (.ref 54), some (.int (nI q)), some (.int (nI p)), some (.int (nI 5)), z4, z5, z6, z7] [] h Q := by
  obtain ⟨kp1, kp2, kp3, kp4⟩ := hk.2.1 p hp
  have hn6 := T.2.1
  refine q_iload_n (pc := 60) rfl rfl ?_
  first | refine n_ifne (pc := 61) rfl (by omega) (fun h61 => ?_) (fun h61 => ?_) | refine q_ifne (pc := 61) rfl (fun h61 => ?_) (fun h61 => ?_)
  · refine q_iload_n (pc := 70) rfl rfl ?_
    refine q_iconst (pc := 71) rfl (nI 3) (by decide) ?_
    first | refine n_icmpeq (pc := 72) rfl (by omega) (by omega) (fun h72 => ?_) (fun h72 => ?_) | refine q_icmpeq (pc := 72) rfl (fun h72 => ?_) (fun h72 => ?_)
    · first | (exfalso; omega) | exact absurd h72 (nI_pos (by omega)) | exact absurd (nI_pos' (by omega)) h72
    · refine q_iload_n (pc := 75) rfl rfl ?_
      refine q_iconst (pc := 76) rfl (nI 4) (by decide) ?_
      first | refine n_icmpne (pc := 77) rfl (by omega) (by omega) (fun h77 => ?_) (fun h77 => ?_) | refine q_icmpne (pc := 77) rfl (fun h77 => ?_) (fun h77 => ?_)
      · refine q_iload_n (pc := 96) rfl rfl ?_
        refine q_iconst (pc := 97) rfl (nI 1) (by decide) ?_
        first | refine n_icmpne (pc := 98) rfl (by omega) (by omega) (fun h98 => ?_) (fun h98 => ?_) | refine q_icmpne (pc := 98) rfl (fun h98 => ?_) (fun h98 => ?_)
        · refine q_iload_n (pc := 106) rfl rfl ?_
          refine q_iconst (pc := 107) rfl (nI 2) (by decide) ?_
          first | refine n_icmpne (pc := 108) rfl (by omega) (by omega) (fun h108 => ?_) (fun h108 => ?_) | refine q_icmpne (pc := 108) rfl (fun h108 => ?_) (fun h108 => ?_)
          · refine q_iload_n (pc := 116) rfl rfl ?_
            refine q_iconst (pc := 117) rfl (nI 5) (by decide) ?_
            first | refine n_icmpne (pc := 118) rfl (by omega) (by omega) (fun h118 => ?_) (fun h118 => ?_) | refine q_icmpne (pc := 118) rfl (fun h118 => ?_) (fun h118 => ?_)
            · first | (exfalso; omega) | exact absurd h118 (nI_pos (by omega)) | exact absurd (nI_pos' (by omega)) h118
            · refine q_aload_n (pc := 121) rfl rfl rfl ?_
              refine q_getf (pc := 122) rfl (by exact HR.c H hl _ rfl) rfl rfl ?_
              rw [T.1]
              refine q_goto (pc := 125) rfl ?_
              refine q_istore (pc := 130) [_, _, _, _, _, _, _, _] rfl (Nat.le_of_ble_eq_true rfl) rfl ?_
              refine q_iconst (pc := 132) rfl (nI 0) (by decide) ?_
              refine q_istore (pc := 133) [_, _, _, _, _, _, _, _] rfl (Nat.le_of_ble_eq_true rfl) rfl ?_
              refine q_iconst (pc := 135) rfl (nI 0) (by decide) ?_
              refine q_istore (pc := 136) [_, _, _, _, _, _, _, _] rfl (Nat.le_of_ble_eq_true rfl) rfl ?_
              exact m_tellL5 (by omega) hl hq hp h36 hk h9 T e71 e72 kk _ 0 (Nat.zero_add _) h s H N gf.rf _
          · first | (exfalso; omega) | exact absurd h108 (nI_pos (by omega)) | exact absurd (nI_pos' (by omega)) h108
        · first | (exfalso; omega) | exact absurd h98 (nI_pos (by omega)) | exact absurd (nI_pos' (by omega)) h98
      · first | (exfalso; omega) | exact absurd h77 (nI_pos (by omega)) | exact absurd (nI_pos' (by omega)) h77
  · first | (exfalso; omega) | exact absurd h61 (nI_pos (by omega)) | exact absurd (nI_pos' (by omega)) h61
theorem m_tellB6 {q n0 n : Nat} (hd : 10 ≤ d) (hl : 75 ≤ P.1) (hq : q < 4) (hp : p < 4) (h36 : n0 ≤ 36) (hk : bok β n) (h9 : β 89 ≤ 999) {F : Nat → Int32} (T : MT s n C E) (e71 : s 71 q = nI n0) (e72 : ∀ i, i < 40 → s 72 (40 * q + i) = F i) (tk : TKN s (β (72 + 4 * p)) (β (72 + 4 * p + 1)) (β 90)) (H : HR P h s) (N : NW s β) (kk : ∀ h' s', HR P h' s' → gf tlS tF s s' → NW s' β → Q (some (.int (tlV C E β F n0 n p 6))) h') {z4 z5 z6 z7 : Option Value} : wq d 205 60 [some (.ref 54), some (.int (nI q)), some (.int (nI p)), some (.int (nI 6)), z4, z5, z6, z7] [] h Q := by
  obtain ⟨kp1, kp2, kp3, kp4⟩ := hk.2.1 p hp
  have hn6 := T.2.1
  refine q_iload_n (pc := 60) rfl rfl ?_
  first | refine n_ifne (pc := 61) rfl (by omega) (fun h61 => ?_) (fun h61 => ?_) | refine q_ifne (pc := 61) rfl (fun h61 => ?_) (fun h61 => ?_)
  · refine q_iload_n (pc := 70) rfl rfl ?_
    refine q_iconst (pc := 71) rfl (nI 3) (by decide) ?_
    first | refine n_icmpeq (pc := 72) rfl (by omega) (by omega) (fun h72 => ?_) (fun h72 => ?_) | refine q_icmpeq (pc := 72) rfl (fun h72 => ?_) (fun h72 => ?_)
    · first | (exfalso; omega) | exact absurd h72 (nI_pos (by omega)) | exact absurd (nI_pos' (by omega)) h72
    · refine q_iload_n (pc := 75) rfl rfl ?_
      refine q_iconst (pc := 76) rfl (nI 4) (by decide) ?_
      first | refine n_icmpne (pc := 77) rfl (by omega) (by omega) (fun h77 => ?_) (fun h77 => ?_) | refine q_icmpne (pc := 77) rfl (fun h77 => ?_) (fun h77 => ?_)
      · refine q_iload_n (pc := 96) rfl rfl ?_
        refine q_iconst (pc := 97) rfl (nI 1) (by decide) ?_
        first | refine n_icmpne (pc := 98) rfl (by omega) (by omega) (fun h98 => ?_) (fun h98 => ?_) | refine q_icmpne (pc := 98) rfl (fun h98 => ?_) (fun h98 => ?_)
        · refine q_iload_n (pc := 106) rfl rfl ?_
          refine q_iconst (pc := 107) rfl (nI 2) (by decide) ?_
          first | refine n_icmpne (pc := 108) rfl (by omega) (by omega) (fun h108 => ?_) (fun h108 => ?_) | refine q_icmpne (pc := 108) rfl (fun h108 => ?_) (fun h108 => ?_)
          · refine q_iload_n (pc := 116) rfl rfl ?_
            refine q_iconst (pc := 117) rfl (nI 5) (by decide) ?_
            first | refine n_icmpne (pc := 118) rfl (by omega) (by omega) (fun h118 => ?_) (fun h118 => ?_) | refine q_icmpne (pc := 118) rfl (fun h118 => ?_) (fun h118 => ?_)
            · refine q_bipush (pc := 128) rfl (nI 7) (by decide) ?_
              refine q_istore (pc := 130) [_, _, _, _, _, _, _, _] rfl (Nat.le_of_ble_eq_true rfl) rfl ?_
              refine q_iconst (pc := 132) rfl (nI 0) (by decide) ?_
              refine q_istore (pc := 133) [_, _, _, _, _, _, _, _] rfl (Nat.le_of_ble_eq_true rfl) rfl ?_
              refine q_iconst (pc := 135) rfl (nI 0) (by decide) ?_
              refine q_istore (pc := 136) [_, _, _, _, _, _, _, _] rfl (Nat.le_of_ble_eq_true rfl) rfl ?_
              exact m_tellL6 (by omega) hl hq hp h36 hk h9 T e71 e72 kk _ 0 (Nat.zero_add _) h s H N gf.rf _
            · first | (exfalso; omega) | exact absurd h118 (nI_pos (by omega)) | exact absurd (nI_pos' (by omega)) h118
          · first | (exfalso; omega) | exact absurd h108 (nI_pos (by omega)) | exact absurd (nI_pos' (by omega)) h108
        · first | (exfalso; omega) | exact absurd h98 (nI_pos (by omega)) | exact absurd (nI_pos' (by omega)) h98
      · first | (exfalso; omega) | exact absurd h77 (nI_pos (by omega)) | exact absurd (nI_pos' (by omega)) h77
  · first | (exfalso; omega) | exact absurd h61 (nI_pos (by omega)) | exact absurd (nI_pos' (by omega)) h61
theorem m_tells (hd : 20 ≤ d) (H : HR P h s) (hl : 75 ≤ P.1) (N : NW s β) (K : AOK P.2.1 β κ ik tp tz σ sz) (Mk : MK s P.2.1 κ ik tp tz C E σ sz cl) (kk : ∀ h' s', HR P h' s' → NW s' β → mf s s' → Q (some (.int (o_tells C E P.2.1 σ sz cl β x y z))) h') : wc d 205 [.ref 54, .int x, .int y, .int z] h Q := by
  have K4 := K.1.2.2.1
  have KK := K.1
  have K89 := K.2.1
  have kSh := K.2.2.2.2.2.2.2
  have hSh := Mk.2.2.2.2.2.1
  refine wc.go [_, _, _, _, _, _, _, _] rfl ?_
  refine q_iload_n (pc := 0) rfl rfl ?_
  refine q_callS (pc := 1) _ (by decide) rfl rfl rfl rfl (Nat.le_of_ble_eq_true rfl) (by omega) _ rfl ?_
  refine m_isSheet (by omega) (fun q hq e => ?_) (fun g4 => ?_)
  · subst e
    have zs : Hd (rg 4 (nI q) = q) := rg_in hq (by decide)
    obtain ⟨g1, g2, g3⟩ := hSh q hq
    obtain ⟨k40, kσ⟩ := kSh q hq
    refine q_ifeq (pc := 4) rfl (fun z => absurd z (by decide)) (fun _ => ?_)
    refine q_aload_n (pc := 7) rfl rfl rfl ?_
    refine q_iload_n (pc := 8) rfl rfl ?_
    refine q_callV (pc := 9) _ rfl rfl rfl (by exact HR.c H hl _ rfl) rfl (Nat.le_of_ble_eq_true rfl) (by omega) _ rfl ?_
    refine m_isOne (by omega) H hl N K4 (fun p hp e => ?_) (fun g => ?_)
    · subst e
      have zp : Hd (rg (β 88) (nI p) = p) := rg_in hp (by omega)
      refine q_ifeq (pc := 12) rfl (fun z => absurd z (by decide)) (fun _ => ?_)
      refine q_iload_n (pc := 15) rfl rfl ?_
      refine q_iconst (pc := 16) rfl (nI 0) (by decide) ?_
      refine q_bipush (pc := 17) rfl (nI 6) (by decide) ?_
      refine q_callS (pc := 19) _ (by decide) rfl rfl rfl rfl (Nat.le_of_ble_eq_true rfl) (by omega) _ rfl ?_
      refine m_in0 (by decide) (fun w hw e => ?_) (fun g => ?_)
      · subst e
        have z1 : Hd (rg 7 (nI w) = w) := rg_in (by omega) (by decide)
        refine q_ifne (pc := 22) rfl (fun _ => ?_) (fun z => absurd z (by decide))
        refine q_aload_n (pc := 28) rfl rfl rfl ?_
        refine q_getf (pc := 29) rfl (by exact HR.c H hl _ rfl) rfl rfl ?_
        refine q_iload_n (pc := 32) rfl rfl ?_
        refine n_ild (pc := 33) rfl (by first | exact HR.la H hl rfl rfl N | exact HR.la0 H hl rfl rfl) rfl (by omega) (by omega) ?_
        rw [g1]
        refine q_iconst (pc := 34) rfl (-1) (by decide) ?_
        refine q_icmpne (pc := 35) rfl (fun h35 => ?_) (fun h35 => ?_)
        · have gs : σ q ≠ -1 := h35
          first
          | (exfalso; omega (config := {splitDisjunctions := false}))
          | exact absurd rfl h35
          | skip
            refine q_aload_n (pc := 41) rfl rfl rfl ?_
            refine q_getf (pc := 42) rfl (by exact HR.c H hl _ rfl) rfl rfl ?_
            refine q_iload_n (pc := 45) rfl rfl ?_
            refine n_ild (pc := 46) rfl (by first | exact HR.la H hl rfl rfl N | exact HR.la0 H hl rfl rfl) rfl (by omega) (by omega) ?_
            rw [g2]
            refine q_bipush (pc := 47) rfl (nI 36) (by decide) ?_
            first | refine n_icmple (pc := 49) rfl (by omega) (by omega) (fun h49 => ?_) (fun h49 => ?_) | refine q_icmple (pc := 49) rfl (fun h49 => ?_) (fun h49 => ?_)
            · first
              | (exfalso; omega (config := {splitDisjunctions := false}))
              | skip
                refine q_aload_n (pc := 55) rfl rfl rfl ?_
                refine q_iload_n (pc := 56) rfl rfl ?_
                refine q_callV (pc := 57) _ rfl rfl rfl (by exact HR.c H hl _ rfl) rfl (Nat.le_of_ble_eq_true rfl) (by omega) _ rfl ?_
                refine m_take H hl N (by omega) ?_
                intro h s1 H f1 f1a tk
                have N := N.tf f1
                have e1 : o_tells C E P.2.1 σ sz cl β (nI q) (nI p) (nI w) = tlV C E β (cl q) (sz q) P.2.1 p w := by
                  unfold o_tells
                  rw [zs.out, zp.out, z1.out, if_pos (show q < 4 ∧ p < β 88 ∧ w < 7 from ⟨hq, hp, by omega⟩), if_neg gs, if_neg (by omega)]
                rw [e1] at kk
                have T := Mk.2.2.2.2.1.fr (tf_mf f1)
                have k2 : ∀ h' s', HR P h' s' → gf tlS tF s1 s' → NW s' β → Q (some (.int (tlV C E β (cl q) (sz q) P.2.1 p w))) h' := fun h' s' H' f' N' => kk _ _ H' N' ((tf_mf f1).tr (f'.mf (fun i g => by unfold tlS at g; unfold mS; omega) (by unfold tF; omega)))
                have q71 := (congrFun (f1a 71 (by decide)) q).trans g2
                have q72 : ∀ i, i < 40 → s1 72 (40 * q + i) = cl q i := fun i hi => (congrFun (f1a 72 (by decide)) _).trans (g3 i hi)
                rcases (show w = 0 ∨ w = 1 ∨ w = 2 ∨ w = 3 ∨ w = 4 ∨ w = 5 ∨ w = 6 by omega) with rfl | rfl | rfl | rfl | rfl | rfl | rfl
                · exact m_tellB0 (by omega) hl hq (by omega) (by omega) KK K89 T q71 q72 tk H N k2
                · exact m_tellB1 (by omega) hl hq (by omega) (by omega) KK K89 T q71 q72 tk H N k2
                · exact m_tellB2 (by omega) hl hq (by omega) (by omega) KK K89 T q71 q72 tk H N k2
                · exact m_tellB3 (by omega) hl hq (by omega) (by omega) KK K89 T q71 q72 tk H N k2
                · exact m_tellB4 (by omega) hl hq (by omega) (by omega) KK K89 T q71 q72 tk H N k2
                · exact m_tellB5 (by omega) hl hq (by omega) (by omega) KK K89 T q71 q72 tk H N k2
                · exact m_tellB6 (by omega) hl hq (by omega) (by omega) KK K89 T q71 q72 tk H N k2
            · first
              | (exfalso; omega (config := {splitDisjunctions := false}))
              | skip
                refine q_bipush (pc := 52) rfl (-2) (by decide) ?_
                refine q_iret (pc := 54) rfl (rfl) ?_
                refine eqQ (v' := o_tells C E P.2.1 σ sz cl β (nI q) (nI p) (nI w)) ?_ (kk _ _ H N mf.rf)
                unfold o_tells
                rw [zs.out, zp.out, z1.out, if_pos (show q < 4 ∧ p < β 88 ∧ w < 7 from ⟨hq, hp, by omega⟩), if_neg gs, if_pos (by omega)]
        · have gs : σ q = -1 := h35
          first
          | (exfalso; omega (config := {splitDisjunctions := false}))
          | exact absurd rfl h35
          | skip
            refine q_bipush (pc := 38) rfl (-11) (by decide) ?_
            refine q_iret (pc := 40) rfl (rfl) ?_
            refine eqQ (v' := o_tells C E P.2.1 σ sz cl β (nI q) (nI p) (nI w)) ?_ (kk _ _ H N mf.rf)
            unfold o_tells
            rw [zs.out, zp.out, z1.out, if_pos (show q < 4 ∧ p < β 88 ∧ w < 7 from ⟨hq, hp, by omega⟩), if_pos gs]
      · have z1 : Hd (rg 7 z = 7) := rg_out g
        refine q_ifne (pc := 22) rfl (fun z => absurd z (by decide)) (fun _ => ?_)
        refine q_bipush (pc := 25) rfl (-2) (by decide) ?_
        refine q_iret (pc := 27) rfl (rfl) ?_
        first
        | (refine eqQ (v' := o_tells C E P.2.1 σ sz cl β (nI q) (nI p) z) ?_ (kk _ _ H N mf.rf)
           unfold o_tells
           rw [zs.out, zp.out, z1.out, if_neg (fun e => absurd e.2.2 (Nat.lt_irrefl _))])
        | (refine eqQ (v' := o_tells C E P.2.1 σ sz cl β (nI q) y z) ?_ (kk _ _ H N mf.rf)
           unfold o_tells
           rw [zs.out, zp.out, if_neg (fun e => absurd e.2.1 (Nat.lt_irrefl _))])
        | (refine eqQ (v' := o_tells C E P.2.1 σ sz cl β x y z) ?_ (kk _ _ H N mf.rf)
           unfold o_tells
           rw [zs.out, if_neg (fun e => absurd e.1 (by decide))])
    · have zp : Hd (rg (β 88) y = β 88) := rg_out g
      refine q_ifeq (pc := 12) rfl (fun _ => ?_) (fun z => absurd (by decide) z)
      refine q_bipush (pc := 25) rfl (-2) (by decide) ?_
      refine q_iret (pc := 27) rfl (rfl) ?_
      first
      | (refine eqQ (v' := o_tells C E P.2.1 σ sz cl β (nI q) (nI p) z) ?_ (kk _ _ H N mf.rf)
         unfold o_tells
         rw [zs.out, zp.out, z1.out, if_neg (fun e => absurd e.2.2 (Nat.lt_irrefl _))])
      | (refine eqQ (v' := o_tells C E P.2.1 σ sz cl β (nI q) y z) ?_ (kk _ _ H N mf.rf)
         unfold o_tells
         rw [zs.out, zp.out, if_neg (fun e => absurd e.2.1 (Nat.lt_irrefl _))])
      | (refine eqQ (v' := o_tells C E P.2.1 σ sz cl β x y z) ?_ (kk _ _ H N mf.rf)
         unfold o_tells
         rw [zs.out, if_neg (fun e => absurd e.1 (by decide))])
  · have zs : Hd (rg 4 x = 4) := rg_out g4
    refine q_ifeq (pc := 4) rfl (fun _ => ?_) (fun z => absurd (by decide) z)
    refine q_bipush (pc := 25) rfl (-2) (by decide) ?_
    refine q_iret (pc := 27) rfl (rfl) ?_
    first
    | (refine eqQ (v' := o_tells C E P.2.1 σ sz cl β (nI q) (nI p) z) ?_ (kk _ _ H N mf.rf)
       unfold o_tells
       rw [zs.out, zp.out, z1.out, if_neg (fun e => absurd e.2.2 (Nat.lt_irrefl _))])
    | (refine eqQ (v' := o_tells C E P.2.1 σ sz cl β (nI q) y z) ?_ (kk _ _ H N mf.rf)
       unfold o_tells
       rw [zs.out, zp.out, if_neg (fun e => absurd e.2.1 (Nat.lt_irrefl _))])
    | (refine eqQ (v' := o_tells C E P.2.1 σ sz cl β x y z) ?_ (kk _ _ H N mf.rf)
       unfold o_tells
       rw [zs.out, if_neg (fun e => absurd e.1 (by decide))])
end P58
