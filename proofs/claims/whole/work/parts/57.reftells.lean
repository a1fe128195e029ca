/-! ===== the reference: what was laid tells ===== -/
section P57
variable {d k pc a i j c p b t n m part q : Nat} {v : Int} {L L' : mx_L} {st r : List Value} {P : mx_Pm} {h : mx_H} {s : mx_St} {Q : Option Value → mx_H → Prop} {x y w z u : Int32} {β κ : Nat → Nat} {C : Nat → Nat → Int32} {E : Nat → Nat → Nat} {ik tz : Nat} {tp : Nat → Nat} {σ : Nat → Int32} {sz : Nat → Nat} {cl : Nat → Nat → Int32}
theorem w4_cg {γ : Nat → Nat} (h : ∀ i, i < 72 → β i = γ i) (hc : c < 36) : w4 β c = w4 γ c := by
  have e : ∀ x, x < 36 → wrn β x = wrn γ x := fun x hx => by
    unfold wrn
    rw [h x (by omega), h (36 + x) (by omega)]
  unfold w4
  rw [e (c - 6) (by omega), e (c - 1) (by omega)]
  have e6 : (decide (c < 30) && wrn β (c + 6)) = (decide (c < 30) && wrn γ (c + 6)) := by
    by_cases g : c < 30
    · rw [e (c + 6) (by omega)]
    · rw [decide_eq_false g]; rfl
  have e1 : (decide (c % 6 < 5) && wrn β (c + 1)) = (decide (c % 6 < 5) && wrn γ (c + 1)) := by
    by_cases g : c % 6 < 5
    · rw [e (c + 1) (by omega)]
    · rw [decide_eq_false g]; rfl
  rw [e6, e1]
theorem sdv_cg {γ : Nat → Nat} {m n : Nat} (h : ∀ i, i < 72 → β i = γ i) (h9 : β 89 = γ 89) (hc : c < 36) : sdv β c m n = sdv γ c m n := by
  funext i
  unfold sdv
  rw [w4_cg h hc, h9]
theorem lyG_cg {γ : Nat → Nat} {p m t : Nat} (h : ∀ i, i < 72 → β i = γ i) (h9 : β 89 = γ 89) (hc : c < 36) : lyG C E β p m t c = lyG C E γ p m t c := by
  unfold lyG vtN
  rw [sdv_cg h h9 hc, h (36 + c) (by omega)]
theorem alB_cg {f g : Nat → Nat} {F : Nat → Int32} {n : Nat} (h : ∀ c, c < n → f c = g c) : alB f F n = alB g F n := by
  unfold alB
  exact decide_eq_decide.mpr ⟨fun z c hc => by rw [← h c hc]; exact z c hc, fun z c hc => by rw [h c hc]; exact z c hc⟩
/-- all but these three fields of the reference's are kept -/
theorem m_otherL {q n0 p m t n : Nat} (hd : 6 ≤ d) (hl : 75 ≤ P.1) (hq : q < 4) (h36 : n0 ≤ 36) (hk : ∀ i, i < 72 → β i ≤ 9) {F : Nat → Int32} {s0 : mx_St} (T0 : MT s0 n C E) (hp : p ≤ 5) (hm : m ≤ 9) (ht : t < n) (e71 : s0 71 q = nI n0) (e72 : ∀ i, i < 40 → s0 72 (40 * q + i) = F i) (kk : ∀ h' s', HR P h' s' → sf s0 s' (fun i => i = 63) → Q (some (.int (foV (lyG C E β p m t) F n0))) h') (u i : Nat) (hi : i + u = n0) (h2 : ∀ j, j < i → nI (lyG C E β p m t j) = F j) (h : mx_H) (s : mx_St) (H : HR P h s) (N : NW s β) (f : sf s0 s (fun i => i = 63)) (tk : TKN s p m t) : wq d 202 2 [some (.ref 54), some (.int (nI q)), some (.int (nI i))] [] h Q := by
  have T := T0.row (tf_row f)
  have g2 : s 71 q = nI n0 := (congrFun (f 71 (by decide)) _).trans e71
  match u, hi with
  | 0, hi =>
    obtain rfl : i = n0 := by omega
    refine q_iload_n (pc := 2) rfl rfl ?_
    refine q_aload_n (pc := 3) rfl rfl rfl ?_
    refine q_getf (pc := 4) rfl (by exact HR.c H hl _ rfl) rfl rfl ?_
    refine q_iload_n (pc := 7) rfl rfl ?_
    refine n_ild (pc := 8) rfl (by first | exact HR.la H hl rfl rfl N | exact HR.la0 H hl rfl rfl) rfl (by omega) (by omega) ?_
    rw [g2]
    first | refine n_icmpge (pc := 9) rfl (by omega) (by omega) (fun h9 => ?_) (fun h9 => ?_) | refine q_icmpge (pc := 9) rfl (fun h9 => ?_) (fun h9 => ?_)
    · refine q_iconst (pc := 39) rfl (-1) (by decide) ?_
      refine q_iret (pc := 40) rfl (rfl) ?_
      have e := kk _ _ H f
      rw [foV_t h2] at e
      exact e
    · first | (exfalso; omega) | exact absurd h9 (nI_pos (by omega)) | exact absurd (nI_pos' (by omega)) h9
  | u + 1, hi =>
    have g3 : s 72 (40 * q + i) = F i := (congrFun (f 72 (by decide)) _).trans (e72 i (by omega))
    refine q_iload_n (pc := 2) rfl rfl ?_
    refine q_aload_n (pc := 3) rfl rfl rfl ?_
    refine q_getf (pc := 4) rfl (by exact HR.c H hl _ rfl) rfl rfl ?_
    refine q_iload_n (pc := 7) rfl rfl ?_
    refine n_ild (pc := 8) rfl (by first | exact HR.la H hl rfl rfl N | exact HR.la0 H hl rfl rfl) rfl (by omega) (by omega) ?_
    rw [g2]
    first | refine n_icmpge (pc := 9) rfl (by omega) (by omega) (fun h9 => ?_) (fun h9 => ?_) | refine q_icmpge (pc := 9) rfl (fun h9 => ?_) (fun h9 => ?_)
    · first | (exfalso; omega) | exact absurd h9 (nI_pos (by omega)) | exact absurd (nI_pos' (by omega)) h9
    · refine q_aload_n (pc := 12) rfl rfl rfl ?_
      refine q_iload_n (pc := 13) rfl rfl ?_
      refine q_callV (pc := 14) _ rfl rfl rfl (by exact HR.c H hl _ rfl) rfl (Nat.le_of_ble_eq_true rfl) (by omega) _ rfl ?_
      refine m_lays (by omega) H hl N T ht hk tk hp hm (by omega) ?_
      intro h s1 H f1
      refine q_aload_n (pc := 17) rfl rfl rfl ?_
      refine q_getf (pc := 18) rfl (by exact HR.c H hl _ rfl) rfl rfl ?_
      refine q_bipush (pc := 21) rfl (nI 40) (by decide) ?_
      refine q_iload_n (pc := 23) rfl rfl ?_
      first | refine n_imul (pc := 24) rfl ?_ | refine q_imul (pc := 24) rfl ?_
      refine q_iload_n (pc := 25) rfl rfl ?_
      first | refine n_iadd (pc := 26) rfl ?_ | refine q_iadd (pc := 26) rfl ?_
      refine n_ild (pc := 27) rfl (by first | exact HR.la H hl rfl rfl N | exact HR.la0 H hl rfl rfl) rfl (by omega) (by omega) ?_
      rw [show s1 72 (40 * q + i) = F i from (congrFun (f1 72 (by decide)) _).trans g3]
      refine q_icmpeq (pc := 28) rfl (fun h28 => ?_) (fun h28 => ?_)
      · have q28 : nI (lyG C E β p m t i) = F i := h28
        first
        | (exfalso; omega (config := {splitDisjunctions := false}))
        | exact absurd rfl h28
        | skip
          first | refine n_iinc (pc := 33) rfl [_, _, _] 1 (by decide) rfl rfl ?_ | refine q_iinc (pc := 33) [_, _, _] (1) rfl rfl (by decide) rfl ?_
          refine q_goto (pc := 36) rfl ?_
          exact m_otherL hd hl hq h36 hk T0 hp hm ht e71 e72 kk u (i + 1) (by omega) (fun j hj => by
            by_cases e : j = i
            · subst e
              exact q28
            · exact h2 j (by omega)) h s1 H (N.fr f1 (by decide)) (f.tr f1) (tk.fr f1)
      · have q28 : nI (lyG C E β p m t i) ≠ F i := h28
        first
        | (exfalso; omega (config := {splitDisjunctions := false}))
        | exact absurd rfl h28
        | skip
          refine q_iload_n (pc := 31) rfl rfl ?_
          refine q_iret (pc := 32) rfl (rfl) ?_
          have e := kk _ _ H (f.tr f1)
          rw [foV_f (by omega) q28 h2] at e
          exact e
termination_by u
theorem m_other {q n0 p m t n : Nat} (hd : 6 ≤ d) (H : HR P h s) (hl : 75 ≤ P.1) (N : NW s β) (hq : q < 4) (h36 : n0 ≤ 36) (hk : ∀ i, i < 72 → β i ≤ 9) {F : Nat → Int32} (T : MT s n C E) (tk : TKN s p m t) (hp : p ≤ 5) (hm : m ≤ 9) (ht : t < n) (e71 : s 71 q = nI n0) (e72 : ∀ i, i < 40 → s 72 (40 * q + i) = F i) (kk : ∀ h' s', HR P h' s' → sf s s' (fun i => i = 63) → Q (some (.int (foV (lyG C E β p m t) F n0))) h') : wc d 202 [.ref 54, .int (nI q)] h Q := by
  refine wc.go [_, _, _] rfl ?_
  refine q_iconst (pc := 0) rfl (nI 0) (by decide) ?_
  refine q_istore_n (pc := 1) [_, _, _] rfl (Nat.le_of_ble_eq_true rfl) rfl ?_
  exact m_otherL hd hl hq h36 hk T hp hm ht e71 e72 kk n0 0 (by omega) (fun j hj => by omega) h s H N sf.rf tk
def cntU (f : Nat → Bool) (k n : Nat) : Nat := cntf f n - cntf f k
def LT (f : Nat → Bool) (k : Nat) (v : Int32) : Prop := (v = -1 ∧ ∀ j, k ≤ j → j < 100 → f j = false) ∨ ∃ a, k ≤ a ∧ a < 100 ∧ v = nI a ∧ f a = true ∧ ∀ j, k ≤ j → j < a → f j = false
theorem LT_e {f : Nat → Bool} {v : Int32} (h : LT f 0 v) : v = lsN f 100 := by
  unfold lsN
  rcases h with ⟨e, h⟩ | ⟨a, h1, h2, e, h3, h4⟩
  · rw [fnd_no _ 100 0 (fun i _ hi => h i (Nat.zero_le _) (by omega)), if_neg (by omega), e]
  · rw [fnd_eq _ 100 0 a (Nat.zero_le _) (by omega) h3 (fun i _ hi => h4 i (Nat.zero_le _) hi), if_pos h2, e]
theorem m_tidesL {q n0 p m t n : Nat} {a2 a3 : Int32} (hd : 7 ≤ d) (hl : 75 ≤ P.1) (hq : q < 4) (h36 : n0 ≤ 36) (hk : ∀ i, i < 72 → β i ≤ 9) {F : Nat → Int32} {s0 : mx_St} (T0 : MT s0 n C E) (hp : p ≤ 5) (hm : m ≤ 9) (ht : t < n) (e71 : s0 71 q = nI n0) (e72 : ∀ i, i < 40 → s0 72 (40 * q + i) = F i) (tk0 : TKN s0 p m t) (f0 : Nat → Bool) (hf : ∀ v, v < 100 → f0 v = alB (lyG C E (upN β 89 v) p m t) F n0) (kk : ∀ h' s' γ z6 z7, HR P h' s' → sf s0 s' (fun i => i = 55 ∨ i = 63) → NW s' γ → (∀ i, i ≠ 89 → γ i = β i) → wq d 203 83 [some (.ref 54), some (.int (nI q)), some (.int a2), some (.int a3), some (.int (nI (cntf f0 100))), some (.int (lsN f0 100)), some (.int z6), z7] [] h' Q) (k0 : Nat) (hk0 : k0 ≤ 100) (c : Nat) (hc : c + cntf f0 k0 = cntf f0 100) (v : Int32) (hv : LT f0 k0 v) (γ : Nat → Nat) (hγ : ∀ i, i ≠ 89 → γ i = β i) (h : mx_H) (s : mx_St) (H : HR P h s) (N : NW s γ) (f : sf s0 s (fun i => i = 55 ∨ i = 63)) (z7 : Option Value) : wq d 203 18 [some (.ref 54), some (.int (nI q)), some (.int a2), some (.int a3), some (.int (nI c)), some (.int v), some (.int (nI k0 + (-1))), z7] [] h Q := by
  match k0, hk0 with
  | 0, hk0 =>
    obtain rfl : c = cntf f0 100 := by simpa [cntf] using hc
    rw [LT_e hv]
    rw [show nI 0 + (-1) = -1 from by decide]
    refine q_iload (pc := 18) rfl rfl ?_
    refine q_iflt (pc := 20) rfl (fun h20 => ?_) (fun h20 => ?_)
    · first
      | (exfalso; omega (config := {splitDisjunctions := false}))
      | skip
        exact kk _ _ γ _ _ H f N hγ
    · exact absurd (by decide) h20
  | k0 + 1, hk0 =>
    rw [pk_m1]
    have T : MT s n C E := T0.fr ⟨f.mono (fun i g => by unfold mS; omega), congrFun (f 54 (by decide)) _, congrFun (f 54 (by decide)) _, congrFun (f 54 (by decide)) _⟩
    have e89 : ∀ i, upN γ 89 k0 i = upN β 89 k0 i := fun i => by
      unfold upN
      by_cases g : i = 89
      · rw [if_pos g, if_pos g]
      · rw [if_neg g, if_neg g]
        exact hγ i g
    have e89 : upN γ 89 k0 = upN β 89 k0 := funext e89
    have hk2 : ∀ i, i < 72 → upN β 89 k0 i ≤ 9 := fun i hi => by rw [upN_n (by omega)]; exact hk i hi
    have hcn : cntf f0 (k0 + 1) = cntf f0 k0 + (f0 k0).toNat := rfl
    have hfv := hf k0 (by omega)
    have hlv : ∀ w, (f0 k0 = false → LT f0 (k0 + 1) w → LT f0 k0 w) := fun w e h => by
      rcases h with ⟨e1, h⟩ | ⟨a, h1, h2, e1, h3, h4⟩
      · refine Or.inl ⟨e1, fun j q1 q2 => ?_⟩
        rcases Nat.eq_or_lt_of_le q1 with g | g
        · rw [← g]; exact e
        · exact h j g q2
      · refine Or.inr ⟨a, by omega, h2, e1, h3, fun j q1 q2 => ?_⟩
        rcases Nat.eq_or_lt_of_le q1 with g | g
        · rw [← g]; exact e
        · exact h4 j g q2
    refine q_iload (pc := 18) rfl rfl ?_
    refine q_iflt (pc := 20) rfl (fun h20 => ?_) (fun h20 => ?_)
    · first | (exfalso; omega) | exact absurd h20 (nI_pos (by omega)) | exact absurd (nI_pos' (by omega)) h20
    · refine q_aload_n (pc := 23) rfl rfl rfl ?_
      refine q_getf (pc := 24) rfl (by exact HR.c H hl _ rfl) rfl rfl ?_
      refine q_bipush (pc := 27) rfl (nI 89) (by decide) ?_
      refine q_iload (pc := 29) rfl rfl ?_
      refine r_ist2 (pc := 31) rfl H hl rfl (fun _ => rfl) rfl (by omega) (by omega) ?_
      intro h H
      have N := N.up (j := 89) (u := k0)
      rw [e89] at N
      have f2 : sf s0 (stv s 55 89 (nI k0)) (fun i => i = 55 ∨ i = 63) := f.st (Or.inl rfl)
      have T2 : MT (stv s 55 89 (nI k0)) n C E := T.fr (mf.wr (by unfold mS; omega) (by decide))
      refine q_aload_n (pc := 32) rfl rfl rfl ?_
      refine q_iload_n (pc := 33) rfl rfl ?_
      refine q_callV (pc := 34) _ rfl rfl rfl (by exact HR.c H hl _ rfl) rfl (Nat.le_of_ble_eq_true rfl) (by omega) _ rfl ?_
      refine m_other (by omega) H hl N hq h36 hk2 T2 ⟨(congrFun (f2 54 (by decide)) _).trans tk0.1, (congrFun (f2 54 (by decide)) _).trans tk0.2.1, (congrFun (f2 54 (by decide)) _).trans tk0.2.2⟩ hp hm ht ((congrFun (f2 71 (by decide)) _).trans e71) (fun i hi => (congrFun (f2 72 (by decide)) _).trans (e72 i hi)) ?_
      intro h s1 H f3
      have N := N.fr f3 (by decide)
      refine q_iconst (pc := 37) rfl (-1) (by decide) ?_
      refine q_icmpne (pc := 38) rfl (fun h38 => ?_) (fun h38 => ?_)
      · have q38 : f0 k0 = false := by
          rw [hfv]
          exact Bool.eq_false_iff.mpr (fun e => h38 ((foV_m (by omega)).mpr e))
        first
        | (exfalso; omega (config := {splitDisjunctions := false}))
        | exact absurd rfl h38
        | skip
          refine q_iconst (pc := 45) rfl (nI 0) (by decide) ?_
          refine q_istore (pc := 46) [_, _, _, _, _, _, _, _] rfl (Nat.le_of_ble_eq_true rfl) rfl ?_
          refine q_iload (pc := 48) rfl rfl ?_
          refine q_iload (pc := 50) rfl rfl ?_
          first | refine n_ifeq (pc := 52) rfl (by omega) (fun h52 => ?_) (fun h52 => ?_) | refine q_ifeq (pc := 52) rfl (fun h52 => ?_) (fun h52 => ?_)
          · first
            | (exfalso; omega (config := {splitDisjunctions := false}))
            | exact absurd rfl h52
            | skip
              refine q_iconst (pc := 59) rfl (nI 0) (by decide) ?_
              first | refine n_iadd (pc := 60) rfl ?_ | refine q_iadd (pc := 60) rfl ?_
              refine q_istore (pc := 61) [_, _, _, _, _, _, _, _] rfl (Nat.le_of_ble_eq_true rfl) rfl ?_
              refine q_iload (pc := 63) rfl rfl ?_
              first | refine n_ifeq (pc := 65) rfl (by omega) (fun h65 => ?_) (fun h65 => ?_) | refine q_ifeq (pc := 65) rfl (fun h65 => ?_) (fun h65 => ?_)
              · first
                | (exfalso; omega (config := {splitDisjunctions := false}))
                | exact absurd rfl h65
                | skip
                  refine q_iload (pc := 73) rfl rfl ?_
                  refine q_istore (pc := 75) [_, _, _, _, _, _, _, _] rfl (Nat.le_of_ble_eq_true rfl) rfl ?_
                  refine q_iinc (pc := 77) [_, _, _, _, _, _, _, _] (-1) rfl rfl (by decide) rfl ?_
                  refine q_goto (pc := 80) rfl ?_
                  first
                  | (exact m_tidesL hd hl hq h36 hk T0 hp hm ht e71 e72 tk0 f0 hf kk k0 (by omega) (c + 1) (by rw [q38] at hcn; have hcn : cntf f0 (k0 + 1) = cntf f0 k0 + 1 := hcn; omega) (nI k0) (Or.inr ⟨k0, Nat.le_refl _, by omega, rfl, q38, fun j q1 q2 => by omega⟩) (upN β 89 k0) (fun i hi => upN_n hi) h s1 H N (f2.tr (f3.mono (fun i g => Or.inr g))) _)
                  | (exact m_tidesL hd hl hq h36 hk T0 hp hm ht e71 e72 tk0 f0 hf kk k0 (by omega) (c + 0) (by rw [q38] at hcn; have hcn : cntf f0 (k0 + 1) = cntf f0 k0 + 0 := hcn; omega) v (hlv v q38 hv) (upN β 89 k0) (fun i hi => upN_n hi) h s1 H N (f2.tr (f3.mono (fun i g => Or.inr g))) _)
              · first
                | (exfalso; omega (config := {splitDisjunctions := false}))
                | exact absurd rfl h65
                | skip
                  refine q_iload (pc := 68) rfl rfl ?_
                  refine q_goto (pc := 70) rfl ?_
                  refine q_istore (pc := 75) [_, _, _, _, _, _, _, _] rfl (Nat.le_of_ble_eq_true rfl) rfl ?_
                  refine q_iinc (pc := 77) [_, _, _, _, _, _, _, _] (-1) rfl rfl (by decide) rfl ?_
                  refine q_goto (pc := 80) rfl ?_
                  first
                  | (exact m_tidesL hd hl hq h36 hk T0 hp hm ht e71 e72 tk0 f0 hf kk k0 (by omega) (c + 1) (by rw [q38] at hcn; have hcn : cntf f0 (k0 + 1) = cntf f0 k0 + 1 := hcn; omega) (nI k0) (Or.inr ⟨k0, Nat.le_refl _, by omega, rfl, q38, fun j q1 q2 => by omega⟩) (upN β 89 k0) (fun i hi => upN_n hi) h s1 H N (f2.tr (f3.mono (fun i g => Or.inr g))) _)
                  | (exact m_tidesL hd hl hq h36 hk T0 hp hm ht e71 e72 tk0 f0 hf kk k0 (by omega) (c + 0) (by rw [q38] at hcn; have hcn : cntf f0 (k0 + 1) = cntf f0 k0 + 0 := hcn; omega) v (hlv v q38 hv) (upN β 89 k0) (fun i hi => upN_n hi) h s1 H N (f2.tr (f3.mono (fun i g => Or.inr g))) _)
          · first
            | (exfalso; omega (config := {splitDisjunctions := false}))
            | exact absurd rfl h52
            | skip
              refine q_iconst (pc := 55) rfl (nI 1) (by decide) ?_
              refine q_goto (pc := 56) rfl ?_
              first | refine n_iadd (pc := 60) rfl ?_ | refine q_iadd (pc := 60) rfl ?_
              refine q_istore (pc := 61) [_, _, _, _, _, _, _, _] rfl (Nat.le_of_ble_eq_true rfl) rfl ?_
              refine q_iload (pc := 63) rfl rfl ?_
              first | refine n_ifeq (pc := 65) rfl (by omega) (fun h65 => ?_) (fun h65 => ?_) | refine q_ifeq (pc := 65) rfl (fun h65 => ?_) (fun h65 => ?_)
              · first
                | (exfalso; omega (config := {splitDisjunctions := false}))
                | exact absurd rfl h65
                | skip
                  refine q_iload (pc := 73) rfl rfl ?_
                  refine q_istore (pc := 75) [_, _, _, _, _, _, _, _] rfl (Nat.le_of_ble_eq_true rfl) rfl ?_
                  refine q_iinc (pc := 77) [_, _, _, _, _, _, _, _] (-1) rfl rfl (by decide) rfl ?_
                  refine q_goto (pc := 80) rfl ?_
                  first
                  | (exact m_tidesL hd hl hq h36 hk T0 hp hm ht e71 e72 tk0 f0 hf kk k0 (by omega) (c + 1) (by rw [q38] at hcn; have hcn : cntf f0 (k0 + 1) = cntf f0 k0 + 1 := hcn; omega) (nI k0) (Or.inr ⟨k0, Nat.le_refl _, by omega, rfl, q38, fun j q1 q2 => by omega⟩) (upN β 89 k0) (fun i hi => upN_n hi) h s1 H N (f2.tr (f3.mono (fun i g => Or.inr g))) _)
                  | (exact m_tidesL hd hl hq h36 hk T0 hp hm ht e71 e72 tk0 f0 hf kk k0 (by omega) (c + 0) (by rw [q38] at hcn; have hcn : cntf f0 (k0 + 1) = cntf f0 k0 + 0 := hcn; omega) v (hlv v q38 hv) (upN β 89 k0) (fun i hi => upN_n hi) h s1 H N (f2.tr (f3.mono (fun i g => Or.inr g))) _)
              · first
                | (exfalso; omega (config := {splitDisjunctions := false}))
                | exact absurd rfl h65
                | skip
                  refine q_iload (pc := 68) rfl rfl ?_
                  refine q_goto (pc := 70) rfl ?_
                  refine q_istore (pc := 75) [_, _, _, _, _, _, _, _] rfl (Nat.le_of_ble_eq_true rfl) rfl ?_
                  refine q_iinc (pc := 77) [_, _, _, _, _, _, _, _] (-1) rfl rfl (by decide) rfl ?_
                  refine q_goto (pc := 80) rfl ?_
                  first
                  | (exact m_tidesL hd hl hq h36 hk T0 hp hm ht e71 e72 tk0 f0 hf kk k0 (by omega) (c + 1) (by rw [q38] at hcn; have hcn : cntf f0 (k0 + 1) = cntf f0 k0 + 1 := hcn; omega) (nI k0) (Or.inr ⟨k0, Nat.le_refl _, by omega, rfl, q38, fun j q1 q2 => by omega⟩) (upN β 89 k0) (fun i hi => upN_n hi) h s1 H N (f2.tr (f3.mono (fun i g => Or.inr g))) _)
                  | (exact m_tidesL hd hl hq h36 hk T0 hp hm ht e71 e72 tk0 f0 hf kk k0 (by omega) (c + 0) (by rw [q38] at hcn; have hcn : cntf f0 (k0 + 1) = cntf f0 k0 + 0 := hcn; omega) v (hlv v q38 hv) (upN β 89 k0) (fun i hi => upN_n hi) h s1 H N (f2.tr (f3.mono (fun i g => Or.inr g))) _)
      · have q38 : f0 k0 = true := by
          rw [hfv]
          exact (foV_m (by omega)).mp h38
        first
        | (exfalso; omega (config := {splitDisjunctions := false}))
        | exact absurd rfl h38
        | skip
          refine q_iconst (pc := 41) rfl (nI 1) (by decide) ?_
          refine q_goto (pc := 42) rfl ?_
          refine q_istore (pc := 46) [_, _, _, _, _, _, _, _] rfl (Nat.le_of_ble_eq_true rfl) rfl ?_
          refine q_iload (pc := 48) rfl rfl ?_
          refine q_iload (pc := 50) rfl rfl ?_
          first | refine n_ifeq (pc := 52) rfl (by omega) (fun h52 => ?_) (fun h52 => ?_) | refine q_ifeq (pc := 52) rfl (fun h52 => ?_) (fun h52 => ?_)
          · first
            | (exfalso; omega (config := {splitDisjunctions := false}))
            | exact absurd rfl h52
            | skip
              refine q_iconst (pc := 59) rfl (nI 0) (by decide) ?_
              first | refine n_iadd (pc := 60) rfl ?_ | refine q_iadd (pc := 60) rfl ?_
              refine q_istore (pc := 61) [_, _, _, _, _, _, _, _] rfl (Nat.le_of_ble_eq_true rfl) rfl ?_
              refine q_iload (pc := 63) rfl rfl ?_
              first | refine n_ifeq (pc := 65) rfl (by omega) (fun h65 => ?_) (fun h65 => ?_) | refine q_ifeq (pc := 65) rfl (fun h65 => ?_) (fun h65 => ?_)
              · first
                | (exfalso; omega (config := {splitDisjunctions := false}))
                | exact absurd rfl h65
                | skip
                  refine q_iload (pc := 73) rfl rfl ?_
                  refine q_istore (pc := 75) [_, _, _, _, _, _, _, _] rfl (Nat.le_of_ble_eq_true rfl) rfl ?_
                  refine q_iinc (pc := 77) [_, _, _, _, _, _, _, _] (-1) rfl rfl (by decide) rfl ?_
                  refine q_goto (pc := 80) rfl ?_
                  first
                  | (exact m_tidesL hd hl hq h36 hk T0 hp hm ht e71 e72 tk0 f0 hf kk k0 (by omega) (c + 1) (by rw [q38] at hcn; have hcn : cntf f0 (k0 + 1) = cntf f0 k0 + 1 := hcn; omega) (nI k0) (Or.inr ⟨k0, Nat.le_refl _, by omega, rfl, q38, fun j q1 q2 => by omega⟩) (upN β 89 k0) (fun i hi => upN_n hi) h s1 H N (f2.tr (f3.mono (fun i g => Or.inr g))) _)
                  | (exact m_tidesL hd hl hq h36 hk T0 hp hm ht e71 e72 tk0 f0 hf kk k0 (by omega) (c + 0) (by rw [q38] at hcn; have hcn : cntf f0 (k0 + 1) = cntf f0 k0 + 0 := hcn; omega) v (hlv v q38 hv) (upN β 89 k0) (fun i hi => upN_n hi) h s1 H N (f2.tr (f3.mono (fun i g => Or.inr g))) _)
              · first
                | (exfalso; omega (config := {splitDisjunctions := false}))
                | exact absurd rfl h65
                | skip
                  refine q_iload (pc := 68) rfl rfl ?_
                  refine q_goto (pc := 70) rfl ?_
                  refine q_istore (pc := 75) [_, _, _, _, _, _, _, _] rfl (Nat.le_of_ble_eq_true rfl) rfl ?_
                  refine q_iinc (pc := 77) [_, _, _, _, _, _, _, _] (-1) rfl rfl (by decide) rfl ?_
                  refine q_goto (pc := 80) rfl ?_
                  first
                  | (exact m_tidesL hd hl hq h36 hk T0 hp hm ht e71 e72 tk0 f0 hf kk k0 (by omega) (c + 1) (by rw [q38] at hcn; have hcn : cntf f0 (k0 + 1) = cntf f0 k0 + 1 := hcn; omega) (nI k0) (Or.inr ⟨k0, Nat.le_refl _, by omega, rfl, q38, fun j q1 q2 => by omega⟩) (upN β 89 k0) (fun i hi => upN_n hi) h s1 H N (f2.tr (f3.mono (fun i g => Or.inr g))) _)
                  | (exact m_tidesL hd hl hq h36 hk T0 hp hm ht e71 e72 tk0 f0 hf kk k0 (by omega) (c + 0) (by rw [q38] at hcn; have hcn : cntf f0 (k0 + 1) = cntf f0 k0 + 0 := hcn; omega) v (hlv v q38 hv) (upN β 89 k0) (fun i hi => upN_n hi) h s1 H N (f2.tr (f3.mono (fun i g => Or.inr g))) _)
          · first
            | (exfalso; omega (config := {splitDisjunctions := false}))
            | exact absurd rfl h52
            | skip
              refine q_iconst (pc := 55) rfl (nI 1) (by decide) ?_
              refine q_goto (pc := 56) rfl ?_
              first | refine n_iadd (pc := 60) rfl ?_ | refine q_iadd (pc := 60) rfl ?_
              refine q_istore (pc := 61) [_, _, _, _, _, _, _, _] rfl (Nat.le_of_ble_eq_true rfl) rfl ?_
              refine q_iload (pc := 63) rfl rfl ?_
              first | refine n_ifeq (pc := 65) rfl (by omega) (fun h65 => ?_) (fun h65 => ?_) | refine q_ifeq (pc := 65) rfl (fun h65 => ?_) (fun h65 => ?_)
              · first
                | (exfalso; omega (config := {splitDisjunctions := false}))
                | exact absurd rfl h65
                | skip
                  refine q_iload (pc := 73) rfl rfl ?_
                  refine q_istore (pc := 75) [_, _, _, _, _, _, _, _] rfl (Nat.le_of_ble_eq_true rfl) rfl ?_
                  refine q_iinc (pc := 77) [_, _, _, _, _, _, _, _] (-1) rfl rfl (by decide) rfl ?_
                  refine q_goto (pc := 80) rfl ?_
                  first
                  | (exact m_tidesL hd hl hq h36 hk T0 hp hm ht e71 e72 tk0 f0 hf kk k0 (by omega) (c + 1) (by rw [q38] at hcn; have hcn : cntf f0 (k0 + 1) = cntf f0 k0 + 1 := hcn; omega) (nI k0) (Or.inr ⟨k0, Nat.le_refl _, by omega, rfl, q38, fun j q1 q2 => by omega⟩) (upN β 89 k0) (fun i hi => upN_n hi) h s1 H N (f2.tr (f3.mono (fun i g => Or.inr g))) _)
                  | (exact m_tidesL hd hl hq h36 hk T0 hp hm ht e71 e72 tk0 f0 hf kk k0 (by omega) (c + 0) (by rw [q38] at hcn; have hcn : cntf f0 (k0 + 1) = cntf f0 k0 + 0 := hcn; omega) v (hlv v q38 hv) (upN β 89 k0) (fun i hi => upN_n hi) h s1 H N (f2.tr (f3.mono (fun i g => Or.inr g))) _)
              · first
                | (exfalso; omega (config := {splitDisjunctions := false}))
                | exact absurd rfl h65
                | skip
                  refine q_iload (pc := 68) rfl rfl ?_
                  refine q_goto (pc := 70) rfl ?_
                  refine q_istore (pc := 75) [_, _, _, _, _, _, _, _] rfl (Nat.le_of_ble_eq_true rfl) rfl ?_
                  refine q_iinc (pc := 77) [_, _, _, _, _, _, _, _] (-1) rfl rfl (by decide) rfl ?_
                  refine q_goto (pc := 80) rfl ?_
                  first
                  | (exact m_tidesL hd hl hq h36 hk T0 hp hm ht e71 e72 tk0 f0 hf kk k0 (by omega) (c + 1) (by rw [q38] at hcn; have hcn : cntf f0 (k0 + 1) = cntf f0 k0 + 1 := hcn; omega) (nI k0) (Or.inr ⟨k0, Nat.le_refl _, by omega, rfl, q38, fun j q1 q2 => by omega⟩) (upN β 89 k0) (fun i hi => upN_n hi) h s1 H N (f2.tr (f3.mono (fun i g => Or.inr g))) _)
                  | (exact m_tidesL hd hl hq h36 hk T0 hp hm ht e71 e72 tk0 f0 hf kk k0 (by omega) (c + 0) (by rw [q38] at hcn; have hcn : cntf f0 (k0 + 1) = cntf f0 k0 + 0 := hcn; omega) v (hlv v q38 hv) (upN β 89 k0) (fun i hi => upN_n hi) h s1 H N (f2.tr (f3.mono (fun i g => Or.inr g))) _)
termination_by k0
theorem m_tidesS {z0 z1 z2 z3 z7 : Option Value} {c : Int32} (kk : wq d 203 18 [z0, z1, z2, z3, some (.int c), some (.int (-1)), some (.int (nI 100 + (-1))), z7] [] h Q) : wq d 203 18 [z0, z1, z2, z3, some (.int c), some (.int (-1)), some (.int (nI 99)), z7] [] h Q := kk
theorem m_tidesE {a4 a5 : Int32} {z1 : Option Value} {b2 : Nat} {γ : Nat → Nat} {a6 : Int32} (hl : 75 ≤ P.1) (hb : b2 ≤ 1) (H : HR P h s) (N : NW s γ) (hγ : ∀ i, i ≠ 89 → γ i = β i) (kk : ∀ h', HR P h' (stv s 55 89 (nI (β 89))) → NW (stv s 55 89 (nI (β 89))) β → Q (some (.int (if b2 = 0 then a5 else a4))) h') (z7 : Option Value) : wq d 203 83 [some (.ref 54), z1, some (.int (nI b2)), some (.int (nI (β 89))), some (.int a4), some (.int a5), some (.int a6), z7] [] h Q := by
  have NN : NW (stv s 55 89 (nI (β 89))) β := N.up.cg (fun i _ => by
    unfold upN
    by_cases g : i = 89
    · rw [if_pos g, g]
    · rw [if_neg g]
      exact hγ i g)
  refine q_aload_n (pc := 83) rfl rfl rfl ?_
  refine q_getf (pc := 84) rfl (by exact HR.c H hl _ rfl) rfl rfl ?_
  refine q_bipush (pc := 87) rfl (nI 89) (by decide) ?_
  refine q_iload_n (pc := 89) rfl rfl ?_
  refine r_ist2 (pc := 90) rfl H hl rfl (fun _ => rfl) rfl (by omega) (by omega) ?_
  intro h H
  refine q_iload_n (pc := 91) rfl rfl ?_
  first | refine n_ifeq (pc := 92) rfl (by omega) (fun h92 => ?_) (fun h92 => ?_) | refine q_ifeq (pc := 92) rfl (fun h92 => ?_) (fun h92 => ?_)
  · first
    | (exfalso; omega (config := {splitDisjunctions := false}))
    | exact absurd rfl h92
    | skip
      refine q_iload (pc := 100) rfl rfl ?_
      refine q_iret (pc := 102) rfl (rfl) ?_
      have e := kk _ H NN
      first
      | (rw [if_pos (by omega)] at e; exact e)
      | (rw [if_neg (by omega)] at e; exact e)
  · first
    | (exfalso; omega (config := {splitDisjunctions := false}))
    | exact absurd rfl h92
    | skip
      refine q_iload (pc := 95) rfl rfl ?_
      refine q_goto (pc := 97) rfl ?_
      refine q_iret (pc := 102) rfl (rfl) ?_
      have e := kk _ H NN
      first
      | (rw [if_pos (by omega)] at e; exact e)
      | (rw [if_neg (by omega)] at e; exact e)
theorem m_tides {q n0 p m t n b2 : Nat} (hd : 7 ≤ d) (H : HR P h s) (hl : 75 ≤ P.1) (N : NW s β) (hb : b2 ≤ 1) (hq : q < 4) (h36 : n0 ≤ 36) (hk : ∀ i, i < 72 → β i ≤ 9) {F : Nat → Int32} (T : MT s n C E) (tk : TKN s p m t) (hp : p ≤ 5) (hm : m ≤ 9) (ht : t < n) (e71 : s 71 q = nI n0) (e72 : ∀ i, i < 40 → s 72 (40 * q + i) = F i) (f0 : Nat → Bool) (hf : ∀ v, v < 100 → f0 v = alB (lyG C E (upN β 89 v) p m t) F n0) (kk : ∀ h' s', HR P h' s' → sf s s' (fun i => i = 55 ∨ i = 63) → NW s' β → Q (some (.int (if b2 = 0 then lsN f0 100 else nI (cntf f0 100)))) h') : wc d 203 [.ref 54, .int (nI q), .int (nI b2)] h Q := by
  refine wc.go [_, _, _, _, _, _, _, _] rfl ?_
  refine q_aload_n (pc := 0) rfl rfl rfl ?_
  refine q_getf (pc := 1) rfl (by exact HR.c H hl _ rfl) rfl rfl ?_
  refine q_bipush (pc := 4) rfl (nI 89) (by decide) ?_
  refine n_ild (pc := 6) rfl (by first | exact HR.la H hl rfl rfl N | exact HR.la0 H hl rfl rfl) rfl (by omega) (by omega) ?_
  refine q_istore_n (pc := 7) [_, _, _, _, _, _, _, _] rfl (Nat.le_of_ble_eq_true rfl) rfl ?_
  refine q_iconst (pc := 8) rfl (nI 0) (by decide) ?_
  refine q_istore (pc := 9) [_, _, _, _, _, _, _, _] rfl (Nat.le_of_ble_eq_true rfl) rfl ?_
  refine q_iconst (pc := 11) rfl (-1) (by decide) ?_
  refine q_istore (pc := 12) [_, _, _, _, _, _, _, _] rfl (Nat.le_of_ble_eq_true rfl) rfl ?_
  refine q_bipush (pc := 14) rfl (nI 99) (by decide) ?_
  refine q_istore (pc := 16) [_, _, _, _, _, _, _, _] rfl (Nat.le_of_ble_eq_true rfl) rfl ?_
  refine m_tidesS (m_tidesL hd hl hq h36 hk T hp hm ht e71 e72 tk f0 hf (fun h' s' γ z6 z7 H f N hγ => ?_) 100 (Nat.le_refl _) 0 (Nat.zero_add _) (-1) (Or.inl ⟨rfl, fun j q1 q2 => by omega⟩) β (fun i _ => rfl) h s H N sf.rf _)
  exact m_tidesE hl hb H N hγ (fun h2 H N => kk _ _ H (f.st (Or.inl rfl)) N) _
theorem m_isBehS {z0 z1 z2 z4 : Option Value} {b : Bool} (hb : b = true) (kk : wq d 204 18 [z0, z1, z2, some (.int (nI b.toNat)), z4] [] h Q) : wq d 204 18 [z0, z1, z2, some (.int (nI 1)), z4] [] h Q := by
  subst hb
  exact kk
theorem m_isBehE {z1 z2 : Option Value} {b : Bool} {γ : Nat → Nat} (hd : 1 ≤ d) (hl : 75 ≤ P.1) (H : HR P h s) (W : ∀ i, i < 91 → s 57 i = nI (γ i)) (kk : ∀ h' s', HR P h' s' → sf s s' (fun i => i = 55) → NW s' γ → Q (some (.int (nI b.toNat))) h') (z4 : Option Value) : wq d 204 67 [some (.ref 54), z1, z2, some (.int (nI b.toNat)), z4] [] h Q := by
  refine q_aload_n (pc := 67) rfl rfl rfl ?_
  refine q_aload_n (pc := 68) rfl rfl rfl ?_
  refine q_getf (pc := 69) rfl (by exact HR.c H hl _ rfl) rfl rfl ?_
  refine q_callV (pc := 72) _ rfl rfl rfl (by exact HR.c H hl _ rfl) rfl (Nat.le_of_ble_eq_true rfl) (by omega) _ rfl ?_
  refine m_lay H hl (Or.inr rfl) W ?_
  intro h s1 H f N
  refine q_iload_n (pc := 75) rfl rfl ?_
  refine q_iret (pc := 76) rfl (by cases b <;> rfl) ?_
  exact kk _ _ H f N
theorem m_isBehL {q n0 : Nat} {z2 : Int32} (hl : 75 ≤ P.1) (H : HR P h s) (hq : q < 4) (h36 : n0 ≤ 36) {γ : Nat → Nat} (N : NW s γ) {F : Nat → Int32} (e71 : s 71 q = nI n0) (e72 : ∀ i, i < 40 → s 72 (40 * q + i) = F i) (hg : ∀ i, i < 36 → γ i ≤ 9) (kk : ∀ z4, wq d 204 67 [some (.ref 54), some (.int (nI q)), some (.int z2), some (.int (nI (decide (∀ c, c < n0 → nI (γ c) = F c)).toNat)), z4] [] h Q) (u i : Nat) (hi : i + u = n0) : wq d 204 18 [some (.ref 54), some (.int (nI q)), some (.int z2), some (.int (nI (decide (∀ c, c < i → nI (γ c) = F c)).toNat)), some (.int (nI i))] [] h Q := by
  match u, hi with
  | 0, hi =>
    obtain rfl : i = n0 := by omega
    refine q_iload (pc := 18) rfl rfl ?_
    refine q_aload_n (pc := 20) rfl rfl rfl ?_
    refine q_getf (pc := 21) rfl (by exact HR.c H hl _ rfl) rfl rfl ?_
    refine q_iload_n (pc := 24) rfl rfl ?_
    refine n_ild (pc := 25) rfl (by first | exact HR.la H hl rfl rfl N | exact HR.la0 H hl rfl rfl) rfl (by omega) (by omega) ?_
    rw [e71]
    first | refine n_icmpge (pc := 26) rfl (by omega) (by omega) (fun h26 => ?_) (fun h26 => ?_) | refine q_icmpge (pc := 26) rfl (fun h26 => ?_) (fun h26 => ?_)
    · exact kk _
    · first | (exfalso; omega) | exact absurd h26 (nI_pos (by omega)) | exact absurd (nI_pos' (by omega)) h26
  | u + 1, hi =>
    have ih := m_isBehL (z2 := z2) hl H hq h36 N e71 e72 hg kk u (i + 1) (by omega)
    have g3 := e72 i (by omega)
    by_cases hb : ∀ c, c < i → nI (γ c) = F c
    · rw [decide_eq_true hb]
      by_cases hi2 : nI (γ i) = F i
      · rw [decide_eq_true (fun c hc => by
          rcases Nat.lt_succ_iff_lt_or_eq.mp hc with g | g
          · exact hb c g
          · rw [g]; exact hi2)] at ih
        rw [show nI true.toNat = nI 1 from rfl] at ih ⊢
        refine q_iload (pc := 18) rfl rfl ?_
        refine q_aload_n (pc := 20) rfl rfl rfl ?_
        refine q_getf (pc := 21) rfl (by exact HR.c H hl _ rfl) rfl rfl ?_
        refine q_iload_n (pc := 24) rfl rfl ?_
        refine n_ild (pc := 25) rfl (by first | exact HR.la H hl rfl rfl N | exact HR.la0 H hl rfl rfl) rfl (by omega) (by omega) ?_
        rw [e71]
        first | refine n_icmpge (pc := 26) rfl (by omega) (by omega) (fun h26 => ?_) (fun h26 => ?_) | refine q_icmpge (pc := 26) rfl (fun h26 => ?_) (fun h26 => ?_)
        · first | (exfalso; omega) | exact absurd h26 (nI_pos (by omega)) | exact absurd (nI_pos' (by omega)) h26
        · refine q_iload_n (pc := 29) rfl rfl ?_
          refine q_ifeq (pc := 30) rfl (fun h30 => ?_) (fun h30 => ?_)
          · exact absurd h30 (by decide)
          · first
            | (exfalso; omega (config := {splitDisjunctions := false}))
            | exact absurd rfl h30
            | skip
              refine q_aload_n (pc := 33) rfl rfl rfl ?_
              refine q_getf (pc := 34) rfl (by exact HR.c H hl _ rfl) rfl rfl ?_
              refine q_iload (pc := 37) rfl rfl ?_
              refine n_ild (pc := 39) rfl (by first | exact HR.la H hl rfl rfl N | exact HR.la0 H hl rfl rfl) rfl (by omega) (by omega) ?_
              refine q_aload_n (pc := 40) rfl rfl rfl ?_
              refine q_getf (pc := 41) rfl (by exact HR.c H hl _ rfl) rfl rfl ?_
              refine q_bipush (pc := 44) rfl (nI 40) (by decide) ?_
              refine q_iload_n (pc := 46) rfl rfl ?_
              first | refine n_imul (pc := 47) rfl ?_ | refine q_imul (pc := 47) rfl ?_
              refine q_iload (pc := 48) rfl rfl ?_
              first | refine n_iadd (pc := 50) rfl ?_ | refine q_iadd (pc := 50) rfl ?_
              refine n_ild (pc := 51) rfl (by first | exact HR.la H hl rfl rfl N | exact HR.la0 H hl rfl rfl) rfl (by omega) (by omega) ?_
              rw [g3]
              refine q_icmpne (pc := 52) rfl (fun h52 => ?_) (fun h52 => ?_)
              · exact absurd hi2 h52
              · first
                | (exfalso; omega (config := {splitDisjunctions := false}))
                | exact absurd rfl h52
                | skip
                  refine q_iconst (pc := 55) rfl (nI 1) (by decide) ?_
                  refine q_goto (pc := 56) rfl ?_
                  refine q_istore_n (pc := 60) [_, _, _, _, _] rfl (Nat.le_of_ble_eq_true rfl) rfl ?_
                  first | refine n_iinc (pc := 61) rfl [_, _, _, _, _] 1 (by decide) rfl rfl ?_ | refine q_iinc (pc := 61) [_, _, _, _, _] (1) rfl rfl (by decide) rfl ?_
                  refine q_goto (pc := 64) rfl ?_
                  exact ih
      · rw [decide_eq_false (fun z => hi2 (z i (by omega)))] at ih
        rw [show nI true.toNat = nI 1 from rfl]
        rw [show nI false.toNat = nI 0 from rfl] at ih
        refine q_iload (pc := 18) rfl rfl ?_
        refine q_aload_n (pc := 20) rfl rfl rfl ?_
        refine q_getf (pc := 21) rfl (by exact HR.c H hl _ rfl) rfl rfl ?_
        refine q_iload_n (pc := 24) rfl rfl ?_
        refine n_ild (pc := 25) rfl (by first | exact HR.la H hl rfl rfl N | exact HR.la0 H hl rfl rfl) rfl (by omega) (by omega) ?_
        rw [e71]
        first | refine n_icmpge (pc := 26) rfl (by omega) (by omega) (fun h26 => ?_) (fun h26 => ?_) | refine q_icmpge (pc := 26) rfl (fun h26 => ?_) (fun h26 => ?_)
        · first | (exfalso; omega) | exact absurd h26 (nI_pos (by omega)) | exact absurd (nI_pos' (by omega)) h26
        · refine q_iload_n (pc := 29) rfl rfl ?_
          refine q_ifeq (pc := 30) rfl (fun h30 => ?_) (fun h30 => ?_)
          · exact absurd h30 (by decide)
          · first
            | (exfalso; omega (config := {splitDisjunctions := false}))
            | exact absurd rfl h30
            | skip
              refine q_aload_n (pc := 33) rfl rfl rfl ?_
              refine q_getf (pc := 34) rfl (by exact HR.c H hl _ rfl) rfl rfl ?_
              refine q_iload (pc := 37) rfl rfl ?_
              refine n_ild (pc := 39) rfl (by first | exact HR.la H hl rfl rfl N | exact HR.la0 H hl rfl rfl) rfl (by omega) (by omega) ?_
              refine q_aload_n (pc := 40) rfl rfl rfl ?_
              refine q_getf (pc := 41) rfl (by exact HR.c H hl _ rfl) rfl rfl ?_
              refine q_bipush (pc := 44) rfl (nI 40) (by decide) ?_
              refine q_iload_n (pc := 46) rfl rfl ?_
              first | refine n_imul (pc := 47) rfl ?_ | refine q_imul (pc := 47) rfl ?_
              refine q_iload (pc := 48) rfl rfl ?_
              first | refine n_iadd (pc := 50) rfl ?_ | refine q_iadd (pc := 50) rfl ?_
              refine n_ild (pc := 51) rfl (by first | exact HR.la H hl rfl rfl N | exact HR.la0 H hl rfl rfl) rfl (by omega) (by omega) ?_
              rw [g3]
              refine q_icmpne (pc := 52) rfl (fun h52 => ?_) (fun h52 => ?_)
              · first
                | (exfalso; omega (config := {splitDisjunctions := false}))
                | exact absurd rfl h52
                | skip
                  refine q_iconst (pc := 59) rfl (nI 0) (by decide) ?_
                  refine q_istore_n (pc := 60) [_, _, _, _, _] rfl (Nat.le_of_ble_eq_true rfl) rfl ?_
                  first | refine n_iinc (pc := 61) rfl [_, _, _, _, _] 1 (by decide) rfl rfl ?_ | refine q_iinc (pc := 61) [_, _, _, _, _] (1) rfl rfl (by decide) rfl ?_
                  refine q_goto (pc := 64) rfl ?_
                  exact ih
              · exact absurd h52 hi2
    · rw [decide_eq_false hb]
      rw [decide_eq_false (fun z => hb (fun c hc => z c (by omega)))] at ih
      rw [show nI false.toNat = nI 0 from rfl] at ih ⊢
      refine q_iload (pc := 18) rfl rfl ?_
      refine q_aload_n (pc := 20) rfl rfl rfl ?_
      refine q_getf (pc := 21) rfl (by exact HR.c H hl _ rfl) rfl rfl ?_
      refine q_iload_n (pc := 24) rfl rfl ?_
      refine n_ild (pc := 25) rfl (by first | exact HR.la H hl rfl rfl N | exact HR.la0 H hl rfl rfl) rfl (by omega) (by omega) ?_
      rw [e71]
      first | refine n_icmpge (pc := 26) rfl (by omega) (by omega) (fun h26 => ?_) (fun h26 => ?_) | refine q_icmpge (pc := 26) rfl (fun h26 => ?_) (fun h26 => ?_)
      · first | (exfalso; omega) | exact absurd h26 (nI_pos (by omega)) | exact absurd (nI_pos' (by omega)) h26
      · refine q_iload_n (pc := 29) rfl rfl ?_
        refine q_ifeq (pc := 30) rfl (fun h30 => ?_) (fun h30 => ?_)
        · first
          | (exfalso; omega (config := {splitDisjunctions := false}))
          | exact absurd rfl h30
          | skip
            refine q_iconst (pc := 59) rfl (nI 0) (by decide) ?_
            refine q_istore_n (pc := 60) [_, _, _, _, _] rfl (Nat.le_of_ble_eq_true rfl) rfl ?_
            first | refine n_iinc (pc := 61) rfl [_, _, _, _, _] 1 (by decide) rfl rfl ?_ | refine q_iinc (pc := 61) [_, _, _, _, _] (1) rfl rfl (by decide) rfl ?_
            refine q_goto (pc := 64) rfl ?_
            exact ih
        · exact absurd rfl h30
termination_by u
theorem m_isBeh {q n0 r n : Nat} (hd : 6 ≤ d) (H : HR P h s) (hl : 75 ≤ P.1) (N : NW s β) (hq : q < 4) (h36 : n0 ≤ 36) (hk : bok β n) (h9 : β 89 ≤ 999) {F : Nat → Int32} (T : MT s n C E) (hr : r ≤ 6) (e71 : s 71 q = nI n0) (e72 : ∀ i, i < 40 → s 72 (40 * q + i) = F i) (kk : ∀ h' s', HR P h' s' → gf bS fF s s' → NW s' β → Q (some (.int (nI (bhB C E β F n0 r).toNat))) h') : wc d 204 [.ref 54, .int (nI q), .int (nI r)] h Q := by
  refine wc.go [_, _, _, _, _] rfl ?_
  refine q_aload_n (pc := 0) rfl rfl rfl ?_
  refine q_aload_n (pc := 1) rfl rfl rfl ?_
  refine q_getf (pc := 2) rfl (by exact HR.c H hl _ rfl) rfl rfl ?_
  refine q_callV (pc := 5) _ rfl rfl rfl (by exact HR.c H hl _ rfl) rfl (Nat.le_of_ble_eq_true rfl) (by omega) _ rfl ?_
  refine m_keep H hl (Or.inr rfl) N ?_
  intro h s1 H f1 W1
  have N := N.fr f1 (by decide)
  have fm1 : mf s s1 := ⟨f1.mono (fun i g => by unfold mS; omega), congrFun (f1 54 (by decide)) _, congrFun (f1 54 (by decide)) _, congrFun (f1 54 (by decide)) _⟩
  have T := T.fr fm1
  refine q_aload_n (pc := 8) rfl rfl rfl ?_
  refine q_iload_n (pc := 9) rfl rfl ?_
  refine q_callV (pc := 10) _ rfl rfl rfl (by exact HR.c H hl _ rfl) rfl (Nat.le_of_ble_eq_true rfl) (by omega) _ rfl ?_
  refine m_flow (by omega) H hl N T hk hr ?_
  intro h s2 H f2 N
  have W2 : ∀ i, i < 91 → s2 57 i = nI (β i) := fun i hi => (congrFun (f2.1 57 (by unfold fS; decide)) i).trans (W1 i hi)
  refine q_iconst (pc := 13) rfl (nI 1) (by decide) ?_
  refine q_istore_n (pc := 14) [_, _, _, _, _] rfl (Nat.le_of_ble_eq_true rfl) rfl ?_
  refine q_iconst (pc := 15) rfl (nI 0) (by decide) ?_
  refine q_istore (pc := 16) [_, _, _, _, _] rfl (Nat.le_of_ble_eq_true rfl) rfl ?_
  refine m_isBehS (decide_eq_true (fun c hc => absurd hc (Nat.not_lt_zero c))) (m_isBehL hl H hq h36 N ((congrFun (f2.1 71 (by unfold fS; decide)) _).trans ((congrFun (f1 71 (by decide)) _).trans e71)) (fun i hi => (congrFun (f2.1 72 (by unfold fS; decide)) _).trans ((congrFun (f1 72 (by decide)) _).trans (e72 i hi))) (fun i hi => (bok_flo hk h9).1 i (by omega)) (fun z4 => ?_) n0 0 (by omega))
  exact m_isBehE (by omega) hl H W2 (fun h3 s3 H f3 N3 => kk _ _ H (((gf.of f1 (fun i g => by unfold bS; omega) (by decide)).tr (f2.mono (fun i g => by unfold fS at g; unfold bS; omega) (fun i g => g))).tr (gf.of f3 (fun i g => by unfold bS; omega) (by decide))) N3) _
end P57
