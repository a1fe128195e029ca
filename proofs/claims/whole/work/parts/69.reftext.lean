/-! ===== the reference: a text ===== -/
section P69
variable {d k pc a i j c p b t n m part q : Nat} {v : Int} {L L' : mx_L} {st r : List Value} {P : mx_Pm} {h : mx_H} {s : mx_St} {Q : Option Value → mx_H → Prop} {x y w z u : Int32} {β κ : Nat → Nat} {C : Nat → Nat → Int32} {E : Nat → Nat → Nat} {ik tz : Nat} {tp : Nat → Nat} {σ : Nat → Int32} {sz : Nat → Nat} {cl : Nat → Nat → Int32}
variable {out : List Int32} {S : List Nat} {o : Nat} {T : Nat → Int32}
def tqS (i : Nat) : Prop := i = 54 ∨ i = 59 ∨ i = 60 ∨ i = 62
def tq (n : Nat) (s s' : mx_St) : Prop := gf tqS qF s s' ∧ (∀ j, j < 160 * n → s' 59 j = s 59 j) ∧ ∀ j, j < 3 * n → s' 60 j = s 60 j
theorem tq.rf : tq n s s := ⟨gf.rf, fun _ _ => rfl, fun _ _ => rfl⟩
theorem tq.tr {s s1 s2 : mx_St} (a : tq n s s1) (b : tq n s1 s2) : tq n s s2 := ⟨a.1.tr b.1, fun j hj => (b.2.1 j hj).trans (a.2.1 j hj), fun j hj => (b.2.2 j hj).trans (a.2.2 j hj)⟩
theorem zt {s s' : mx_St} (a : zf n s s') : tq n s s' := ⟨a.1.mono (fun i g => by unfold qS at g; unfold tqS; omega) (fun _ g => g), a.2, fun j _ => congrFun (a.1.1 60 (by unfold qS; omega)) _⟩
theorem TX.ft {s s' : mx_St} (x : TX s n tp tz) (f : tq n s s') : TX s' n tp tz := ⟨(f.1.2 5 (by unfold qF; omega)).trans x.1, fun i hi => (congrFun (f.1.1 58 (by unfold tqS; omega)) _).trans (x.2.1 i hi), x.2.2.1, fun k hk i hi => (congrFun (f.1.1 61 (by unfold tqS; omega)) _).trans (x.2.2.2.1 k hk i hi), (f.1.2 12 (by unfold qF; omega)).trans x.2.2.2.2.1, x.2.2.2.2.2⟩
theorem tk_22' (h : srV (byN tp tz (tpl tp tz i)) = 0) : tkT tp tz i = -22 := by
  rw [tk_3 (by omega) (by omega)]
  unfold srV at h
  split at h
  · rename_i q
    rw [q]
    rfl
  · (repeat' split at h) <;> omega
theorem sgV_22 : ∀ b, b < 257 → sgV b = -22 → b = 256 := by decide +kernel
theorem wcd_22 : ∀ k, k < 13 → wcd k ≠ -22 := by decide
theorem tk_22 (hz : tz ≤ 160 ∧ ∀ i, i < tz → tp i ≤ 255) (h : tkT tp tz i = -22) : srV (byN tp tz (tpl tp tz i)) = 0 := by
  have hb := byN_le (tp := tp) (tz := tz) (j := tpl tp tz i) hz.2
  by_cases g : srV (byN tp tz (tpl tp tz i)) = 1
  · rw [tk_1 g] at h
    exact absurd h (wcd_22 _ (by have := wdN_le (tp := tp) (tz := tz) (u := tpl tp tz i) (w := stP tp tz (i + 1)); omega))
  · by_cases g2 : srV (byN tp tz (tpl tp tz i)) = 2
    · rw [tk_2 g2] at h
      split at h
      · exact absurd h (by decide)
      · rename_i g4
        have nl := nm_lt (tp := tp) (tz := tz) (u := tpl tp tz i) (l := stP tp tz (i + 1) - tpl tp tz i) hz (by omega)
        have n31 : nmF tp tz (tpl tp tz i) (stP tp tz (i + 1) - tpl tp tz i) < 2 ^ 31 := by omega
        exact absurd (show nI (nmF tp tz (tpl tp tz i) (stP tp tz (i + 1) - tpl tp tz i)) < 0 by rw [h]; decide) (nI_pos n31)
    · rw [tk_3 g g2] at h
      rw [sgV_22 _ (by omega) h]
      rfl
theorem m_rdL {R : Nat ⊕ (List Int32 × (Nat → Nat))} (hd : 7 ≤ d) (hl : 75 ≤ P.1) {s0 : mx_St} (hx0 : TX s0 n tp tz) (kT : ∀ h' s' out' E', R = .inr (out', E') → HR P h' s' → tq n s0 s' → (∀ j, j < out'.length → s' 59 (160 * n + j) = mc (out'.getD j 0)) → (∀ q, q < 3 → s' 60 (3 * n + q) = nI (E' q)) → Q (some (.int 1)) h') (kF : ∀ h' s' f, R = .inl f → HR P h' s' → tq n s0 s' → s' 54 7 = nI (tpl tp tz f) → Q (some (.int 0)) h') (m p : Nat) (hp : p + m = 3) (i : Nat) (out : List Int32) (F : Nat → Nat) (hR : rdT (tkT tp tz) m p i out F = R) (h : mx_H) (s : mx_St) (H : HR P h s) (f : tq n s0 s) (X : LX s tp tz i) (a : AT tp tz i) (e9 : s 54 9 = nI 0) (e13 : s 54 13 = nI out.length) (ec : ∀ j, j < out.length → s 59 (160 * n + j) = mc (out.getD j 0)) (hlen : out.length ≤ i) (hE : ∀ q, q < p → s 60 (3 * n + q) = nI (F q)) : wq d 161 6 [some (.ref 54), some (.int (nI p))] [] h Q := by
  have hx := hx0.ft f
  have x3 := hx.2.2.1
  have x12 := hx.2.2.2.2
  have hi := a.le x3.1
  have hT4 := a.2
  have e8 := X.2.2
  match m, hp, hR with
  | 0, hp, hR =>
    obtain rfl : p = 3 := by omega
    rw [rdT] at hR
    have hsr := srV_le (byN tp tz (tpl tp tz i))
    by_cases g : tkT tp tz i = -22
    · rw [if_pos g] at hR
      have g0 : srV (byN tp tz (tpl tp tz i)) = 0 := tk_22 x3 g
      refine q_iload_n (pc := 6) rfl rfl ?_
      refine q_iconst (pc := 7) rfl (nI 3) (by decide) ?_
      first | refine n_icmpge (pc := 8) rfl (by omega) (by omega) (fun h8 => ?_) (fun h8 => ?_) | refine q_icmpge (pc := 8) rfl (fun h8 => ?_) (fun h8 => ?_)
      · refine q_aload_n (pc := 73) rfl rfl rfl ?_
        refine q_getf (pc := 74) rfl (by exact HR.c H hl _ rfl) rfl rfl ?_
        rw [e8]
        first | refine n_ifne (pc := 77) rfl (by omega) (fun h77 => ?_) (fun h77 => ?_) | refine q_ifne (pc := 77) rfl (fun h77 => ?_) (fun h77 => ?_)
        · first | (exfalso; omega) | exact absurd h77 (nI_pos (by omega)) | exact absurd (nI_pos' (by omega)) h77
        · refine q_iconst (pc := 80) rfl (nI 1) (by decide) ?_
          refine q_goto (pc := 81) rfl ?_
          refine q_iret (pc := 85) rfl (rfl) ?_
          exact kT _ _ _ _ hR.symm H f ec hE
      · first | (exfalso; omega) | exact absurd h8 (nI_pos (by omega)) | exact absurd (nI_pos' (by omega)) h8
    · rw [if_neg g] at hR
      have g0 : srV (byN tp tz (tpl tp tz i)) ≠ 0 := fun e => g (tk_22' e)
      refine q_iload_n (pc := 6) rfl rfl ?_
      refine q_iconst (pc := 7) rfl (nI 3) (by decide) ?_
      first | refine n_icmpge (pc := 8) rfl (by omega) (by omega) (fun h8 => ?_) (fun h8 => ?_) | refine q_icmpge (pc := 8) rfl (fun h8 => ?_) (fun h8 => ?_)
      · refine q_aload_n (pc := 73) rfl rfl rfl ?_
        refine q_getf (pc := 74) rfl (by exact HR.c H hl _ rfl) rfl rfl ?_
        rw [e8]
        first | refine n_ifne (pc := 77) rfl (by omega) (fun h77 => ?_) (fun h77 => ?_) | refine q_ifne (pc := 77) rfl (fun h77 => ?_) (fun h77 => ?_)
        · refine q_iconst (pc := 84) rfl (nI 0) (by decide) ?_
          refine q_iret (pc := 85) rfl (rfl) ?_
          exact kF _ _ _ hR.symm H f X.2.1
        · first | (exfalso; omega) | exact absurd h77 (nI_pos (by omega)) | exact absurd (nI_pos' (by omega)) h77
      · first | (exfalso; omega) | exact absurd h8 (nI_pos (by omega)) | exact absurd (nI_pos' (by omega)) h8
  | m + 1, hp, hR =>
    rw [rdT] at hR
    have h59 : sgP 59 (-18) := by unfold sgP; decide
    refine q_iload_n (pc := 6) rfl rfl ?_
    refine q_iconst (pc := 7) rfl (nI 3) (by decide) ?_
    first | refine n_icmpge (pc := 8) rfl (by omega) (by omega) (fun h8 => ?_) (fun h8 => ?_) | refine q_icmpge (pc := 8) rfl (fun h8 => ?_) (fun h8 => ?_)
    · first | (exfalso; omega) | exact absurd h8 (nI_pos (by omega)) | exact absurd (nI_pos' (by omega)) h8
    · refine q_aload_n (pc := 11) rfl rfl rfl ?_
      refine q_callV (pc := 12) _ rfl rfl rfl (by exact HR.c H hl _ rfl) rfl (Nat.le_of_ble_eq_true rfl) (by omega) _ rfl ?_
      refine m_word H hl hx X hT4 ?_
      refine q_bipush (pc := 15) rfl (nI 6) (by decide) ?_
      refine q_iload_n (pc := 17) rfl rfl ?_
      first | refine n_iadd (pc := 18) rfl ?_ | refine q_iadd (pc := 18) rfl ?_
      refine q_icmpeq (pc := 19) rfl (fun h19 => ?_) (fun h19 => ?_)
      · have hk : tkT tp tz i = ky p := (wdT_6 (by omega)).mp h19
        rw [if_pos hk] at hR
        have hE1 : ¬ isE (tkT tp tz i) := by
          rw [hk]
          exact ky_n p
        have hi2 := a.lt x3.1 hE1
        first
        | (exfalso; omega (config := {splitDisjunctions := false}))
        | exact absurd rfl h19
        | skip
          refine q_aload_n (pc := 24) rfl rfl rfl ?_
          refine q_callV (pc := 25) _ rfl rfl rfl (by exact HR.c H hl _ rfl) rfl (Nat.le_of_ble_eq_true rfl) (by omega) _ rfl ?_
          refine m_nextT (by omega) H hl hx X a hE1 (fun h s1 H f1 hx X a => ?_)
          have f2 : tq n s0 s1 := f.tr (zt (xz f1))
          refine q_aload_n (pc := 28) rfl rfl rfl ?_
          refine q_callV (pc := 29) _ rfl rfl rfl (by exact HR.c H hl _ rfl) rfl (Nat.le_of_ble_eq_true rfl) (by omega) _ rfl ?_
          refine m_isE (out := out) (by omega) H hl hx X a ((f1.2 9 (by unfold xF; omega)).trans e9) ((f1.2 13 (by unfold xF; omega)).trans e13) (fun j hj => (congrFun (f1.1 59 (by unfold xS; decide)) _).trans (ec j hj)) (by omega) (fun h s2 i' o' out' er H f3 ps2 hok2 X a hlen2 => ?_) (fun h s2 f' er H f3 X => ?_)
          · rw [er] at hR
            dsimp only at hR
            have f4 := f2.tr (zt f3)
            have hx := hx0.ft f4
            have o0 : 0 = o' := hok2.2
            refine q_ifeq (pc := 32) rfl (fun z => absurd z (by decide)) (fun _ => ?_)
            refine q_aload_n (pc := 35) rfl rfl rfl ?_
            refine q_bipush (pc := 36) rfl (nI 59) (by decide) ?_
            refine q_callV (pc := 38) _ rfl rfl rfl (by exact HR.c H hl _ rfl) rfl (Nat.le_of_ble_eq_true rfl) (by omega) _ rfl ?_
            refine m_isSign (c := 59) H hl hx X h59 (fun q38 => ?_) (fun q38 => ?_)
            · rw [if_pos q38] at hR
              have hE2 : ¬ isE (tkT tp tz i') := e_op (Or.inr (Or.inr (Or.inr (Or.inr q38))))
              refine q_ifne (pc := 41) rfl (fun _ => ?_) (fun z => absurd z (by decide))
              refine q_aload_n (pc := 46) rfl rfl rfl ?_
              refine q_getf (pc := 47) rfl (by exact HR.c H hl _ rfl) rfl rfl ?_
              refine q_iconst (pc := 50) rfl (nI 3) (by decide) ?_
              refine q_aload_n (pc := 51) rfl rfl rfl ?_
              refine q_getf (pc := 52) rfl (by exact HR.c H hl _ rfl) rfl rfl ?_
              rw [hx.2.2.2.2.1]
              first | refine n_imul (pc := 55) rfl ?_ | refine q_imul (pc := 55) rfl ?_
              refine q_iload_n (pc := 56) rfl rfl ?_
              first | refine n_iadd (pc := 57) rfl ?_ | refine q_iadd (pc := 57) rfl ?_
              refine q_aload_n (pc := 58) rfl rfl rfl ?_
              refine q_getf (pc := 59) rfl (by exact HR.c H hl _ rfl) rfl rfl ?_
              rw [ps2.2.1]
              refine r_ist2 (pc := 62) rfl H hl rfl (fun _ => rfl) rfl (by omega) (by omega) ?_
              intro h H
              have f5 : tq n s2 (stv s2 60 (3 * n + p) (nI out'.length)) := ⟨gf.wr (by unfold tqS; omega) (by decide), fun j _ => congrFun (stv_n (by decide)) _, fun j hj => stv_o (by omega)⟩
              have hx := hx.ft f5
              have X : LX (stv s2 60 (3 * n + p) (nI out'.length)) tp tz i' := ⟨(congrFun (stv_n (by decide)) _).trans X.1, (congrFun (stv_n (by decide)) _).trans X.2.1, (congrFun (stv_n (by decide)) _).trans X.2.2⟩
              refine q_aload_n (pc := 63) rfl rfl rfl ?_
              refine q_callV (pc := 64) _ rfl rfl rfl (by exact HR.c H hl _ rfl) rfl (Nat.le_of_ble_eq_true rfl) (by omega) _ rfl ?_
              refine m_nextT (by omega) H hl hx X a hE2 (fun h s3 H f6 hx X a => ?_)
              first | refine n_iinc (pc := 67) rfl [_, _] 1 (by decide) rfl rfl ?_ | refine q_iinc (pc := 67) [_, _] (1) rfl rfl (by decide) rfl ?_
              refine q_goto (pc := 70) rfl ?_
              have e54 : ∀ j, j = 9 ∨ j = 13 → s3 54 j = s2 54 j := fun j hj => (f6.2 j (by unfold xF; omega)).trans (congrFun (stv_n (by decide)) _)
              exact m_rdL hd hl hx0 kT kF m (p + 1) (by omega) (i' + 1) out' (up1 F p out'.length) hR h s3 H ((f4.tr f5).tr (zt (xz f6))) X a ((e54 9 (Or.inl rfl)).trans (ps2.1.trans (by rw [← o0]))) ((e54 13 (Or.inr rfl)).trans ps2.2.1) (fun j hj => by
                rw [f6.1 59 (by unfold xS; decide), stv_n (by decide)]
                exact ps2.2.2.2.1 j hj) (by omega) (fun q hq => by
                rw [f6.1 60 (by unfold xS; decide)]
                unfold up1
                by_cases e : q = p
                · rw [if_pos e, e, stv_a]
                · rw [if_neg e, stv_o (by omega)]
                  rw [f3.1.1 60 (by unfold qS; omega)]
                  rw [f1.1 60 (by unfold xS; decide)]
                  exact hE q (by omega))
            · rw [if_neg q38] at hR
              refine q_ifne (pc := 41) rfl (fun z => absurd z (by decide)) (fun _ => ?_)
              refine q_iconst (pc := 44) rfl (nI 0) (by decide) ?_
              refine q_iret (pc := 45) rfl (rfl) ?_
              first
              | (exact kF _ _ _ hR.symm H f4 X.2.1)
              | (exact kF _ _ _ hR.symm H (f2.tr (zt f3)) X.2.1)
          · rw [er] at hR
            dsimp only at hR
            refine q_ifeq (pc := 32) rfl (fun _ => ?_) (fun z => absurd (by decide) z)
            refine q_iconst (pc := 44) rfl (nI 0) (by decide) ?_
            refine q_iret (pc := 45) rfl (rfl) ?_
            first
            | (exact kF _ _ _ hR.symm H f4 X.2.1)
            | (exact kF _ _ _ hR.symm H (f2.tr (zt f3)) X.2.1)
      · have hk : ¬ tkT tp tz i = ky p := fun e => h19 ((wdT_6 (by omega)).mpr e)
        rw [if_neg hk] at hR
        first
        | (exfalso; omega (config := {splitDisjunctions := false}))
        | exact absurd rfl h19
        | skip
          refine q_iconst (pc := 22) rfl (nI 0) (by decide) ?_
          refine q_iret (pc := 23) rfl (rfl) ?_
          exact kF _ _ _ hR.symm H f X.2.1
termination_by m
theorem m_isText {R : Nat ⊕ (List Int32 × (Nat → Nat))} (hd : 8 ≤ d) (hl : 75 ≤ P.1) (H : HR P h s) (hx : TX s n tp tz) (e6 : s 54 6 = nI 0) (e9 : s 54 9 = nI 0) (e13 : s 54 13 = nI 0) (hR : rdTxt (tkT tp tz) = R) (kT : ∀ h' s' out' E', R = .inr (out', E') → HR P h' s' → tq n s s' → (∀ j, j < out'.length → s' 59 (160 * n + j) = mc (out'.getD j 0)) → (∀ q, q < 3 → s' 60 (3 * n + q) = nI (E' q)) → Q (some (.int 1)) h') (kF : ∀ h' s' f, R = .inl f → HR P h' s' → tq n s s' → s' 54 7 = nI (tpl tp tz f) → Q (some (.int 0)) h') : wc d 161 [.ref 54] h Q := by
  have hs := skN_le (tp := tp) (tz := tz) (j := 0)
  have ht : tpl tp tz 0 = skN tp tz 0 := rfl
  refine wc.go [_, _] rfl ?_
  refine q_aload_n (pc := 0) rfl rfl rfl ?_
  refine q_callV (pc := 1) _ rfl rfl rfl (by exact HR.c H hl _ rfl) rfl (Nat.le_of_ble_eq_true rfl) (by omega) _ rfl ?_
  refine m_next (i := 0) (by omega) H hl hx e6 (Nat.zero_le _) (fun h s1 H f1 X => ?_)
  refine q_iconst (pc := 4) rfl (nI 0) (by decide) ?_
  refine q_istore_n (pc := 5) [_, _] rfl (Nat.le_of_ble_eq_true rfl) rfl ?_
  exact m_rdL (by omega) hl hx kT kF 3 0 (by omega) 0 [] (fun _ => 0) hR h s1 H (zt (xz f1)) X ⟨fun j hj => absurd hj (Nat.not_lt_zero _), by omega⟩ ((f1.2 9 (by unfold xF; omega)).trans e9) ((f1.2 13 (by unfold xF; omega)).trans e13) (fun j hj => absurd hj (Nat.not_lt_zero _)) (Nat.le_refl _) (fun q hq => absurd hq (Nat.not_lt_zero _))
theorem m_text {n : Nat} (hd : 12 ≤ d) (H : HR P h s) (hl : 75 ≤ P.1) (N : NW s β) (Mk : MK s n κ ik tp tz C E σ sz cl) (hz : tz ≤ 160 ∧ ∀ i, i < tz → tp i ≤ 255) (k1 : 6 ≤ n → Q (some (.int (-4))) h) (k2 : n < 6 → ∀ f, rdTxt (tkT tp tz) = .inl f → ∀ h' s', HR P h' s' → NW s' β → MK s' n κ ik tp 0 C E σ sz cl → sf s s' hS → Q (some (.int (-100 - nI (tpl tp tz f)))) h') (k3 : n < 6 → ∀ out E1, rdTxt (tkT tp tz) = .inr (out, E1) → ∀ h' s', HR P h' s' → NW s' β → (txok (fun j => out.getD j 0) E1 → E1 2 = out.length → MK s' (n + 1) κ ik tp 0 (up1 C n (fun j => out.getD j 0)) (up1 E n E1) σ sz cl) → sf s s' hS → Q (some (.int (nI n))) h') : wc d 162 [.ref 54] h Q := by
  obtain ⟨q1, q2, q3, q4, q5, q6, q7, q8⟩ := Mk
  have hn6 := q5.2.1
  have eT := q5.1
  refine wc.go [_, _] rfl ?_
  refine q_aload_n (pc := 0) rfl rfl rfl ?_
  refine q_getf (pc := 1) rfl (by exact HR.c H hl _ rfl) rfl rfl ?_
  rw [eT]
  refine q_bipush (pc := 4) rfl (nI 6) (by decide) ?_
  first | refine n_icmpne (pc := 6) rfl (by omega) (by omega) (fun h6 => ?_) (fun h6 => ?_) | refine q_icmpne (pc := 6) rfl (fun h6 => ?_) (fun h6 => ?_)
  · have hn : n < 6 := by omega
    have k2 := k2 hn
    have k3 := k3 hn
    first
    | (exfalso; omega (config := {splitDisjunctions := false}))
    | exact absurd rfl h6
    | skip
      refine q_aload_n (pc := 12) rfl rfl rfl ?_
      refine q_iconst (pc := 13) rfl (nI 0) (by decide) ?_
      refine r_pf2 (pc := 14) (i := 6) rfl H hl rfl rfl rfl rfl (Nat.le_of_ble_eq_true rfl) rfl rfl ?_
      intro h H
      refine q_aload_n (pc := 17) rfl rfl rfl ?_
      refine q_iconst (pc := 18) rfl (nI 0) (by decide) ?_
      refine r_pf2 (pc := 19) (i := 9) rfl H hl rfl rfl rfl rfl (Nat.le_of_ble_eq_true rfl) rfl rfl ?_
      intro h H
      refine q_aload_n (pc := 22) rfl rfl rfl ?_
      refine q_iconst (pc := 23) rfl (nI 0) (by decide) ?_
      refine r_pf2 (pc := 24) (i := 13) rfl H hl rfl rfl rfl rfl (Nat.le_of_ble_eq_true rfl) rfl rfl ?_
      intro h H
      have g0 : gf tqS qF s (stv (stv (stv s 54 6 (nI 0)) 54 9 (nI 0)) 54 13 (nI 0)) := ((gf.fd (S := tqS) (F := qF) (Or.inl rfl) (by unfold qF; omega)).tr (gf.fd (S := tqS) (F := qF) (Or.inl rfl) (by unfold qF; omega))).tr (gf.fd (S := tqS) (F := qF) (Or.inl rfl) (by unfold qF; omega))
      have f0 : tq n s (stv (stv (stv s 54 6 (nI 0)) 54 9 (nI 0)) 54 13 (nI 0)) := ⟨g0, fun j _ => congrFun ((stv_n (by decide)).trans ((stv_n (by decide)).trans (stv_n (by decide)))) _, fun j _ => congrFun ((stv_n (by decide)).trans ((stv_n (by decide)).trans (stv_n (by decide)))) _⟩
      have hx0 : TX s n tp tz := ⟨q4, q3, hz, q7, eT, by omega⟩
      have hx := hx0.ft f0
      refine q_aload_n (pc := 27) rfl rfl rfl ?_
      refine q_callV (pc := 28) _ rfl rfl rfl (by exact HR.c H hl _ rfl) rfl (Nat.le_of_ble_eq_true rfl) (by omega) _ rfl ?_
      refine m_isText (by omega) hl H hx ((stv_o (by decide)).trans ((stv_o (by decide)).trans stv_a)) ((stv_o (by decide)).trans stv_a) stv_a rfl (fun h s1 out E1 er H f1 ec eE => ?_) (fun h s1 f' er H f1 e7 => ?_)
      · have f2 := f0.tr f1
        rw [show (1 : Int32) = nI 1 from by decide]
        refine q_istore_n (pc := 31) [_, _] rfl (Nat.le_of_ble_eq_true rfl) rfl ?_
        refine q_aload_n (pc := 32) rfl rfl rfl ?_
        refine q_iconst (pc := 33) rfl (nI 0) (by decide) ?_
        refine r_pf2 (pc := 34) (i := 5) rfl H hl rfl rfl rfl rfl (Nat.le_of_ble_eq_true rfl) rfl rfl ?_
        intro h H
        have f3 : sf s (stv s1 54 5 (nI 0)) tqS := f2.1.1.st (Or.inl rfl)
        have N := N.fr f3 (by unfold tqS; omega)
        refine q_iload_n (pc := 37) rfl rfl ?_
        first | refine n_ifne (pc := 38) rfl (by omega) (fun h38 => ?_) (fun h38 => ?_) | refine q_ifne (pc := 38) rfl (fun h38 => ?_) (fun h38 => ?_)
        · first
          | (exfalso; omega (config := {splitDisjunctions := false}))
          | exact absurd rfl h38
          | skip
            refine q_aload_n (pc := 49) rfl rfl rfl ?_
            refine q_dup (pc := 50) rfl rfl ?_
            refine q_getf (pc := 51) rfl (by exact HR.c H hl _ rfl) rfl rfl ?_
            rw [show stv s1 54 5 (nI 0) 54 12 = nI n from (stv_o (by decide)).trans ((f2.1.2 12 (by unfold qF; omega)).trans eT)]
            refine q_iconst (pc := 54) rfl (nI 1) (by decide) ?_
            first | refine n_iadd (pc := 55) rfl ?_ | refine q_iadd (pc := 55) rfl ?_
            refine r_pf2 (pc := 56) (i := 12) rfl H hl rfl rfl rfl rfl (Nat.le_of_ble_eq_true rfl) rfl rfl ?_
            intro h H
            refine q_aload_n (pc := 59) rfl rfl rfl ?_
            refine q_getf (pc := 60) rfl (by exact HR.c H hl _ rfl) rfl rfl ?_
            rw [show (stv (stv s1 54 5 (nI 0)) 54 12 (nI (n + 1))) 54 12 = nI (n + 1) from stv_a]
            refine q_iconst (pc := 63) rfl (nI 1) (by decide) ?_
            first | refine n_isub (pc := 64) rfl (by omega) ?_ | refine q_isub (pc := 64) rfl ?_
            rw [show n + 1 - 1 = n from rfl]
            refine q_iret (pc := 65) rfl (rfl) ?_
            have f4 : sf s (stv (stv s1 54 5 (nI 0)) 54 12 (nI (n + 1))) tqS := f3.st (Or.inl rfl)
            have N := N.fr (S := fun i => i = 54) (sf.rf.st (s1 := stv s1 54 5 (nI 0)) (b := 54) (j := 12) (v := nI (n + 1)) (by rfl)) (by decide)
            refine k3 out E1 er _ _ H N (fun hok h2 => ⟨fun i hi => (congrFun (f4 56 (by unfold tqS; omega)) _).trans (q1 i hi), (stv_o (by decide)).trans ((stv_o (by decide)).trans ((f2.1.2 3 (by unfold qF; omega)).trans q2)), fun i hi => absurd hi (Nat.not_lt_zero _), (stv_o (by decide)).trans stv_a, ⟨stv_a, by omega, fun t ht => ?_⟩, fun q hq => ?_, fun k hk i hi => (congrFun (f4 61 (by unfold tqS; omega)) _).trans (q7 k hk i hi), fun i hi => (congrFun (f4 74 (by unfold tqS; omega)) _).trans (q8 i hi)⟩) (f4.mono (fun i g => by unfold tqS at g; unfold hS; omega))
            · rw [stv_n (by decide), stv_n (by decide), stv_n (by decide), stv_n (by decide)]
              unfold up1
              by_cases e : t = n
              · rw [if_pos e, if_pos e, e]
                exact ⟨fun i hi => ec i (by omega), eE, hok⟩
              · rw [if_neg e, if_neg e]
                obtain ⟨g1, g2, g3⟩ := q5.2.2 t (by omega)
                have g4 := g3.1.2.2
                refine ⟨fun i hi => ?_, fun p hp => ?_, g3⟩
                · rw [f2.2.1 _ (by omega)]
                  exact g1 i hi
                · rw [f2.2.2 _ (by omega)]
                  exact g2 p hp
            · obtain ⟨g1, g2, g3⟩ := q6 q hq
              exact ⟨(congrFun (f4 70 (by unfold tqS; omega)) _).trans g1, (congrFun (f4 71 (by unfold tqS; omega)) _).trans g2, fun i hi => (congrFun (f4 72 (by unfold tqS; omega)) _).trans (g3 i hi)⟩
        · first
          | (exfalso; omega (config := {splitDisjunctions := false}))
          | exact absurd rfl h38
          | skip
            refine q_bipush (pc := 41) rfl (-100) (by decide) ?_
            refine q_aload_n (pc := 43) rfl rfl rfl ?_
            refine q_getf (pc := 44) rfl (by exact HR.c H hl _ rfl) rfl rfl ?_
            rw [show stv s1 54 5 (nI 0) 54 7 = nI (tpl tp tz f') from (stv_o (by decide)).trans e7]
            first | refine n_isub (pc := 47) rfl (by omega) ?_ | refine q_isub (pc := 47) rfl ?_
            refine q_iret (pc := 48) rfl (rfl) ?_
            exact k2 f' er _ _ H N ⟨fun i hi => (congrFun (f3 56 (by unfold tqS; omega)) _).trans (q1 i hi), (stv_o (by decide)).trans ((f2.1.2 3 (by unfold qF; omega)).trans q2), fun i hi => absurd hi (Nat.not_lt_zero _), stv_a, ⟨(stv_o (by decide)).trans ((f2.1.2 12 (by unfold qF; omega)).trans eT), hn6, fun t ht => by
              obtain ⟨g1, g2, g3⟩ := q5.2.2 t ht
              have g4 := g3.1.2.2
              refine ⟨fun i hi => ?_, fun p hp => ?_, g3⟩
              · rw [stv_n (by decide), f2.2.1 _ (by omega)]
                exact g1 i hi
              · rw [stv_n (by decide), f2.2.2 _ (by omega)]
                exact g2 p hp⟩, fun q hq => by
              obtain ⟨g1, g2, g3⟩ := q6 q hq
              exact ⟨(congrFun (f3 70 (by unfold tqS; omega)) _).trans g1, (congrFun (f3 71 (by unfold tqS; omega)) _).trans g2, fun i hi => (congrFun (f3 72 (by unfold tqS; omega)) _).trans (g3 i hi)⟩, fun k hk i hi => (congrFun (f3 61 (by unfold tqS; omega)) _).trans (q7 k hk i hi), fun i hi => (congrFun (f3 74 (by unfold tqS; omega)) _).trans (q8 i hi)⟩ (f3.mono (fun i g => by unfold tqS at g; unfold hS; omega))
      · have f2 := f0.tr f1
        rw [show (0 : Int32) = nI 0 from by decide]
        refine q_istore_n (pc := 31) [_, _] rfl (Nat.le_of_ble_eq_true rfl) rfl ?_
        refine q_aload_n (pc := 32) rfl rfl rfl ?_
        refine q_iconst (pc := 33) rfl (nI 0) (by decide) ?_
        refine r_pf2 (pc := 34) (i := 5) rfl H hl rfl rfl rfl rfl (Nat.le_of_ble_eq_true rfl) rfl rfl ?_
        intro h H
        have f3 : sf s (stv s1 54 5 (nI 0)) tqS := f2.1.1.st (Or.inl rfl)
        have N := N.fr f3 (by unfold tqS; omega)
        refine q_iload_n (pc := 37) rfl rfl ?_
        first | refine n_ifne (pc := 38) rfl (by omega) (fun h38 => ?_) (fun h38 => ?_) | refine q_ifne (pc := 38) rfl (fun h38 => ?_) (fun h38 => ?_)
        · first
          | (exfalso; omega (config := {splitDisjunctions := false}))
          | exact absurd rfl h38
          | skip
            refine q_aload_n (pc := 49) rfl rfl rfl ?_
            refine q_dup (pc := 50) rfl rfl ?_
            refine q_getf (pc := 51) rfl (by exact HR.c H hl _ rfl) rfl rfl ?_
            rw [show stv s1 54 5 (nI 0) 54 12 = nI n from (stv_o (by decide)).trans ((f2.1.2 12 (by unfold qF; omega)).trans eT)]
            refine q_iconst (pc := 54) rfl (nI 1) (by decide) ?_
            first | refine n_iadd (pc := 55) rfl ?_ | refine q_iadd (pc := 55) rfl ?_
            refine r_pf2 (pc := 56) (i := 12) rfl H hl rfl rfl rfl rfl (Nat.le_of_ble_eq_true rfl) rfl rfl ?_
            intro h H
            refine q_aload_n (pc := 59) rfl rfl rfl ?_
            refine q_getf (pc := 60) rfl (by exact HR.c H hl _ rfl) rfl rfl ?_
            rw [show (stv (stv s1 54 5 (nI 0)) 54 12 (nI (n + 1))) 54 12 = nI (n + 1) from stv_a]
            refine q_iconst (pc := 63) rfl (nI 1) (by decide) ?_
            first | refine n_isub (pc := 64) rfl (by omega) ?_ | refine q_isub (pc := 64) rfl ?_
            rw [show n + 1 - 1 = n from rfl]
            refine q_iret (pc := 65) rfl (rfl) ?_
            have f4 : sf s (stv (stv s1 54 5 (nI 0)) 54 12 (nI (n + 1))) tqS := f3.st (Or.inl rfl)
            have N := N.fr (S := fun i => i = 54) (sf.rf.st (s1 := stv s1 54 5 (nI 0)) (b := 54) (j := 12) (v := nI (n + 1)) (by rfl)) (by decide)
            refine k3 out E1 er _ _ H N (fun hok h2 => ⟨fun i hi => (congrFun (f4 56 (by unfold tqS; omega)) _).trans (q1 i hi), (stv_o (by decide)).trans ((stv_o (by decide)).trans ((f2.1.2 3 (by unfold qF; omega)).trans q2)), fun i hi => absurd hi (Nat.not_lt_zero _), (stv_o (by decide)).trans stv_a, ⟨stv_a, by omega, fun t ht => ?_⟩, fun q hq => ?_, fun k hk i hi => (congrFun (f4 61 (by unfold tqS; omega)) _).trans (q7 k hk i hi), fun i hi => (congrFun (f4 74 (by unfold tqS; omega)) _).trans (q8 i hi)⟩) (f4.mono (fun i g => by unfold tqS at g; unfold hS; omega))
            · rw [stv_n (by decide), stv_n (by decide), stv_n (by decide), stv_n (by decide)]
              unfold up1
              by_cases e : t = n
              · rw [if_pos e, if_pos e, e]
                exact ⟨fun i hi => ec i (by omega), eE, hok⟩
              · rw [if_neg e, if_neg e]
                obtain ⟨g1, g2, g3⟩ := q5.2.2 t (by omega)
                have g4 := g3.1.2.2
                refine ⟨fun i hi => ?_, fun p hp => ?_, g3⟩
                · rw [f2.2.1 _ (by omega)]
                  exact g1 i hi
                · rw [f2.2.2 _ (by omega)]
                  exact g2 p hp
            · obtain ⟨g1, g2, g3⟩ := q6 q hq
              exact ⟨(congrFun (f4 70 (by unfold tqS; omega)) _).trans g1, (congrFun (f4 71 (by unfold tqS; omega)) _).trans g2, fun i hi => (congrFun (f4 72 (by unfold tqS; omega)) _).trans (g3 i hi)⟩
        · first
          | (exfalso; omega (config := {splitDisjunctions := false}))
          | exact absurd rfl h38
          | skip
            refine q_bipush (pc := 41) rfl (-100) (by decide) ?_
            refine q_aload_n (pc := 43) rfl rfl rfl ?_
            refine q_getf (pc := 44) rfl (by exact HR.c H hl _ rfl) rfl rfl ?_
            rw [show stv s1 54 5 (nI 0) 54 7 = nI (tpl tp tz f') from (stv_o (by decide)).trans e7]
            first | refine n_isub (pc := 47) rfl (by omega) ?_ | refine q_isub (pc := 47) rfl ?_
            refine q_iret (pc := 48) rfl (rfl) ?_
            exact k2 f' er _ _ H N ⟨fun i hi => (congrFun (f3 56 (by unfold tqS; omega)) _).trans (q1 i hi), (stv_o (by decide)).trans ((f2.1.2 3 (by unfold qF; omega)).trans q2), fun i hi => absurd hi (Nat.not_lt_zero _), stv_a, ⟨(stv_o (by decide)).trans ((f2.1.2 12 (by unfold qF; omega)).trans eT), hn6, fun t ht => by
              obtain ⟨g1, g2, g3⟩ := q5.2.2 t ht
              have g4 := g3.1.2.2
              refine ⟨fun i hi => ?_, fun p hp => ?_, g3⟩
              · rw [stv_n (by decide), f2.2.1 _ (by omega)]
                exact g1 i hi
              · rw [stv_n (by decide), f2.2.2 _ (by omega)]
                exact g2 p hp⟩, fun q hq => by
              obtain ⟨g1, g2, g3⟩ := q6 q hq
              exact ⟨(congrFun (f3 70 (by unfold tqS; omega)) _).trans g1, (congrFun (f3 71 (by unfold tqS; omega)) _).trans g2, fun i hi => (congrFun (f3 72 (by unfold tqS; omega)) _).trans (g3 i hi)⟩, fun k hk i hi => (congrFun (f3 61 (by unfold tqS; omega)) _).trans (q7 k hk i hi), fun i hi => (congrFun (f3 74 (by unfold tqS; omega)) _).trans (q8 i hi)⟩ (f3.mono (fun i g => by unfold tqS at g; unfold hS; omega))
  · have k1 := k1 (by omega)
    first
    | (exfalso; omega (config := {splitDisjunctions := false}))
    | exact absurd rfl h6
    | skip
      refine q_bipush (pc := 9) rfl (-4) (by decide) ?_
      refine q_iret (pc := 11) rfl (rfl) ?_
      exact k1
end P69
