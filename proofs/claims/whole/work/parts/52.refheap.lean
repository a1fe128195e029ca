/-! ===== the reference: heaps, what is wrong, the shore ===== -/
section P52
variable {d k pc a i j c p b t n m part q : Nat} {v : Int} {L L' : mx_L} {st r : List Value} {P : mx_Pm} {h : mx_H} {s : mx_St} {Q : Option Value → mx_H → Prop} {x y w z u : Int32} {β κ : Nat → Nat} {C : Nat → Nat → Int32} {E : Nat → Nat → Nat} {ik tz : Nat} {tp : Nat → Nat} {σ : Nat → Int32} {sz : Nat → Nat} {cl : Nat → Nat → Int32}
theorem lsh_63 : ∀ k, k < 64 → ((nI k).toInt64 &&& 63).toBitVec.smod 64 = BitVec.ofNat 64 k := by decide +kernel
theorem lN_shr {x k : Nat} (hx : x < 2 ^ 63) (hk : k < 64) : lN x >>> ((nI k).toInt64 &&& 63) = lN (x / 2 ^ k) := by
  apply Int64.toBitVec_inj.mp
  show (BitVec.ofNat 64 x).sshiftRight' (((nI k).toInt64 &&& 63).toBitVec.smod 64) = BitVec.ofNat 64 (x / 2 ^ k)
  rw [lsh_63 k hk]
  have hm : (BitVec.ofNat 64 x).msb = false := by
    rw [BitVec.msb_eq_decide, BitVec.toNat_ofNat, Nat.mod_eq_of_lt (by omega)]
    exact decide_eq_false (by omega)
  show (BitVec.ofNat 64 x).sshiftRight (BitVec.ofNat 64 k).toNat = _
  rw [BitVec.sshiftRight_eq_of_msb_false hm]
  apply BitVec.eq_of_toNat_eq
  rw [BitVec.toNat_ushiftRight, BitVec.toNat_ofNat, BitVec.toNat_ofNat, BitVec.toNat_ofNat, Nat.mod_eq_of_lt (show k < 2 ^ 64 by omega), Nat.mod_eq_of_lt (show x < 2 ^ 64 by omega), Nat.shiftRight_eq_div_pow, Nat.mod_eq_of_lt (Nat.lt_of_le_of_lt (Nat.div_le_self _ _) (by omega))]
theorem n_lshr (hc : mx_tb k pc = some (.lshr, a, v)) (hi : i < 2 ^ 63) (hj : j < 64) (kk : wq d k (pc + 1) L (.long (lN (i / 2 ^ j)) :: r) h Q) : wq d k pc L (.int (nI j) :: .long (lN i) :: r) h Q := q_lshr hc (by rw [lN_shr hi hj]; exact kk)
theorem bit_1 (x j : Nat) : x / 2 ^ j &&& 1 = (x.testBit j).toNat := by
  rw [Nat.and_one_is_mod, Nat.testBit_eq_decide_div_mod_eq]
  have := Nat.mod_two_eq_zero_or_one (x / 2 ^ j)
  rcases this with e | e
  · rw [e]; rfl
  · rw [e]; rfl
theorem tb1 (b : Bool) : lg_cmp (lN b.toNat) (lN 1) = 0 ↔ b = true := by cases b <;> decide
theorem tb0 (b : Bool) : lg_cmp (lN b.toNat) (lN 0) = 0 ↔ b = false := by cases b <;> decide
theorem bit_lN1 : ∀ c, c < 36 → lN 1 <<< ((nI c).toInt64 &&& 63) = lN (2 ^ c) := by decide +kernel
theorem n_lshl1 (hc : mx_tb k pc = some (.lshl, a, v)) (hj : j < 36) (kk : wq d k (pc + 1) L (.long (lN (2 ^ j)) :: r) h Q) : wq d k pc L (.int (nI j) :: .long (lN 1) :: r) h Q := q_lshl hc (by rw [bit_lN1 j hj]; exact kk)
theorem M1_t : ∀ i, i < 36 → (2 ^ 64 - 34905131041).testBit i = decide (i % 6 ≠ 5) := by decide +kernel
theorem M2_t : ∀ i, i < 36 → (2 ^ 64 - 1090785346).testBit i = decide (i % 6 ≠ 0) := by decide +kernel
theorem tb_hi {x i : Nat} (hx : x < 2 ^ 36) (hi : 36 ≤ i) : x.testBit i = false := Nat.testBit_lt_two_pow (Nat.lt_of_lt_of_le hx (Nat.pow_le_pow_right (by decide) hi))
theorem ap_nb {a b : Nat} (ha : a < 36) (hb : b < 36) : apN a b = 1 ↔ (6 ≤ a ∧ b = a - 6) ∨ (a < 30 ∧ b = a + 6) ∨ (0 < a % 6 ∧ b = a - 1) ∨ (a % 6 < 5 ∧ b = a + 1) := by
  have h := nb_all a ha b hb
  constructor
  · intro e
    rw [decide_eq_true e] at h
    simp only [Bool.true_eq, Bool.or_eq_true, Bool.and_eq_true, decide_eq_true_eq] at h
    omega
  · intro e
    apply of_decide_eq_true
    rw [h]
    simp only [Bool.or_eq_true, Bool.and_eq_true, decide_eq_true_eq]
    omega
theorem wbN_t {x d : Nat} (hx : x < 2 ^ 36) (hd : d < 36) : (wbN x).testBit d = true ↔ (x.testBit d = true ∨ ∃ a, a < 36 ∧ x.testBit a = true ∧ apN a d = 1) := by
  have e : (wbN x).testBit d = (x.testBit d || ((decide (1 ≤ d) && (x.testBit (d - 1) && (2 ^ 64 - 34905131041).testBit (d - 1))) || (x.testBit (d + 1) && (2 ^ 64 - 1090785346).testBit (d + 1))) || (decide (6 ≤ d) && x.testBit (d - 6)) || x.testBit (d + 6)) := by
    unfold wbN
    rw [Nat.testBit_or, Nat.testBit_or, Nat.testBit_or, Nat.testBit_or, Nat.testBit_mul_two_pow, Nat.testBit_div_two_pow, Nat.testBit_mul_two_pow, Nat.testBit_div_two_pow, Nat.testBit_and, Nat.testBit_and]
  rw [e]
  simp only [Bool.or_eq_true, Bool.and_eq_true, decide_eq_true_eq]
  constructor
  · rintro (((h | (⟨h1, h2, h3⟩ | ⟨h2, h3⟩)) | ⟨h1, h2⟩) | h2)
    · exact Or.inl h
    · rw [M1_t _ (by omega), decide_eq_true_eq] at h3
      exact Or.inr ⟨d - 1, by omega, h2, (ap_nb (by omega) hd).mpr (by omega)⟩
    · rcases Nat.lt_or_ge (d + 1) 36 with g | g
      · rw [M2_t _ g, decide_eq_true_eq] at h3
        exact Or.inr ⟨d + 1, g, h2, (ap_nb g hd).mpr (by omega)⟩
      · rw [tb_hi hx g] at h2
        exact absurd h2 (by decide)
    · exact Or.inr ⟨d - 6, by omega, h2, (ap_nb (by omega) hd).mpr (by omega)⟩
    · rcases Nat.lt_or_ge (d + 6) 36 with g | g
      · exact Or.inr ⟨d + 6, g, h2, (ap_nb g hd).mpr (by omega)⟩
      · rw [tb_hi hx g] at h2
        exact absurd h2 (by decide)
  · rintro (h | ⟨a, ha, h1, h2⟩)
    · exact Or.inl (Or.inl (Or.inl h))
    · rcases (ap_nb ha hd).mp h2 with ⟨g1, g2⟩ | ⟨g1, g2⟩ | ⟨g1, g2⟩ | ⟨g1, g2⟩
      · exact Or.inr (by rw [show d + 6 = a by omega]; exact h1)
      · exact Or.inl (Or.inr ⟨by omega, by rw [show d - 6 = a by omega]; exact h1⟩)
      · exact Or.inl (Or.inl (Or.inr (Or.inr ⟨by rw [show d + 1 = a by omega]; exact h1, by rw [M2_t _ (by omega), decide_eq_true_eq]; omega⟩)))
      · exact Or.inl (Or.inl (Or.inr (Or.inl ⟨by omega, by rw [show d - 1 = a by omega]; exact h1, by rw [M1_t _ (by omega), decide_eq_true_eq]; omega⟩)))
/-- closed beside, within w -/
def clo (w y : Nat) : Prop := ∀ a b, a < 36 → b < 36 → y.testBit a = true → apN a b = 1 → w.testBit b = true → y.testBit b = true
def sbs (x y : Nat) : Prop := ∀ i, i < 36 → x.testBit i = true → y.testBit i = true
theorem eq_bits {x y : Nat} (hx : x < 2 ^ 36) (hy : y < 2 ^ 36) (h : ∀ i, i < 36 → x.testBit i = y.testBit i) : x = y := by
  apply Nat.eq_of_testBit_eq
  intro i
  rcases Nat.lt_or_ge i 36 with g | g
  · exact h i g
  · rw [tb_hi hx g, tb_hi hy g]
theorem sbs_eq {x y : Nat} (hx : x < 2 ^ 36) (hy : y < 2 ^ 36) (h1 : sbs x y) (h2 : sbs y x) : x = y := eq_bits hx hy (fun i hi => by
  cases e : x.testBit i
  · cases e2 : y.testBit i
    · rfl
    · rw [h2 i hi e2] at e
      exact absurd e (by decide)
  · exact (h1 i hi e).symm)
theorem cnt_lt (f g : Nat → Bool) : ∀ n, (∀ i, i < n → f i = true → g i = true) → cntf f n ≤ cntf g n ∧ (∀ i, i < n → f i = false → g i = true → cntf f n < cntf g n) := by
  intro n
  induction n with
  | zero => intro _; exact ⟨Nat.le_refl _, fun i hi => by omega⟩
  | succ n ih =>
    intro h
    obtain ⟨h1, h2⟩ := ih (fun i hi => h i (by omega))
    have h3 := h n (by omega)
    have hb : (f n).toNat ≤ (g n).toNat := by
      cases e : f n
      · exact Nat.zero_le _
      · rw [h3 e]
        exact Nat.le_refl _
    refine ⟨by rw [cntf, cntf]; omega, fun i hi hf hg => ?_⟩
    rw [cntf, cntf]
    rcases Nat.lt_succ_iff_lt_or_eq.mp hi with g1 | g1
    · have := h2 i g1 hf hg
      omega
    · subst g1
      rw [hf, hg]
      show cntf f i + 0 < cntf g i + 1
      omega
theorem stp_t {w x d : Nat} (hx : x < 2 ^ 36) (hd : d < 36) (hs : sbs x w) : (w &&& wbN x).testBit d = true ↔ (x.testBit d = true ∨ (w.testBit d = true ∧ ∃ a, a < 36 ∧ x.testBit a = true ∧ apN a d = 1)) := by
  rw [Nat.testBit_and, Bool.and_eq_true, wbN_t hx hd]
  constructor
  · rintro ⟨h1, h2 | h2⟩
    · exact Or.inl h2
    · exact Or.inr ⟨h1, h2⟩
  · rintro (h | ⟨h1, h2⟩)
    · exact ⟨hs d hd h, Or.inl h⟩
    · exact ⟨h1, Or.inr h2⟩
theorem hpI_ok {w : Nat} (hw : w < 2 ^ 36) : ∀ n x, x < 2 ^ 36 → sbs x w → 0 < popN x → 36 < popN x + n → w &&& wbN (hpI w n x) = hpI w n x := by
  intro n
  induction n with
  | zero =>
    intro x hx hs h0 h
    have : popN x ≤ 36 := cntf_le _ _
    omega
  | succ n ih =>
    intro x hx hs h0 h
    have hlt : w &&& wbN x < 2 ^ 36 := Nat.lt_of_le_of_lt Nat.and_le_left hw
    have hsub : sbs x (w &&& wbN x) := fun i hi e => (stp_t hx hi hs).mpr (Or.inl e)
    have hs2 : sbs (w &&& wbN x) w := fun i hi e => by
      rw [Nat.testBit_and, Bool.and_eq_true] at e
      exact e.1
    by_cases e : w &&& wbN x = x
    · rw [hpI_fix e]
      exact e
    · have hne : ∃ i, i < 36 ∧ x.testBit i = false ∧ (w &&& wbN x).testBit i = true := by
        apply Classical.byContradiction
        intro hn
        refine e (sbs_eq hlt hx (fun i hi e1 => ?_) hsub)
        cases e2 : x.testBit i
        · exact absurd ⟨i, hi, e2, e1⟩ hn
        · rfl
      obtain ⟨i, hi, e1, e2⟩ := hne
      have hp := (cnt_lt x.testBit (w &&& wbN x).testBit 36 hsub).2 i hi e1 e2
      have hp : popN x < popN (w &&& wbN x) := hp
      rw [hpI]
      exact ih _ hlt hs2 (by omega) (by omega)
theorem hpI_sub {w : Nat} (hw : w < 2 ^ 36) : ∀ n x y, x < 2 ^ 36 → sbs x w → sbs x y → clo w y → sbs x (hpI w n x) ∧ sbs (hpI w n x) y := by
  intro n
  induction n with
  | zero => intro x y _ _ h _; exact ⟨fun i _ e => e, h⟩
  | succ n ih =>
    intro x y hx hs h hc
    have hlt : w &&& wbN x < 2 ^ 36 := Nat.lt_of_le_of_lt Nat.and_le_left hw
    have hs2 : sbs (w &&& wbN x) w := fun i hi e => by
      rw [Nat.testBit_and, Bool.and_eq_true] at e
      exact e.1
    have hy : sbs (w &&& wbN x) y := fun i hi e => by
      rcases (stp_t hx hi hs).mp e with g | ⟨g1, a, g2, g3, g4⟩
      · exact h i hi g
      · exact hc a i g2 hi (h a g2 g3) g4 g1
    obtain ⟨q1, q2⟩ := ih _ y hlt hs2 hy hc
    refine ⟨fun i hi e => ?_, q2⟩
    rw [hpI]
    exact q1 i hi ((stp_t hx hi hs).mpr (Or.inl e))
theorem hp0_s {w c : Nat} (hc : c < 36) : sbs (hp0 w c) w ∧ (w.testBit c = true → (hp0 w c).testBit c = true) := by
  unfold hp0
  by_cases e : w.testBit c = true
  · rw [if_pos e]
    refine ⟨fun i hi h => ?_, fun _ => by rw [Nat.testBit_two_pow]; exact decide_eq_true rfl⟩
    rw [Nat.testBit_two_pow, decide_eq_true_eq] at h
    rw [← h]; exact e
  · rw [if_neg e]
    refine ⟨fun i hi h => ?_, fun z => absurd z e⟩
    rw [Nat.zero_testBit] at h
    exact absurd h (by decide)
theorem wbN_0 : wbN 0 = 0 := by decide
theorem hpN_fix {w c : Nat} (hw : w < 2 ^ 36) (hc : c < 36) : w &&& wbN (hpN w c) = hpN w c := by
  have h0 := hp0_s (w := w) hc
  by_cases e : w.testBit c = true
  · have h1 := (cnt_lt (fun _ => false) (hp0 w c).testBit 36 (fun i _ z => absurd z (by decide))).2 c hc rfl (h0.2 e)
    have h2 : 0 < popN (hp0 w c) := Nat.lt_of_le_of_lt (Nat.zero_le _) h1
    exact hpI_ok hw 36 _ (hp0_lt hc) h0.1 h2 (by omega)
  · have e0 : hp0 w c = 0 := if_neg e
    have e1 : hpN w c = 0 := by
      unfold hpN
      rw [e0]
      exact hpI_fix (by rw [wbN_0, Nat.and_zero]) 36
    rw [e1, wbN_0, Nat.and_zero]
theorem hpN_sw {w c : Nat} (hw : w < 2 ^ 36) (hc : c < 36) : sbs (hpN w c) w := fun i hi e => by
  rw [← hpN_fix hw hc, Nat.testBit_and, Bool.and_eq_true] at e
  exact e.1
theorem hpN_add {w c a b : Nat} (hw : w < 2 ^ 36) (hc : c < 36) (ha : a < 36) (hb : b < 36) (h1 : (hpN w c).testBit a = true) (h2 : apN a b = 1) (h3 : w.testBit b = true) : (hpN w c).testBit b = true := by
  rw [← hpN_fix hw hc]
  exact (stp_t (hpN_lt hw hc) hb (hpN_sw hw hc)).mpr (Or.inr ⟨h3, a, ha, h1, h2⟩)
theorem hpN_min {w c y : Nat} (hw : w < 2 ^ 36) (hc : c < 36) (h : sbs (hp0 w c) y) (hy : clo w y) : sbs (hpN w c) y := (hpI_sub hw 36 _ y (hp0_lt hc) (hp0_s hc).1 h hy).2
theorem hpN_0 {w c : Nat} (hw : w < 2 ^ 36) (hc : c < 36) : sbs (hp0 w c) (hpN w c) := (hpI_sub hw 36 _ w (hp0_lt hc) (hp0_s hc).1 (hp0_s hc).1 (fun _ _ _ _ _ _ z => z)).1
theorem wbs_t {c : Nat} (hc : c < 36) : (wbs β).testBit c = wrn β c := by
  unfold wbs
  rw [bset_test, decide_eq_true hc, Bool.true_and]
/-- a round over all pairs -/
def HIv (w c x0 x mo i : Nat) : Prop := x < 2 ^ 36 ∧ sbs (hp0 w c) x ∧ sbs x (hpN w c) ∧ ((mo = 0 ∧ x = x0 ∧ ∀ e, e < i → x0.testBit (e / 36) = true → apN (e / 36) (e % 36) = 1 → w.testBit (e % 36) = true → x0.testBit (e % 36) = true) ∨ (mo = 1 ∧ popN x0 < popN x))

theorem heap_up {c x0 x mo i : Nat} (v1 : x < 2 ^ 36) (v2 : sbs (hp0 (wbs β) c) x) (v3 : sbs x (hpN (wbs β) c)) (v4 : (mo = 0 ∧ x = x0 ∧ ∀ e, e < i → x0.testBit (e / 36) = true → apN (e / 36) (e % 36) = 1 → (wbs β).testBit (e % 36) = true → x0.testBit (e % 36) = true) ∨ (mo = 1 ∧ popN x0 < popN x)) (hc : c < 36) (i1 : i / 36 < 36) (i2 : i % 36 < 36) (q60 : x.testBit (i / 36) = true) (q71 : x.testBit (i % 36) = false) (q82 : apN (i / 36) (i % 36) = 1) (hw : (wbs β).testBit (i % 36) = true) : HIv (wbs β) c x0 (x ||| 2 ^ (i % 36)) 1 (i + 1) := by
  refine ⟨Nat.or_lt_two_pow v1 (Nat.pow_lt_pow_right (by decide) i2), fun j hj e => ?_, fun j hj e => ?_, Or.inr ⟨rfl, ?_⟩⟩
  · rw [Nat.testBit_or, v2 j hj e, Bool.true_or]
  · rw [Nat.testBit_or, Nat.testBit_two_pow] at e
    by_cases g : i % 36 = j
    · rw [← g]
      exact hpN_add wbs_lt hc i1 i2 (v3 _ i1 q60) q82 hw
    · rw [decide_eq_false g, Bool.or_false] at e
      exact v3 j hj e
  · have h1 : popN (x ||| 2 ^ (i % 36)) = popN x + 1 := tb_up i2 q71 v1
    rcases v4 with ⟨_, e, _⟩ | ⟨_, e⟩
    · rw [← e]; omega
    · omega
theorem heapS {z0 z1 z5 z6 z7 : Option Value} {x : Int64} (kk : wq d 182 30 [z0, z1, some (.long x), none, some (.int (nI 0)), some (.int (nI 0)), z6, z7] [] h Q) : wq d 182 19 [z0, z1, some (.long x), none, some (.int (nI 1)), z5, z6, z7] [] h Q := by
  refine q_iload (pc := 19) rfl rfl ?_
  first | refine n_ifeq (pc := 21) rfl (by omega) (fun h21 => ?_) (fun h21 => ?_) | refine q_ifeq (pc := 21) rfl (fun h21 => ?_) (fun h21 => ?_)
  · first | (exfalso; omega) | exact absurd h21 (nI_pos (by omega)) | exact absurd (nI_pos' (by omega)) h21
  · refine q_iconst (pc := 24) rfl (nI 0) (by decide) ?_
    refine q_istore (pc := 25) [_, _, _, _, _, _, _, _] rfl (Nat.le_of_ble_eq_true rfl) rfl ?_
    refine q_iconst (pc := 27) rfl (nI 0) (by decide) ?_
    refine q_istore (pc := 28) [_, _, _, _, _, _, _, _] rfl (Nat.le_of_ble_eq_true rfl) rfl ?_
    exact kk
theorem m_heapI {c x0 : Nat} (hd : 2 ≤ d) (H : HR P h s) (hl : 75 ≤ P.1) (N : NW s β) (hk : ∀ i, i < 72 → β i ≤ 9) (hc : c < 36) (kk : ∀ x mo z6 z7, HIv (wbs β) c x0 x mo 1296 → wq d 182 110 [some (.ref 54), some (.int (nI c)), some (.long (lN x)), none, some (.int (nI mo)), some (.int (nI 1296)), z6, z7] [] h Q) (m i : Nat) (hi : i + m = 1296) (x mo : Nat) (hv : HIv (wbs β) c x0 x mo i) (z6 z7 : Option Value) : wq d 182 30 [some (.ref 54), some (.int (nI c)), some (.long (lN x)), none, some (.int (nI mo)), some (.int (nI i)), z6, z7] [] h Q := by
  have hv0 := hv
  obtain ⟨v1, v2, v3, v4⟩ := hv
  match m, hi with
  | 0, hi =>
    obtain rfl : i = 1296 := by omega
    refine q_iload (pc := 30) rfl rfl ?_
    refine q_sipush (pc := 32) rfl (nI 1296) (by decide) ?_
    first | refine n_icmpge (pc := 35) rfl (by omega) (by omega) (fun h35 => ?_) (fun h35 => ?_) | refine q_icmpge (pc := 35) rfl (fun h35 => ?_) (fun h35 => ?_)
    · exact kk _ _ _ _ hv0
    · first | (exfalso; omega) | exact absurd h35 (nI_pos (by omega)) | exact absurd (nI_pos' (by omega)) h35
  | m + 1, hi =>
    have i1 : i / 36 < 36 := by omega
    have i2 : i % 36 < 36 := by omega
    have ba := apN_le i1 i2
    have keep : (x.testBit (i / 36) = true → apN (i / 36) (i % 36) = 1 → (wbs β).testBit (i % 36) = true → x.testBit (i % 36) = true) → HIv (wbs β) c x0 x mo (i + 1) := fun g => ⟨v1, v2, v3, by
      rcases v4 with ⟨e1, e2, e3⟩ | e
      · refine Or.inl ⟨e1, e2, fun e he => ?_⟩
        rcases Nat.lt_succ_iff_lt_or_eq.mp he with q | q
        · exact e3 e q
        · rw [q, ← e2]
          exact g
      · exact Or.inr e⟩
    refine q_iload (pc := 30) rfl rfl ?_
    refine q_sipush (pc := 32) rfl (nI 1296) (by decide) ?_
    first | refine n_icmpge (pc := 35) rfl (by omega) (by omega) (fun h35 => ?_) (fun h35 => ?_) | refine q_icmpge (pc := 35) rfl (fun h35 => ?_) (fun h35 => ?_)
    · first | (exfalso; omega) | exact absurd h35 (nI_pos (by omega)) | exact absurd (nI_pos' (by omega)) h35
    · refine q_iload (pc := 38) rfl rfl ?_
      refine q_bipush (pc := 40) rfl (nI 36) (by decide) ?_
      first | refine n_idiv (pc := 42) rfl (by omega) (by omega) (by omega) ?_ | refine q_idiv (pc := 42) rfl (by decide) ?_
      refine q_istore (pc := 43) [_, _, _, _, _, _, _, _] rfl (Nat.le_of_ble_eq_true rfl) rfl ?_
      refine q_iload (pc := 45) rfl rfl ?_
      refine q_bipush (pc := 47) rfl (nI 36) (by decide) ?_
      first | refine n_irem (pc := 49) rfl (by omega) (by omega) (by omega) ?_ | refine q_irem (pc := 49) rfl (by decide) ?_
      refine q_istore (pc := 50) [_, _, _, _, _, _, _, _] rfl (Nat.le_of_ble_eq_true rfl) rfl ?_
      refine q_lload_n (pc := 52) rfl rfl ?_
      refine q_iload (pc := 53) rfl rfl ?_
      refine n_lshr (pc := 55) rfl (by omega) (by omega) ?_
      refine q_lconst (pc := 56) rfl (lN 1) (by decide) ?_
      first | refine n_land (pc := 57) rfl ?_ | refine q_land (pc := 57) rfl ?_
      rw [bit_1]
      refine q_lconst (pc := 58) rfl (lN 1) (by decide) ?_
      refine q_lcmp (pc := 59) rfl ?_
      refine q_ifne (pc := 60) rfl (fun h60 => ?_) (fun h60 => ?_)
      · have q60 : x.testBit (i / 36) = false := Bool.eq_false_iff.mpr (fun e => h60 ((tb1 _).mpr e))
        first
        | (exfalso; omega (config := {splitDisjunctions := false}))
        | exact absurd rfl h60
        | skip
          first | refine n_iinc (pc := 104) rfl [_, _, _, _, _, _, _, _] 1 (by decide) rfl rfl ?_ | refine q_iinc (pc := 104) [_, _, _, _, _, _, _, _] (1) rfl rfl (by decide) rfl ?_
          refine q_goto (pc := 107) rfl ?_
          first
          | (exact m_heapI hd H hl N hk hc kk m (i + 1) (by omega) x mo (keep (fun e => absurd (q60.symm.trans e) (by decide))) _ _)
          | (exact m_heapI hd H hl N hk hc kk m (i + 1) (by omega) x mo (keep (fun _ _ _ => q71)) _ _)
          | (exact m_heapI hd H hl N hk hc kk m (i + 1) (by omega) x mo (keep (fun _ e => absurd e q82)) _ _)
          | (exact m_heapI hd H hl N hk hc kk m (i + 1) (by omega) x mo (keep (fun _ _ e => absurd (hwf.symm.trans ((wbs_t i2).symm.trans e)) (by decide))) _ _)
          | (exact m_heapI hd H hl N hk hc kk m (i + 1) (by omega) (x ||| 2 ^ (i % 36)) 1 (heap_up v1 v2 v3 v4 hc i1 i2 q60 q71 q82 (by rw [wbs_t i2]; exact hw)) _ _)
      · have q60 := (tb1 _).mp h60
        first
        | (exfalso; omega (config := {splitDisjunctions := false}))
        | exact absurd rfl h60
        | skip
          refine q_lload_n (pc := 63) rfl rfl ?_
          refine q_iload (pc := 64) rfl rfl ?_
          refine n_lshr (pc := 66) rfl (by omega) (by omega) ?_
          refine q_lconst (pc := 67) rfl (lN 1) (by decide) ?_
          first | refine n_land (pc := 68) rfl ?_ | refine q_land (pc := 68) rfl ?_
          rw [bit_1]
          refine q_lconst (pc := 69) rfl (lN 0) (by decide) ?_
          refine q_lcmp (pc := 70) rfl ?_
          refine q_ifne (pc := 71) rfl (fun h71 => ?_) (fun h71 => ?_)
          · have q71 : x.testBit (i % 36) = true := by
              cases e : x.testBit (i % 36)
              · exact absurd ((tb0 _).mpr e) h71
              · rfl
            first
            | (exfalso; omega (config := {splitDisjunctions := false}))
            | exact absurd rfl h71
            | skip
              first | refine n_iinc (pc := 104) rfl [_, _, _, _, _, _, _, _] 1 (by decide) rfl rfl ?_ | refine q_iinc (pc := 104) [_, _, _, _, _, _, _, _] (1) rfl rfl (by decide) rfl ?_
              refine q_goto (pc := 107) rfl ?_
              first
              | (exact m_heapI hd H hl N hk hc kk m (i + 1) (by omega) x mo (keep (fun e => absurd (q60.symm.trans e) (by decide))) _ _)
              | (exact m_heapI hd H hl N hk hc kk m (i + 1) (by omega) x mo (keep (fun _ _ _ => q71)) _ _)
              | (exact m_heapI hd H hl N hk hc kk m (i + 1) (by omega) x mo (keep (fun _ e => absurd e q82)) _ _)
              | (exact m_heapI hd H hl N hk hc kk m (i + 1) (by omega) x mo (keep (fun _ _ e => absurd (hwf.symm.trans ((wbs_t i2).symm.trans e)) (by decide))) _ _)
              | (exact m_heapI hd H hl N hk hc kk m (i + 1) (by omega) (x ||| 2 ^ (i % 36)) 1 (heap_up v1 v2 v3 v4 hc i1 i2 q60 q71 q82 (by rw [wbs_t i2]; exact hw)) _ _)
          · have q71 := (tb0 _).mp h71
            first
            | (exfalso; omega (config := {splitDisjunctions := false}))
            | exact absurd rfl h71
            | skip
              refine q_iload (pc := 74) rfl rfl ?_
              refine q_iload (pc := 76) rfl rfl ?_
              refine q_callS (pc := 78) _ (by decide) rfl rfl rfl rfl (Nat.le_of_ble_eq_true rfl) (by omega) _ rfl ?_
              refine m_apart i1 i2 ?_
              refine q_iconst (pc := 81) rfl (nI 1) (by decide) ?_
              first | refine n_icmpne (pc := 82) rfl (by omega) (by omega) (fun h82 => ?_) (fun h82 => ?_) | refine q_icmpne (pc := 82) rfl (fun h82 => ?_) (fun h82 => ?_)
              · have q82 : ¬ apN (i / 36) (i % 36) = 1 := h82
                first
                | (exfalso; omega (config := {splitDisjunctions := false}))
                | exact absurd rfl h82
                | skip
                  first | refine n_iinc (pc := 104) rfl [_, _, _, _, _, _, _, _] 1 (by decide) rfl rfl ?_ | refine q_iinc (pc := 104) [_, _, _, _, _, _, _, _] (1) rfl rfl (by decide) rfl ?_
                  refine q_goto (pc := 107) rfl ?_
                  first
                  | (exact m_heapI hd H hl N hk hc kk m (i + 1) (by omega) x mo (keep (fun e => absurd (q60.symm.trans e) (by decide))) _ _)
                  | (exact m_heapI hd H hl N hk hc kk m (i + 1) (by omega) x mo (keep (fun _ _ _ => q71)) _ _)
                  | (exact m_heapI hd H hl N hk hc kk m (i + 1) (by omega) x mo (keep (fun _ e => absurd e q82)) _ _)
                  | (exact m_heapI hd H hl N hk hc kk m (i + 1) (by omega) x mo (keep (fun _ _ e => absurd (hwf.symm.trans ((wbs_t i2).symm.trans e)) (by decide))) _ _)
                  | (exact m_heapI hd H hl N hk hc kk m (i + 1) (by omega) (x ||| 2 ^ (i % 36)) 1 (heap_up v1 v2 v3 v4 hc i1 i2 q60 q71 q82 (by rw [wbs_t i2]; exact hw)) _ _)
              · have q82 : apN (i / 36) (i % 36) = 1 := h82
                first
                | (exfalso; omega (config := {splitDisjunctions := false}))
                | exact absurd rfl h82
                | skip
                  refine q_aload_n (pc := 85) rfl rfl rfl ?_
                  refine q_iload (pc := 86) rfl rfl ?_
                  refine q_callV (pc := 88) _ rfl rfl rfl (by exact HR.c H hl _ rfl) rfl (Nat.le_of_ble_eq_true rfl) (by omega) _ rfl ?_
                  refine m_isWrong H hl N hk i2 (fun hw => ?_) (fun hwf => ?_)
                  · refine q_ifeq (pc := 91) rfl (fun z => absurd z (by decide)) (fun _ => ?_)
                    refine q_lload_n (pc := 94) rfl rfl ?_
                    refine q_lconst (pc := 95) rfl (lN 1) (by decide) ?_
                    refine q_iload (pc := 96) rfl rfl ?_
                    refine n_lshl1 (pc := 98) rfl (by omega) ?_
                    first | refine n_lor (pc := 99) rfl ?_ | refine q_lor (pc := 99) rfl ?_
                    refine q_lstore_n (pc := 100) [_, _, _, _, _, _, _, _] rfl (Nat.le_of_ble_eq_true rfl) rfl ?_
                    refine q_iconst (pc := 101) rfl (nI 1) (by decide) ?_
                    refine q_istore (pc := 102) [_, _, _, _, _, _, _, _] rfl (Nat.le_of_ble_eq_true rfl) rfl ?_
                    first | refine n_iinc (pc := 104) rfl [_, _, _, _, _, _, _, _] 1 (by decide) rfl rfl ?_ | refine q_iinc (pc := 104) [_, _, _, _, _, _, _, _] (1) rfl rfl (by decide) rfl ?_
                    refine q_goto (pc := 107) rfl ?_
                    first
                    | (exact m_heapI hd H hl N hk hc kk m (i + 1) (by omega) x mo (keep (fun e => absurd (q60.symm.trans e) (by decide))) _ _)
                    | (exact m_heapI hd H hl N hk hc kk m (i + 1) (by omega) x mo (keep (fun _ _ _ => q71)) _ _)
                    | (exact m_heapI hd H hl N hk hc kk m (i + 1) (by omega) x mo (keep (fun _ e => absurd e q82)) _ _)
                    | (exact m_heapI hd H hl N hk hc kk m (i + 1) (by omega) x mo (keep (fun _ _ e => absurd (hwf.symm.trans ((wbs_t i2).symm.trans e)) (by decide))) _ _)
                    | (exact m_heapI hd H hl N hk hc kk m (i + 1) (by omega) (x ||| 2 ^ (i % 36)) 1 (heap_up v1 v2 v3 v4 hc i1 i2 q60 q71 q82 (by rw [wbs_t i2]; exact hw)) _ _)
                  · refine q_ifeq (pc := 91) rfl (fun _ => ?_) (fun z => absurd (by decide) z)
                    first | refine n_iinc (pc := 104) rfl [_, _, _, _, _, _, _, _] 1 (by decide) rfl rfl ?_ | refine q_iinc (pc := 104) [_, _, _, _, _, _, _, _] (1) rfl rfl (by decide) rfl ?_
                    refine q_goto (pc := 107) rfl ?_
                    first
                    | (exact m_heapI hd H hl N hk hc kk m (i + 1) (by omega) x mo (keep (fun e => absurd (q60.symm.trans e) (by decide))) _ _)
                    | (exact m_heapI hd H hl N hk hc kk m (i + 1) (by omega) x mo (keep (fun _ _ _ => q71)) _ _)
                    | (exact m_heapI hd H hl N hk hc kk m (i + 1) (by omega) x mo (keep (fun _ e => absurd e q82)) _ _)
                    | (exact m_heapI hd H hl N hk hc kk m (i + 1) (by omega) x mo (keep (fun _ _ e => absurd (hwf.symm.trans ((wbs_t i2).symm.trans e)) (by decide))) _ _)
                    | (exact m_heapI hd H hl N hk hc kk m (i + 1) (by omega) (x ||| 2 ^ (i % 36)) 1 (heap_up v1 v2 v3 v4 hc i1 i2 q60 q71 q82 (by rw [wbs_t i2]; exact hw)) _ _)
termination_by m
theorem m_heapO {c : Nat} (hd : 2 ≤ d) (H : HR P h s) (hl : 75 ≤ P.1) (N : NW s β) (hk : ∀ i, i < 72 → β i ≤ 9) (hc : c < 36) (hq : Q (some (.long (lN (hpN (wbs β) c)))) h) (m x : Nat) (hm : popN x + m = 36) (hx : x < 2 ^ 36) (h1 : sbs (hp0 (wbs β) c) x) (h2 : sbs x (hpN (wbs β) c)) (z5 z6 z7 : Option Value) : wq d 182 19 [some (.ref 54), some (.int (nI c)), some (.long (lN x)), none, some (.int (nI 1)), z5, z6, z7] [] h Q := by
  refine heapS (m_heapI (x0 := x) hd H hl N hk hc (fun y mo z6 z7 hv => ?_) 1296 0 (by omega) x 0 ⟨hx, h1, h2, Or.inl ⟨rfl, rfl, fun e he => by omega⟩⟩ _ _)
  obtain ⟨v1, v2, v3, ⟨e1, e2, e3⟩ | ⟨e1, e2⟩⟩ := hv
  · subst e1
    subst e2
    have hclo : clo (wbs β) y := fun a b ha hb g1 g2 g3 => by
      have := e3 (a * 36 + b) (by omega)
      rw [show (a * 36 + b) / 36 = a by omega, show (a * 36 + b) % 36 = b by omega] at this
      exact this g1 g2 g3
    have e : y = hpN (wbs β) c := sbs_eq v1 (hpN_lt wbs_lt hc) v3 (hpN_min wbs_lt hc v2 hclo)
    rw [← e] at hq
    refine q_goto (pc := 110) rfl ?_
    refine q_iload (pc := 19) rfl rfl ?_
    first | refine n_ifeq (pc := 21) rfl (by omega) (fun h21 => ?_) (fun h21 => ?_) | refine q_ifeq (pc := 21) rfl (fun h21 => ?_) (fun h21 => ?_)
    · refine q_lload_n (pc := 113) rfl rfl ?_
      refine q_lret (pc := 114) rfl rfl ?_
      exact hq
    · first | (exfalso; omega) | exact absurd h21 (nI_pos (by omega)) | exact absurd (nI_pos' (by omega)) h21
  · subst e1
    have hy : popN y ≤ 36 := cntf_le _ _
    refine q_goto (pc := 110) rfl ?_
    exact m_heapO hd H hl N hk hc hq (36 - popN y) y (by omega) v1 v2 v3 _ _ _
termination_by m
theorem m_heap {c : Nat} (hd : 2 ≤ d) (H : HR P h s) (hl : 75 ≤ P.1) (N : NW s β) (hk : ∀ i, i < 72 → β i ≤ 9) (hc : c < 36) (hq : Q (some (.long (lN (hpN (wbs β) c)))) h) : wc d 182 [.ref 54, .int (nI c)] h Q := by
  have hp : popN (hp0 (wbs β) c) ≤ 36 := cntf_le _ _
  have e0 : hp0 (wbs β) c = if wrn β c = true then 2 ^ c else 0 := by
    unfold hp0
    rw [wbs_t hc]
  have key := m_heapO hd H hl N hk hc hq (36 - popN (hp0 (wbs β) c)) (hp0 (wbs β) c) (by omega) (hp0_lt hc) (fun _ _ e => e) (hpN_0 wbs_lt hc)
  rw [e0] at key
  refine wc.go [_, _, _, _, _, _, _, _] rfl ?_
  refine q_aload_n (pc := 0) rfl rfl rfl ?_
  refine q_iload_n (pc := 1) rfl rfl ?_
  refine q_callV (pc := 2) _ rfl rfl rfl (by exact HR.c H hl _ rfl) rfl (Nat.le_of_ble_eq_true rfl) (by omega) _ rfl ?_
  refine m_isWrong H hl N hk hc (fun hw => ?_) (fun hwf => ?_)
  · refine q_ifeq (pc := 5) rfl (fun z => absurd z (by decide)) (fun _ => ?_)
    refine q_lconst (pc := 8) rfl (lN 1) (by decide) ?_
    refine q_iload_n (pc := 9) rfl rfl ?_
    refine n_lshl1 (pc := 10) rfl hc ?_
    refine q_goto (pc := 11) rfl ?_
    refine q_lstore_n (pc := 15) [_, _, _, _, _, _, _, _] rfl (Nat.le_of_ble_eq_true rfl) rfl ?_
    refine q_iconst (pc := 16) rfl (nI 1) (by decide) ?_
    refine q_istore (pc := 17) [_, _, _, _, _, _, _, _] rfl (Nat.le_of_ble_eq_true rfl) rfl ?_
    first
    | (rw [if_pos hw] at key
       exact key _ _ _)
    | (rw [if_neg (show ¬ wrn β c = true from fun e => absurd (hwf.symm.trans e) (by decide))] at key
       exact key _ _ _)
  · refine q_ifeq (pc := 5) rfl (fun _ => ?_) (fun z => absurd (by decide) z)
    refine q_lconst (pc := 14) rfl (lN 0) (by decide) ?_
    refine q_lstore_n (pc := 15) [_, _, _, _, _, _, _, _] rfl (Nat.le_of_ble_eq_true rfl) rfl ?_
    refine q_iconst (pc := 16) rfl (nI 1) (by decide) ?_
    refine q_istore (pc := 17) [_, _, _, _, _, _, _, _] rfl (Nat.le_of_ble_eq_true rfl) rfl ?_
    first
    | (rw [if_pos hw] at key
       exact key _ _ _)
    | (rw [if_neg (show ¬ wrn β c = true from fun e => absurd (hwf.symm.trans e) (by decide))] at key
       exact key _ _ _)
theorem m_wrongL {w : Nat} {n p m t : Nat} (hd : 6 ≤ d) (hl : 75 ≤ P.1) (hk : bok β n) (hw : w < 54) (hw0 : w ≠ 0) (f : Nat → Bool) {s0 : mx_St} (T0 : MT s0 n C E) (hp : p ≤ 5) (hm : m ≤ 9) (ht : t < n) (hf : ∀ c, c < 36 → f c = decide (lyG C E β p m t c = β (36 + c))) (kk : ∀ h' s', HR P h' s' → sf s0 s' (fun i => i = 63) → NW s' β → Q (some (.long (lN (bset f 36)))) h') (u i : Nat) (hi : i + u = 36) (h : mx_H) (s : mx_St) (H : HR P h s) (fs : sf s0 s (fun i => i = 63)) (N : NW s β) (tk : TKN s p m t) : wq d 183 56 [some (.ref 54), some (.int (nI w)), some (.long (lN (bset f i))), none, some (.int (nI i))] [] h Q := by
  have T := T0.row (tf_row fs)
  match u, hi with
  | 0, hi =>
    obtain rfl : i = 36 := by omega
    refine q_iload (pc := 56) rfl rfl ?_
    refine q_bipush (pc := 58) rfl (nI 36) (by decide) ?_
    first | refine n_icmpge (pc := 60) rfl (by omega) (by omega) (fun h60 => ?_) (fun h60 => ?_) | refine q_icmpge (pc := 60) rfl (fun h60 => ?_) (fun h60 => ?_)
    · refine q_lload_n (pc := 115) rfl rfl ?_
      refine q_lret (pc := 116) rfl rfl ?_
      exact kk _ _ H fs N
    · first | (exfalso; omega) | exact absurd h60 (nI_pos (by omega)) | exact absurd (nI_pos' (by omega)) h60
  | u + 1, hi =>
    have ly := lyG_le C E p m t i (hk.1 (36 + i) (by omega))
    have b2 := hk.1 (36 + i) (by omega)
    have hfi := hf i (by omega)
    refine q_iload (pc := 56) rfl rfl ?_
    refine q_bipush (pc := 58) rfl (nI 36) (by decide) ?_
    first | refine n_icmpge (pc := 60) rfl (by omega) (by omega) (fun h60 => ?_) (fun h60 => ?_) | refine q_icmpge (pc := 60) rfl (fun h60 => ?_) (fun h60 => ?_)
    · first | (exfalso; omega) | exact absurd h60 (nI_pos (by omega)) | exact absurd (nI_pos' (by omega)) h60
    · refine q_lload_n (pc := 63) rfl rfl ?_
      refine q_iload_n (pc := 64) rfl rfl ?_
      first | refine n_ifne (pc := 65) rfl (by omega) (fun h65 => ?_) (fun h65 => ?_) | refine q_ifne (pc := 65) rfl (fun h65 => ?_) (fun h65 => ?_)
      · refine q_aload_n (pc := 80) rfl rfl rfl ?_
        refine q_iload (pc := 81) rfl rfl ?_
        refine q_callV (pc := 83) _ rfl rfl rfl (by exact HR.c H hl _ rfl) rfl (Nat.le_of_ble_eq_true rfl) (by omega) _ rfl ?_
        refine m_lays (by omega) H hl N T ht hk.1 tk hp hm (by omega) ?_
        intro h s1 H f1
        have N := N.fr f1 (by decide)
        refine q_aload_n (pc := 86) rfl rfl rfl ?_
        refine q_getf (pc := 87) rfl (by exact HR.c H hl _ rfl) rfl rfl ?_
        refine q_bipush (pc := 90) rfl (nI 36) (by decide) ?_
        refine q_iload (pc := 92) rfl rfl ?_
        first | refine n_iadd (pc := 94) rfl ?_ | refine q_iadd (pc := 94) rfl ?_
        refine n_ild (pc := 95) rfl (by first | exact HR.la H hl rfl rfl N | exact HR.la0 H hl rfl rfl) rfl (by omega) (by omega) ?_
        first | refine n_icmpne (pc := 96) rfl (by omega) (by omega) (fun h96 => ?_) (fun h96 => ?_) | refine q_icmpne (pc := 96) rfl (fun h96 => ?_) (fun h96 => ?_)
        · first
          | (exfalso; omega (config := {splitDisjunctions := false}))
          | exact absurd rfl h96
          | skip
            refine q_lconst (pc := 106) rfl (lN 0) (by decide) ?_
            first | refine n_lor (pc := 107) rfl ?_ | refine q_lor (pc := 107) rfl ?_
            refine q_lstore_n (pc := 108) [_, _, _, _, _] rfl (Nat.le_of_ble_eq_true rfl) rfl ?_
            first | refine n_iinc (pc := 109) rfl [_, _, _, _, _] 1 (by decide) rfl rfl ?_ | refine q_iinc (pc := 109) [_, _, _, _, _] (1) rfl rfl (by decide) rfl ?_
            refine q_goto (pc := 112) rfl ?_
            first
            | (have q96 : lyG C E β p m t i = β (36 + i) := h96
               rw [decide_eq_true q96] at hfi
               have ih := m_wrongL hd hl hk hw hw0 f T0 hp hm ht hf kk u (i + 1) (by omega) h s1 H (fs.tr f1) N (tk.fr f1)
               rw [bset_t hfi] at ih
               exact ih)
            | (have q96 : ¬ lyG C E β p m t i = β (36 + i) := h96
               rw [decide_eq_false q96] at hfi
               have ih := m_wrongL hd hl hk hw hw0 f T0 hp hm ht hf kk u (i + 1) (by omega) h s1 H (fs.tr f1) N (tk.fr f1)
               rw [bset_f hfi, ← Nat.or_zero (bset f i)] at ih
               exact ih)
        · first
          | (exfalso; omega (config := {splitDisjunctions := false}))
          | exact absurd rfl h96
          | skip
            refine q_lconst (pc := 99) rfl (lN 1) (by decide) ?_
            refine q_iload (pc := 100) rfl rfl ?_
            refine n_lshl1 (pc := 102) rfl (by omega) ?_
            refine q_goto (pc := 103) rfl ?_
            first | refine n_lor (pc := 107) rfl ?_ | refine q_lor (pc := 107) rfl ?_
            refine q_lstore_n (pc := 108) [_, _, _, _, _] rfl (Nat.le_of_ble_eq_true rfl) rfl ?_
            first | refine n_iinc (pc := 109) rfl [_, _, _, _, _] 1 (by decide) rfl rfl ?_ | refine q_iinc (pc := 109) [_, _, _, _, _] (1) rfl rfl (by decide) rfl ?_
            refine q_goto (pc := 112) rfl ?_
            first
            | (have q96 : lyG C E β p m t i = β (36 + i) := h96
               rw [decide_eq_true q96] at hfi
               have ih := m_wrongL hd hl hk hw hw0 f T0 hp hm ht hf kk u (i + 1) (by omega) h s1 H (fs.tr f1) N (tk.fr f1)
               rw [bset_t hfi] at ih
               exact ih)
            | (have q96 : ¬ lyG C E β p m t i = β (36 + i) := h96
               rw [decide_eq_false q96] at hfi
               have ih := m_wrongL hd hl hk hw hw0 f T0 hp hm ht hf kk u (i + 1) (by omega) h s1 H (fs.tr f1) N (tk.fr f1)
               rw [bset_f hfi, ← Nat.or_zero (bset f i)] at ih
               exact ih)
      · first | (exfalso; omega) | exact absurd h65 (nI_pos (by omega)) | exact absurd (nI_pos' (by omega)) h65
termination_by u
theorem m_wrong0 (hd : 2 ≤ d) (H : HR P h s) (hl : 75 ≤ P.1) (N : NW s β) (hk : ∀ i, i < 72 → β i ≤ 9) (hq : Q (some (.long (lN (wbs β)))) h) (u i : Nat) (hi : i + u = 36) : wq d 183 56 [some (.ref 54), some (.int (nI 0)), some (.long (lN (bset (wrn β) i))), none, some (.int (nI i))] [] h Q := by
  match u, hi with
  | 0, hi =>
    obtain rfl : i = 36 := by omega
    refine q_iload (pc := 56) rfl rfl ?_
    refine q_bipush (pc := 58) rfl (nI 36) (by decide) ?_
    first | refine n_icmpge (pc := 60) rfl (by omega) (by omega) (fun h60 => ?_) (fun h60 => ?_) | refine q_icmpge (pc := 60) rfl (fun h60 => ?_) (fun h60 => ?_)
    · refine q_lload_n (pc := 115) rfl rfl ?_
      refine q_lret (pc := 116) rfl rfl ?_
      exact hq
    · first | (exfalso; omega) | exact absurd h60 (nI_pos (by omega)) | exact absurd (nI_pos' (by omega)) h60
  | u + 1, hi =>
    refine q_iload (pc := 56) rfl rfl ?_
    refine q_bipush (pc := 58) rfl (nI 36) (by decide) ?_
    first | refine n_icmpge (pc := 60) rfl (by omega) (by omega) (fun h60 => ?_) (fun h60 => ?_) | refine q_icmpge (pc := 60) rfl (fun h60 => ?_) (fun h60 => ?_)
    · first | (exfalso; omega) | exact absurd h60 (nI_pos (by omega)) | exact absurd (nI_pos' (by omega)) h60
    · refine q_lload_n (pc := 63) rfl rfl ?_
      refine q_iload_n (pc := 64) rfl rfl ?_
      first | refine n_ifne (pc := 65) rfl (by omega) (fun h65 => ?_) (fun h65 => ?_) | refine q_ifne (pc := 65) rfl (fun h65 => ?_) (fun h65 => ?_)
      · exact absurd rfl h65
      · first
        | (exfalso; omega (config := {splitDisjunctions := false}))
        | exact absurd rfl h65
        | skip
          refine q_aload_n (pc := 68) rfl rfl rfl ?_
          refine q_iload (pc := 69) rfl rfl ?_
          refine q_callV (pc := 71) _ rfl rfl rfl (by exact HR.c H hl _ rfl) rfl (Nat.le_of_ble_eq_true rfl) (by omega) _ rfl ?_
          refine m_isWrong H hl N hk (by omega) (fun hw => ?_) (fun hwf => ?_)
          · refine q_ifeq (pc := 74) rfl (fun z => absurd z (by decide)) (fun _ => ?_)
            refine q_goto (pc := 77) rfl ?_
            refine q_lconst (pc := 99) rfl (lN 1) (by decide) ?_
            refine q_iload (pc := 100) rfl rfl ?_
            refine n_lshl1 (pc := 102) rfl (by omega) ?_
            refine q_goto (pc := 103) rfl ?_
            first | refine n_lor (pc := 107) rfl ?_ | refine q_lor (pc := 107) rfl ?_
            refine q_lstore_n (pc := 108) [_, _, _, _, _] rfl (Nat.le_of_ble_eq_true rfl) rfl ?_
            first | refine n_iinc (pc := 109) rfl [_, _, _, _, _] 1 (by decide) rfl rfl ?_ | refine q_iinc (pc := 109) [_, _, _, _, _] (1) rfl rfl (by decide) rfl ?_
            refine q_goto (pc := 112) rfl ?_
            first
            | (have ih := m_wrong0 hd H hl N hk hq u (i + 1) (by omega)
               rw [bset_t hw] at ih
               exact ih)
            | (have ih := m_wrong0 hd H hl N hk hq u (i + 1) (by omega)
               rw [bset_f hwf, ← Nat.or_zero (bset (wrn β) i)] at ih
               exact ih)
          · refine q_ifeq (pc := 74) rfl (fun _ => ?_) (fun z => absurd (by decide) z)
            refine q_lconst (pc := 106) rfl (lN 0) (by decide) ?_
            first | refine n_lor (pc := 107) rfl ?_ | refine q_lor (pc := 107) rfl ?_
            refine q_lstore_n (pc := 108) [_, _, _, _, _] rfl (Nat.le_of_ble_eq_true rfl) rfl ?_
            first | refine n_iinc (pc := 109) rfl [_, _, _, _, _] 1 (by decide) rfl rfl ?_ | refine q_iinc (pc := 109) [_, _, _, _, _] (1) rfl rfl (by decide) rfl ?_
            refine q_goto (pc := 112) rfl ?_
            first
            | (have ih := m_wrong0 hd H hl N hk hq u (i + 1) (by omega)
               rw [bset_t hw] at ih
               exact ih)
            | (have ih := m_wrong0 hd H hl N hk hq u (i + 1) (by omega)
               rw [bset_f hwf, ← Nat.or_zero (bset (wrn β) i)] at ih
               exact ih)
termination_by u
theorem m_inR {m n : Nat} (hn : m ≤ n ∧ n < 2 ^ 30) (ht : ∀ j, m ≤ j → j ≤ n → x = nI j → Q (some (.int 1)) h) (hf : (∀ j, m ≤ j → j ≤ n → x ≠ nI j) → Q (some (.int 0)) h) : wc d 132 [.int x, .int (nI m), .int (nI n)] h Q := by
  refine c_isIn (fun h1 h2 => ?_) (fun g => hf (fun j h1 h2 e => g ?_))
  · obtain ⟨j, hj, rfl⟩ := x_of (Int32.not_lt.mpr (Int32.le_trans (nI_pos' (by omega)) h1))
    exact ht j (x_le h1 (by omega) hj) (x_le h2 hj (by omega)) rfl
  · subst e
    exact ⟨(nI_leI (by omega) (by omega)).mpr h1, (nI_leI (by omega) (by omega)).mpr h2⟩
theorem x_low {w j : Nat} (e : nI w - nI 50 = nI j) (hw : w < 2 ^ 30) (hj : j < 2 ^ 30) : w = j + 50 := by
  have := (x_back e).trans (nI_add _ _)
  exact x_eq this (by omega) (by omega)
theorem m_wrong (hd : 20 ≤ d) (H : HR P h s) (hl : 75 ≤ P.1) (N : NW s β) (K : AOK P.2.1 β κ ik tp tz σ sz) (Mk : MK s P.2.1 κ ik tp tz C E σ sz cl) (kk : ∀ h' s', HR P h' s' → NW s' β → mf s s' → Q (some (.long (o_wrong C E β x))) h') : wc d 183 [.ref 54, .int x] h Q := by
  have K4 := K.1.2.2.1
  have KK := K.1
  have K89 := K.2.1
  rcases rgc 60 (by decide) x with ⟨w, hw, rfl, z1⟩ | ⟨g, z1⟩
  · rcases Nat.eq_zero_or_pos w with e0 | e0
    · subst e0
      refine wc.go [_, _, _, _, _] rfl ?_
      refine q_iload_n (pc := 0) rfl rfl ?_
      refine q_bipush (pc := 1) rfl (nI 10) (by decide) ?_
      refine q_bipush (pc := 3) rfl (nI 45) (by decide) ?_
      refine q_callS (pc := 5) _ (by decide) rfl rfl rfl rfl (Nat.le_of_ble_eq_true rfl) (by omega) _ rfl ?_
      refine m_inR (by decide) (fun j h1 h2 e => ?_) (fun g10 => ?_)
      · exact absurd (x_eq e (by omega) (by omega)) (by omega)
      · refine q_ifeq (pc := 8) rfl (fun _ => ?_) (fun z => absurd (by decide) z)
        refine q_iload_n (pc := 20) rfl rfl ?_
        first | refine n_ifeq (pc := 21) rfl (by omega) (fun h21 => ?_) (fun h21 => ?_) | refine q_ifeq (pc := 21) rfl (fun h21 => ?_) (fun h21 => ?_)
        · first
          | (exfalso; omega (config := {splitDisjunctions := false}))
          | exact absurd rfl h21
          | skip
            refine q_iload_n (pc := 39) rfl rfl ?_
            first | refine n_ifeq (pc := 40) rfl (by omega) (fun h40 => ?_) (fun h40 => ?_) | refine q_ifeq (pc := 40) rfl (fun h40 => ?_) (fun h40 => ?_)
            · first
              | (exfalso; omega (config := {splitDisjunctions := false}))
              | exact absurd rfl h40
              | skip
                refine q_lconst (pc := 51) rfl (lN 0) (by decide) ?_
                refine q_lstore_n (pc := 52) [_, _, _, _, _] rfl (Nat.le_of_ble_eq_true rfl) rfl ?_
                refine q_iconst (pc := 53) rfl (nI 0) (by decide) ?_
                refine q_istore (pc := 54) [_, _, _, _, _] rfl (Nat.le_of_ble_eq_true rfl) rfl ?_
                refine m_wrong0 (by omega) H hl N KK.1 ?_ 36 0 (by omega)
                refine eqL (v' := o_wrong C E β (nI 0)) ?_ (kk _ _ H N mf.rf)
                unfold o_wrong
                rw [z1.out, if_pos rfl]
            · exact absurd rfl h40
        · exact absurd rfl h21
    · by_cases e50 : 50 ≤ w
      ·
        refine wc.go [_, _, _, _, _] rfl ?_
        refine q_iload_n (pc := 0) rfl rfl ?_
        refine q_bipush (pc := 1) rfl (nI 10) (by decide) ?_
        refine q_bipush (pc := 3) rfl (nI 45) (by decide) ?_
        refine q_callS (pc := 5) _ (by decide) rfl rfl rfl rfl (Nat.le_of_ble_eq_true rfl) (by omega) _ rfl ?_
        refine m_inR (by decide) (fun j h1 h2 e => ?_) (fun g10 => ?_)
        · obtain rfl := x_eq e (by omega) (by omega)
          refine q_ifeq (pc := 8) rfl (fun z => absurd z (by decide)) (fun _ => ?_)
          refine q_aload_n (pc := 11) rfl rfl rfl ?_
          refine q_iload_n (pc := 12) rfl rfl ?_
          refine q_bipush (pc := 13) rfl (nI 10) (by decide) ?_
          first | refine n_isub (pc := 15) rfl (by omega) ?_ | refine q_isub (pc := 15) rfl ?_
          refine q_callV (pc := 16) _ rfl rfl rfl (by exact HR.c H hl _ rfl) rfl (Nat.le_of_ble_eq_true rfl) (by omega) _ rfl ?_
          refine m_heap (by omega) H hl N KK.1 (by omega) ?_
          refine q_lret (pc := 19) rfl rfl ?_
          refine eqL (v' := o_wrong C E β (nI w)) ?_ (kk _ _ H N mf.rf)
          unfold o_wrong
          rw [z1.out, if_neg (by omega), if_pos (by omega)]
        · have q10 : ¬ (10 ≤ w ∧ w ≤ 45) := fun z => g10 w z.1 z.2 rfl
          refine q_ifeq (pc := 8) rfl (fun _ => ?_) (fun z => absurd (by decide) z)
          refine q_iload_n (pc := 20) rfl rfl ?_
          first | refine n_ifeq (pc := 21) rfl (by omega) (fun h21 => ?_) (fun h21 => ?_) | refine q_ifeq (pc := 21) rfl (fun h21 => ?_) (fun h21 => ?_)
          · exfalso; omega
          · first
            | (exfalso; omega (config := {splitDisjunctions := false}))
            | exact absurd rfl h21
            | skip
              refine q_aload_n (pc := 24) rfl rfl rfl ?_
              refine q_iload_n (pc := 25) rfl rfl ?_
              refine q_bipush (pc := 26) rfl (nI 50) (by decide) ?_
              first | refine n_isub (pc := 28) rfl (by omega) ?_ | refine q_isub (pc := 28) rfl ?_
              refine q_callV (pc := 29) _ rfl rfl rfl (by exact HR.c H hl _ rfl) rfl (Nat.le_of_ble_eq_true rfl) (by omega) _ rfl ?_
              refine m_isOne (by omega) H hl N K4 (fun p hp e => ?_) (fun g1 => ?_)
              · obtain rfl := x_eq e (by omega) (by omega)
                refine q_ifne (pc := 32) rfl (fun _ => ?_) (fun z => absurd z (by decide))
                refine q_iload_n (pc := 39) rfl rfl ?_
                first | refine n_ifeq (pc := 40) rfl (by omega) (fun h40 => ?_) (fun h40 => ?_) | refine q_ifeq (pc := 40) rfl (fun h40 => ?_) (fun h40 => ?_)
                · exfalso; omega
                · first
                  | (exfalso; omega (config := {splitDisjunctions := false}))
                  | exact absurd rfl h40
                  | skip
                    refine q_aload_n (pc := 43) rfl rfl rfl ?_
                    refine q_iload_n (pc := 44) rfl rfl ?_
                    refine q_bipush (pc := 45) rfl (nI 50) (by decide) ?_
                    first | refine n_isub (pc := 47) rfl (by omega) ?_ | refine q_isub (pc := 47) rfl ?_
                    refine q_callV (pc := 48) _ rfl rfl rfl (by exact HR.c H hl _ rfl) rfl (Nat.le_of_ble_eq_true rfl) (by omega) _ rfl ?_
                    refine m_take H hl N (by omega) ?_
                    intro h s1 H f1 f1' tk
                    have N := N.tf f1
                    have T := Mk.2.2.2.2.1.row f1
                    refine q_lconst (pc := 51) rfl (lN 0) (by decide) ?_
                    refine q_lstore_n (pc := 52) [_, _, _, _, _] rfl (Nat.le_of_ble_eq_true rfl) rfl ?_
                    refine q_iconst (pc := 53) rfl (nI 0) (by decide) ?_
                    refine q_istore (pc := 54) [_, _, _, _, _] rfl (Nat.le_of_ble_eq_true rfl) rfl ?_
                    obtain ⟨k1, k2, k3, k4⟩ := KK.2.1 (w - 50) (by omega)
                    refine m_wrongL (by omega) hl KK (by omega) (by omega) (tru C E β (w - 50)) T k1 k2 KK.2.2.2.2 (fun c hc => rfl) (fun h' s' H f2 N => ?_) 36 0 (by omega) h s1 H sf.rf N tk
                    refine eqL (v' := o_wrong C E β (nI w)) ?_ (kk _ _ H N ((tf_mf f1).tr (tf_mf (tf_row f2))))
                    unfold o_wrong
                    rw [z1.out, if_neg (by omega), if_neg (by omega), if_pos (by omega)]
              · have g1 : β 88 ≤ w - 50 := g1.elim (fun e => absurd e (nI_pos (by omega))) (fun e => x_le e (by omega) (by omega))
                refine q_ifne (pc := 32) rfl (fun z => absurd z (by decide)) (fun _ => ?_)
                refine q_ldc2 (pc := 35) rfl (-4611686018427387904) (by decide) ?_
                refine q_lret (pc := 38) rfl rfl ?_
                refine eqL (v' := o_wrong C E β (nI w)) ?_ (kk _ _ H N mf.rf)
                unfold o_wrong
                rw [z1.out, if_neg (by omega), if_neg (by omega), if_neg (by omega)]
      ·
        refine wc.go [_, _, _, _, _] rfl ?_
        refine q_iload_n (pc := 0) rfl rfl ?_
        refine q_bipush (pc := 1) rfl (nI 10) (by decide) ?_
        refine q_bipush (pc := 3) rfl (nI 45) (by decide) ?_
        refine q_callS (pc := 5) _ (by decide) rfl rfl rfl rfl (Nat.le_of_ble_eq_true rfl) (by omega) _ rfl ?_
        refine m_inR (by decide) (fun j h1 h2 e => ?_) (fun g10 => ?_)
        · obtain rfl := x_eq e (by omega) (by omega)
          refine q_ifeq (pc := 8) rfl (fun z => absurd z (by decide)) (fun _ => ?_)
          refine q_aload_n (pc := 11) rfl rfl rfl ?_
          refine q_iload_n (pc := 12) rfl rfl ?_
          refine q_bipush (pc := 13) rfl (nI 10) (by decide) ?_
          first | refine n_isub (pc := 15) rfl (by omega) ?_ | refine q_isub (pc := 15) rfl ?_
          refine q_callV (pc := 16) _ rfl rfl rfl (by exact HR.c H hl _ rfl) rfl (Nat.le_of_ble_eq_true rfl) (by omega) _ rfl ?_
          refine m_heap (by omega) H hl N KK.1 (by omega) ?_
          refine q_lret (pc := 19) rfl rfl ?_
          refine eqL (v' := o_wrong C E β (nI w)) ?_ (kk _ _ H N mf.rf)
          unfold o_wrong
          rw [z1.out, if_neg (by omega), if_pos (by omega)]
        · have q10 : ¬ (10 ≤ w ∧ w ≤ 45) := fun z => g10 w z.1 z.2 rfl
          refine q_ifeq (pc := 8) rfl (fun _ => ?_) (fun z => absurd (by decide) z)
          refine q_iload_n (pc := 20) rfl rfl ?_
          first | refine n_ifeq (pc := 21) rfl (by omega) (fun h21 => ?_) (fun h21 => ?_) | refine q_ifeq (pc := 21) rfl (fun h21 => ?_) (fun h21 => ?_)
          · exfalso; omega
          · first
            | (exfalso; omega (config := {splitDisjunctions := false}))
            | exact absurd rfl h21
            | skip
              refine q_aload_n (pc := 24) rfl rfl rfl ?_
              refine q_iload_n (pc := 25) rfl rfl ?_
              refine q_bipush (pc := 26) rfl (nI 50) (by decide) ?_
              refine q_isub (pc := 28) rfl ?_
              refine q_callV (pc := 29) _ rfl rfl rfl (by exact HR.c H hl _ rfl) rfl (Nat.le_of_ble_eq_true rfl) (by omega) _ rfl ?_
              refine m_isOne (by omega) H hl N K4 (fun p hp e => ?_) (fun g1 => ?_)
              · exact absurd (x_low e (by omega) (by omega)) (by omega)
              · refine q_ifne (pc := 32) rfl (fun z => absurd z (by decide)) (fun _ => ?_)
                refine q_ldc2 (pc := 35) rfl (-4611686018427387904) (by decide) ?_
                refine q_lret (pc := 38) rfl rfl ?_
                refine eqL (v' := o_wrong C E β (nI w)) ?_ (kk _ _ H N mf.rf)
                unfold o_wrong
                rw [z1.out, if_neg (by omega), if_neg (by omega), if_neg (by omega)]
  ·
    refine wc.go [_, _, _, _, _] rfl ?_
    refine q_iload_n (pc := 0) rfl rfl ?_
    refine q_bipush (pc := 1) rfl (nI 10) (by decide) ?_
    refine q_bipush (pc := 3) rfl (nI 45) (by decide) ?_
    refine q_callS (pc := 5) _ (by decide) rfl rfl rfl rfl (Nat.le_of_ble_eq_true rfl) (by omega) _ rfl ?_
    refine m_inR (by decide) (fun j h1 h2 e => ?_) (fun g10 => ?_)
    · exact (rg_no g e ⟨by omega, by decide⟩).elim
    · refine q_ifeq (pc := 8) rfl (fun _ => ?_) (fun z => absurd (by decide) z)
      refine q_iload_n (pc := 20) rfl rfl ?_
      refine q_ifeq (pc := 21) rfl (fun h21 => ?_) (fun h21 => ?_)
      · exact False.elim (g.elim (fun e => absurd e (by rw [h21]; decide)) (fun e => absurd e (by rw [h21]; decide)))
      · first
        | (exfalso; omega (config := {splitDisjunctions := false}))
        | exact absurd rfl h21
        | skip
          refine q_aload_n (pc := 24) rfl rfl rfl ?_
          refine q_iload_n (pc := 25) rfl rfl ?_
          refine q_bipush (pc := 26) rfl (nI 50) (by decide) ?_
          refine q_isub (pc := 28) rfl ?_
          refine q_callV (pc := 29) _ rfl rfl rfl (by exact HR.c H hl _ rfl) rfl (Nat.le_of_ble_eq_true rfl) (by omega) _ rfl ?_
          refine m_isOne (by omega) H hl N K4 (fun p hp e => ?_) (fun g1 => ?_)
          · exact (rg_no g ((x_back e).trans (nI_add _ _)) ⟨by omega, by decide⟩).elim
          · refine q_ifne (pc := 32) rfl (fun z => absurd z (by decide)) (fun _ => ?_)
            refine q_ldc2 (pc := 35) rfl (-4611686018427387904) (by decide) ?_
            refine q_lret (pc := 38) rfl rfl ?_
            refine eqL ?_ (kk _ _ H N mf.rf)
            unfold o_wrong
            rw [z1.out, if_neg (by omega), if_neg (by omega), if_neg (by omega)]
end P52
