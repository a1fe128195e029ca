/-! ===== the class's calls: what was laid tells ===== -/
section P36
variable {d k pc a i j c p b t n m part q : Nat} {v : Int} {L L' : mx_L} {st r : List Value} {P : mx_Pm} {h : mx_H} {s : mx_St} {Q : Option Value → mx_H → Prop} {x y w z u : Int32} {β κ : Nat → Nat} {C : Nat → Nat → Int32} {E : Nat → Nat → Nat} {ik tz : Nat} {tp : Nat → Nat} {σ : Nat → Int32} {sz : Nat → Nat} {cl : Nat → Nat → Int32}
theorem nI_or (x y : Nat) : nI x ||| nI y = nI (x ||| y) := by
  apply Int32.toBitVec_inj.mp
  show BitVec.ofNat 32 x ||| BitVec.ofNat 32 y = BitVec.ofNat 32 (x ||| y)
  rw [BitVec.ofNat_or]
theorem n_ior (hc : mx_tb k pc = some (.ior, a, v)) (kk : wq d k (pc + 1) L (.int (nI (i ||| j)) :: r) h Q) : wq d k pc L (.int (nI j) :: .int (nI i) :: r) h Q := q_ior hc (by rw [nI_or]; exact kk)
theorem shl1 : ∀ v, v < 10 → nI 1 <<< (nI v &&& 31) = nI (2 ^ v) := by decide +kernel
theorem n_ishl1 (hc : mx_tb k pc = some (.ishl, a, v)) (hi : i < 10) (kk : wq d k (pc + 1) L (.int (nI (2 ^ i)) :: r) h Q) : wq d k pc L (.int (nI i) :: .int (nI 1) :: r) h Q := q_ishl hc (by rw [shl1 i hi]; exact kk)
def alB (f : Nat → Nat) (F : Nat → Int32) (n : Nat) : Bool := decide (∀ c, c < n → nI (f c) = F c)
def otB (f : Nat → Nat) (F : Nat → Int32) : Nat → Bool := fun c => decide (nI (f c) ≠ F c)
def foV (f : Nat → Nat) (F : Nat → Int32) (n : Nat) : Int32 := if alB f F n = true then -1 else nI (fnd (otB f F) n 0)
theorem fnd_ge (f : Nat → Bool) : ∀ (n c : Nat), c ≤ fnd f n c ∧ fnd f n c ≤ c + n := by
  intro n
  induction n with
  | zero => intro c; exact ⟨Nat.le_refl _, Nat.le_refl _⟩
  | succ n ih =>
    intro c
    unfold fnd
    split
    · omega
    · have := ih (c + 1)
      omega
theorem foV_m {f : Nat → Nat} {F : Nat → Int32} {n : Nat} (hn : n ≤ 40) : foV f F n = -1 ↔ alB f F n = true := by
  unfold foV
  constructor
  · intro e
    split at e
    · assumption
    · have := fnd_ge (otB f F) n 0
      exact absurd e (nI_m1 (by omega))
  · intro e
    rw [if_pos e]
theorem foV_t {f : Nat → Nat} {F : Nat → Int32} {n : Nat} (h : ∀ c, c < n → nI (f c) = F c) : foV f F n = -1 := by
  unfold foV alB
  rw [decide_eq_true h, if_pos rfl]
theorem foV_f {f : Nat → Nat} {F : Nat → Int32} {n c : Nat} (hc : c < n) (h1 : nI (f c) ≠ F c) (h2 : ∀ i, i < c → nI (f i) = F i) : foV f F n = nI c := by
  unfold foV alB
  rw [decide_eq_false (fun e => h1 (e c hc)), if_neg (by decide), fnd_eq (otB f F) n 0 c (Nat.zero_le _) (by omega) (decide_eq_true h1) (fun i _ hi => decide_eq_false (fun e => e (h2 i hi)))]
theorem c_firstOL {q N : Nat} {γ : Nat → Nat} (hd : 8 ≤ d) (hl : 51 ≤ P.1) (hq : q < 4) (hp : p < 4) (hN : sz q = N) (h36 : N ≤ 36) (bg : bok γ P.2.1) {s0 : mx_St} (kk : ∀ h' s', HR P h' s' → BT s' 9 γ → CA P s' β κ ik tp tz C E σ sz cl → sf s0 s' cS → Q (some (.int (foV (lyN C E γ p) (cl q) N))) h') (n i : Nat) (hi : i + n = N) (h2 : ∀ j, j < i → nI (lyN C E γ p j) = cl q j) (h : mx_H) (s : mx_St) (H : HR P h s) (A : CA P s β κ ik tp tz C E σ sz cl) (hβ : BT s 9 γ) (hs : sf s0 s cS) : wq d 105 2 [some (.ref 0), some (.ref (43 + 2 * q)), some (.ref (9 + 4 + p)), some (.int (nI i))] [] h Q := by
  obtain ⟨g1, g2, g3⟩ := A.2.2.2.2.2.2 q hq
  rw [hN] at g2
  match n, hi with
  | 0, hi =>
    obtain rfl : i = N := by omega
    refine q_iload_n (pc := 2) rfl rfl ?_
    refine q_aload_n (pc := 3) rfl rfl rfl ?_
    refine q_getf (pc := 4) rfl (by first | exact HR.X' H hl | exact HR.S2 H hl (isS_of hq) g2 | exact HR.B H hl isB9 hβ | exact HR.O H hl isB9 hβ hp | exact HR.R H hl A.2.2.2.2.2.1.1 | exact HR.B H hl isB1 A.1 | exact HR.c H hl _ rfl) rfl rfl ?_
    first | refine n_icmpge (pc := 7) rfl (by omega) (by omega) (fun h7 => ?_) (fun h7 => ?_) | refine q_icmpge (pc := 7) rfl (fun h7 => ?_) (fun h7 => ?_)
    · refine q_iconst (pc := 39) rfl (-1) (by decide) ?_
      refine q_iret (pc := 40) rfl (rfl) ?_
      have e := kk _ _ H hβ A hs
      rw [foV_t h2] at e
      exact e
    · first | (exfalso; omega) | exact absurd h7 (nI_pos (by omega)) | exact absurd (nI_pos' (by omega)) h7
  | n + 1, hi =>
    refine q_iload_n (pc := 2) rfl rfl ?_
    refine q_aload_n (pc := 3) rfl rfl rfl ?_
    refine q_getf (pc := 4) rfl (by first | exact HR.X' H hl | exact HR.S2 H hl (isS_of hq) g2 | exact HR.B H hl isB9 hβ | exact HR.O H hl isB9 hβ hp | exact HR.R H hl A.2.2.2.2.2.1.1 | exact HR.B H hl isB1 A.1 | exact HR.c H hl _ rfl) rfl rfl ?_
    first | refine n_icmpge (pc := 7) rfl (by omega) (by omega) (fun h7 => ?_) (fun h7 => ?_) | refine q_icmpge (pc := 7) rfl (fun h7 => ?_) (fun h7 => ?_)
    · first | (exfalso; omega) | exact absurd h7 (nI_pos (by omega)) | exact absurd (nI_pos' (by omega)) h7
    · refine q_aload_n (pc := 10) rfl rfl rfl ?_
      refine q_getf (pc := 11) rfl (by first | exact HR.X' H hl | exact HR.S2 H hl (isS_of hq) g2 | exact HR.B H hl isB9 hβ | exact HR.O H hl isB9 hβ hp | exact HR.R H hl A.2.2.2.2.2.1.1 | exact HR.B H hl isB1 A.1 | exact HR.c H hl _ rfl) rfl rfl ?_
      refine q_aload_n (pc := 14) rfl rfl rfl ?_
      refine q_getf (pc := 15) rfl (by first | exact HR.X' H hl | exact HR.S2 H hl (isS_of hq) g2 | exact HR.B H hl isB9 hβ | exact HR.O H hl isB9 hβ hp | exact HR.R H hl A.2.2.2.2.2.1.1 | exact HR.B H hl isB1 A.1 | exact HR.c H hl _ rfl) rfl rfl ?_
      refine q_aload_n (pc := 18) rfl rfl rfl ?_
      refine q_iload_n (pc := 19) rfl rfl ?_
      refine q_callV (pc := 20) _ rfl rfl rfl (by first | exact HR.X' H hl | exact HR.S2 H hl (isS_of hq) g2 | exact HR.B H hl isB9 hβ | exact HR.O H hl isB9 hβ hp | exact HR.R H hl A.2.2.2.2.2.1.1 | exact HR.B H hl isB1 A.1 | exact HR.c H hl _ rfl) rfl (Nat.le_of_ble_eq_true rfl) (by omega) _ rfl ?_
      refine c_laysOf (by omega) H hl isB9 hβ A.2.2.2.2.2.1 bg hp (by omega) ?_
      intro h s1 H k0
      obtain ⟨A, k1⟩ := th9 A k0 (fun i g => Or.inr (by omega))
      have hβ := hβ.fr k0 (fun i g1 g2 z => by omega)
      obtain ⟨g1, g2, g3⟩ := A.2.2.2.2.2.2 q hq
      rw [hN] at g2
      refine q_aload_n (pc := 23) rfl rfl rfl ?_
      refine q_iload_n (pc := 24) rfl rfl ?_
      refine q_callV (pc := 25) _ rfl rfl rfl (by first | exact HR.X' H hl | exact HR.S2 H hl (isS_of hq) g2 | exact HR.B H hl isB9 hβ | exact HR.O H hl isB9 hβ hp | exact HR.R H hl A.2.2.2.2.2.1.1 | exact HR.B H hl isB1 A.1 | exact HR.c H hl _ rfl) rfl (Nat.le_of_ble_eq_true rfl) (by omega) _ rfl ?_
      refine c_item H hl (isS_of hq) g2 (by omega) (by omega) ?_
      rw [g3 i (by omega)]
      refine q_icmpeq (pc := 28) rfl (fun h28 => ?_) (fun h28 => ?_)
      · first
        | (exfalso; omega (config := {splitDisjunctions := false}))
        | exact absurd rfl h28
        | skip
          first | refine n_iinc (pc := 33) rfl [_, _, _, _] 1 (by decide) rfl rfl ?_ | refine q_iinc (pc := 33) [_, _, _, _] (1) rfl rfl (by decide) rfl ?_
          refine q_goto (pc := 36) rfl ?_
          exact c_firstOL hd hl hq hp hN h36 bg kk n (i + 1) (by omega) (fun j hj => by
            by_cases e : j = i
            · subst e
              exact h28
            · exact h2 j (by omega)) h s1 H A hβ (hs.tr k1)
      · first
        | (exfalso; omega (config := {splitDisjunctions := false}))
        | exact absurd rfl h28
        | skip
          refine q_iload_n (pc := 31) rfl rfl ?_
          refine q_iret (pc := 32) rfl (rfl) ?_
          have e := kk _ _ H hβ A (hs.tr k1)
          rw [foV_f (by omega) h28 h2] at e
          exact e
termination_by n
theorem c_firstO {q : Nat} {γ : Nat → Nat} (hd : 8 ≤ d) (hl : 51 ≤ P.1) (hq : q < 4) (hp : p < 4) (h36 : sz q ≤ 36) (bg : bok γ P.2.1) (H : HR P h s) (A : CA P s β κ ik tp tz C E σ sz cl) (hβ : BT s 9 γ) (kk : ∀ h' s', HR P h' s' → BT s' 9 γ → CA P s' β κ ik tp tz C E σ sz cl → sf s s' cS → Q (some (.int (foV (lyN C E γ p) (cl q) (sz q)))) h') : wc d 105 [.ref 0, .ref (43 + 2 * q), .ref (9 + 4 + p)] h Q := by
  refine wc.go [_, _, _, _] rfl ?_
  refine q_iconst (pc := 0) rfl (nI 0) (by decide) ?_
  refine q_istore_n (pc := 1) [_, _, _, _] rfl (Nat.le_of_ble_eq_true rfl) rfl ?_
  exact c_firstOL hd hl hq hp rfl h36 bg kk (sz q) 0 (by omega) (fun j hj => by omega) h s H A hβ sf.rf
theorem upN_upN {j u w : Nat} : upN (upN β j u) j w = upN β j w := by
  funext i
  unfold upN
  split <;> rfl
theorem upN_id {j : Nat} : upN β j (β j) = β := by
  funext i
  unfold upN
  split
  · rename_i e
    rw [e]
  · rfl
def alK (C : Nat → Nat → Int32) (E : Nat → Nat → Nat) (β : Nat → Nat) (p j : Nat) (F : Nat → Int32) (n : Nat) : Nat → Bool := fun v => alB (lyN C E (upN β j v) p) F n
theorem bok_kind (hk : bok β n) (hp : p < 4) (hv : i ≤ 5) : bok (upN β (72 + 4 * p) i) n := by
  obtain ⟨k1, k2, k3, k4, k5⟩ := hk
  refine ⟨fun j hj => ?_, fun q hq => ?_, ?_, ?_, ?_⟩
  · have := k1 j hj
    rw [upN_n (by omega)]
    exact this
  · obtain ⟨g1, g2, g3, g4⟩ := k2 q hq
    unfold upN
    refine ⟨?_, ?_, ?_, ?_⟩ <;> (try dsimp only) <;> (repeat' split) <;> omega
  all_goals (rw [upN_n (by omega)]; assumption)
theorem bok_num (hk : bok β n) (hp : p < 4) (hv : i ≤ 9) : bok (upN β (72 + 4 * p + 1) i) n := by
  obtain ⟨k1, k2, k3, k4, k5⟩ := hk
  refine ⟨fun j hj => ?_, fun q hq => ?_, ?_, ?_, ?_⟩
  · have := k1 j hj
    rw [upN_n (by omega)]
    exact this
  · obtain ⟨g1, g2, g3, g4⟩ := k2 q hq
    unfold upN
    refine ⟨?_, ?_, ?_, ?_⟩ <;> (try dsimp only) <;> (repeat' split) <;> omega
  all_goals (rw [upN_n (by omega)]; assumption)
theorem bok_tide (hk : bok β n) (hv : i ≤ 1000) : bok (upN β 89 i) n := by
  obtain ⟨k1, k2, k3, k4, k5⟩ := hk
  refine ⟨fun j hj => ?_, fun q hq => ?_, ?_, ?_, ?_⟩
  · have := k1 j hj
    rw [upN_n (by omega)]
    exact this
  · obtain ⟨g1, g2, g3, g4⟩ := k2 q hq
    rw [upN_n (by omega), upN_n (by omega), upN_n (by omega), upN_n (by omega)]
    exact ⟨g1, g2, g3, g4⟩
  · rw [upN_n (by omega)]
    exact k3
  · rw [upN_s]
    exact hv
  · rw [upN_n (by omega)]
    exact k5
theorem bok_rule (hk : bok β n) (hv : i < n) : bok (upN β 90 i) n := by
  obtain ⟨k1, k2, k3, k4, k5⟩ := hk
  refine ⟨fun j hj => ?_, fun q hq => ?_, ?_, ?_, ?_⟩
  · have := k1 j hj
    rw [upN_n (by omega)]
    exact this
  · obtain ⟨g1, g2, g3, g4⟩ := k2 q hq
    rw [upN_n (by omega), upN_n (by omega), upN_n (by omega), upN_n (by omega)]
    exact ⟨g1, g2, g3, g4⟩
  · rw [upN_n (by omega)]
    exact k3
  · rw [upN_n (by omega)]
    exact k4
  · rw [upN_s]
    exact hv
theorem c_kindsL {q : Nat} (hd : 9 ≤ d) (hl : 51 ≤ P.1) (hq : q < 4) (hp : p < 4) (h36 : sz q ≤ 36) (bg : bok β P.2.1) {s0 : mx_St} (kk : ∀ h' s', HR P h' s' → CA P s' β κ ik tp tz C E σ sz cl → sf s0 s' cS → Q (some (.int (nI (bset (alK C E β p (72 + 4 * p) (cl q) (sz q)) 6)))) h') (n i : Nat) (hi : i + n = 6) (γ : Nat → Nat) (hγ : ∀ u, upN γ (72 + 4 * p) u = upN β (72 + 4 * p) u) (h : mx_H) (s : mx_St) (H : HR P h s) (A : CA P s β κ ik tp tz C E σ sz cl) (hβ : BT s 9 γ) (hs : sf s0 s cS) : wq d 106 5 [some (.ref 0), some (.ref (43 + 2 * q)), some (.ref (9 + 4 + p)), some (.int (nI (bset (alK C E β p (72 + 4 * p) (cl q) (sz q)) i))), some (.int (nI i))] [] h Q := by
  have hT6 := A.2.2.2.2.2.1.2.1
  match n, hi with
  | 0, hi =>
    obtain rfl : i = 6 := by omega
    refine q_iload (pc := 5) rfl rfl ?_
    refine q_bipush (pc := 7) rfl (nI 6) (by decide) ?_
    first | refine n_icmpge (pc := 9) rfl (by omega) (by omega) (fun h9 => ?_) (fun h9 => ?_) | refine q_icmpge (pc := 9) rfl (fun h9 => ?_) (fun h9 => ?_)
    · refine q_iload_n (pc := 45) rfl rfl ?_
      refine q_iret (pc := 46) rfl (rfl) ?_
      exact kk _ _ H A hs
    · first | (exfalso; omega) | exact absurd h9 (nI_pos (by omega)) | exact absurd (nI_pos' (by omega)) h9
  | n + 1, hi =>
    refine q_iload (pc := 5) rfl rfl ?_
    refine q_bipush (pc := 7) rfl (nI 6) (by decide) ?_
    first | refine n_icmpge (pc := 9) rfl (by omega) (by omega) (fun h9 => ?_) (fun h9 => ?_) | refine q_icmpge (pc := 9) rfl (fun h9 => ?_) (fun h9 => ?_)
    · first | (exfalso; omega) | exact absurd h9 (nI_pos (by omega)) | exact absurd (nI_pos' (by omega)) h9
    · refine q_aload_n (pc := 12) rfl rfl rfl ?_
      refine q_iload (pc := 13) rfl rfl ?_
      refine r_pf2 (pc := 15) (i := 0) rfl H hl (okO isB9 hp) (ecO isB9 hp _) rfl rfl (Nat.le_of_ble_eq_true rfl) rfl (ecO isB9 hp _) ?_
      intro h H
      have hβ := BT.pt (v := i) (j := 72 + 4 * p) (c := 9 + 4 + p) (i := 0) hβ (Or.inr (Or.inr (Or.inl ⟨p, hp, rfl, by decide, by omega⟩)))
      obtain ⟨A, k1⟩ := th9 A (S := fun i => 9 ≤ i ∧ i < 17) (sf.rf.st (s1 := s) (b := 9 + 4 + p) (j := 0) (v := nI i) (by omega)) (fun i g => Or.inl (by omega))
      refine q_iload_n (pc := 18) rfl rfl ?_
      refine q_aload_n (pc := 19) rfl rfl rfl ?_
      refine q_aload_n (pc := 20) rfl rfl rfl ?_
      refine q_aload_n (pc := 21) rfl rfl rfl ?_
      refine q_callV (pc := 22) _ rfl rfl rfl (by first | exact HR.X' H hl | exact HR.S2 H hl (isS_of hq) g2 | exact HR.B H hl isB9 hβ | exact HR.O H hl isB9 hβ hp | exact HR.R H hl A.2.2.2.2.2.1.1 | exact HR.B H hl isB1 A.1 | exact HR.c H hl _ rfl) rfl (Nat.le_of_ble_eq_true rfl) (by omega) _ rfl ?_
      refine c_firstO (by omega) hl hq hp h36 (by rw [hγ]; exact bok_kind bg hp (by omega)) H A hβ ?_
      intro h s1 H hβ A k3
      have k2 := k1.tr k3
      have hal : foV (lyN C E (upN γ (72 + 4 * p) i) p) (cl q) (sz q) = -1 ↔ (alK C E β p (72 + 4 * p) (cl q) (sz q)) i = true := by
        unfold alK
        rw [hγ]
        exact foV_m (by omega)
      refine q_iconst (pc := 25) rfl (-1) (by decide) ?_
      refine q_icmpne (pc := 26) rfl (fun h26 => ?_) (fun h26 => ?_)
      · 
        first
        | (exfalso; omega (config := {splitDisjunctions := false}))
        | exact absurd rfl h26
        | skip
          refine q_iconst (pc := 36) rfl (nI 0) (by decide) ?_
          refine n_ior (pc := 37) rfl ?_
          refine q_istore_n (pc := 38) [_, _, _, _, _] rfl (Nat.le_of_ble_eq_true rfl) rfl ?_
          first | refine n_iinc (pc := 39) rfl [_, _, _, _, _] 1 (by decide) rfl rfl ?_ | refine q_iinc (pc := 39) [_, _, _, _, _] (1) rfl rfl (by decide) rfl ?_
          refine q_goto (pc := 42) rfl ?_
          first
          | (have ih := c_kindsL hd hl hq hp h36 bg kk n (i + 1) (by omega) (upN γ (72 + 4 * p) i) (fun u => by rw [upN_upN]; exact hγ u) h _ H A hβ (hs.tr k2)
             rw [show bset (alK C E β p (72 + 4 * p) (cl q) (sz q)) (i + 1) = bset (alK C E β p (72 + 4 * p) (cl q) (sz q)) i ||| 2 ^ i from bset_t (hal.mp h26)] at ih
             exact ih)
          | (have ih := c_kindsL hd hl hq hp h36 bg kk n (i + 1) (by omega) (upN γ (72 + 4 * p) i) (fun u => by rw [upN_upN]; exact hγ u) h _ H A hβ (hs.tr k2)
             rw [show bset (alK C E β p (72 + 4 * p) (cl q) (sz q)) (i + 1) = bset (alK C E β p (72 + 4 * p) (cl q) (sz q)) i from bset_f (Bool.eq_false_iff.mpr (fun e => h26 (hal.mpr e))), show bset (alK C E β p (72 + 4 * p) (cl q) (sz q)) i = bset (alK C E β p (72 + 4 * p) (cl q) (sz q)) i ||| 0 from (Nat.or_zero _).symm] at ih
             exact ih)
      · 
        first
        | (exfalso; omega (config := {splitDisjunctions := false}))
        | exact absurd rfl h26
        | skip
          refine q_iconst (pc := 29) rfl (nI 1) (by decide) ?_
          refine q_iload (pc := 30) rfl rfl ?_
          refine n_ishl1 (pc := 32) rfl (by omega) ?_
          refine q_goto (pc := 33) rfl ?_
          refine n_ior (pc := 37) rfl ?_
          refine q_istore_n (pc := 38) [_, _, _, _, _] rfl (Nat.le_of_ble_eq_true rfl) rfl ?_
          first | refine n_iinc (pc := 39) rfl [_, _, _, _, _] 1 (by decide) rfl rfl ?_ | refine q_iinc (pc := 39) [_, _, _, _, _] (1) rfl rfl (by decide) rfl ?_
          refine q_goto (pc := 42) rfl ?_
          first
          | (have ih := c_kindsL hd hl hq hp h36 bg kk n (i + 1) (by omega) (upN γ (72 + 4 * p) i) (fun u => by rw [upN_upN]; exact hγ u) h _ H A hβ (hs.tr k2)
             rw [show bset (alK C E β p (72 + 4 * p) (cl q) (sz q)) (i + 1) = bset (alK C E β p (72 + 4 * p) (cl q) (sz q)) i ||| 2 ^ i from bset_t (hal.mp h26)] at ih
             exact ih)
          | (have ih := c_kindsL hd hl hq hp h36 bg kk n (i + 1) (by omega) (upN γ (72 + 4 * p) i) (fun u => by rw [upN_upN]; exact hγ u) h _ H A hβ (hs.tr k2)
             rw [show bset (alK C E β p (72 + 4 * p) (cl q) (sz q)) (i + 1) = bset (alK C E β p (72 + 4 * p) (cl q) (sz q)) i from bset_f (Bool.eq_false_iff.mpr (fun e => h26 (hal.mpr e))), show bset (alK C E β p (72 + 4 * p) (cl q) (sz q)) i = bset (alK C E β p (72 + 4 * p) (cl q) (sz q)) i ||| 0 from (Nat.or_zero _).symm] at ih
             exact ih)
termination_by n
theorem c_numbersL {q : Nat} (hd : 9 ≤ d) (hl : 51 ≤ P.1) (hq : q < 4) (hp : p < 4) (h36 : sz q ≤ 36) (bg : bok β P.2.1) {s0 : mx_St} (kk : ∀ h' s', HR P h' s' → CA P s' β κ ik tp tz C E σ sz cl → sf s0 s' cS → Q (some (.int (nI (bset (alK C E β p (72 + 4 * p + 1) (cl q) (sz q)) 10)))) h') (n i : Nat) (hi : i + n = 10) (γ : Nat → Nat) (hγ : ∀ u, upN γ (72 + 4 * p + 1) u = upN β (72 + 4 * p + 1) u) (h : mx_H) (s : mx_St) (H : HR P h s) (A : CA P s β κ ik tp tz C E σ sz cl) (hβ : BT s 9 γ) (hs : sf s0 s cS) : wq d 107 5 [some (.ref 0), some (.ref (43 + 2 * q)), some (.ref (9 + 4 + p)), some (.int (nI (bset (alK C E β p (72 + 4 * p + 1) (cl q) (sz q)) i))), some (.int (nI i))] [] h Q := by
  have hT6 := A.2.2.2.2.2.1.2.1
  match n, hi with
  | 0, hi =>
    obtain rfl : i = 10 := by omega
    refine q_iload (pc := 5) rfl rfl ?_
    refine q_bipush (pc := 7) rfl (nI 9) (by decide) ?_
    first | refine n_icmpgt (pc := 9) rfl (by omega) (by omega) (fun h9 => ?_) (fun h9 => ?_) | refine q_icmpgt (pc := 9) rfl (fun h9 => ?_) (fun h9 => ?_)
    · refine q_iload_n (pc := 45) rfl rfl ?_
      refine q_iret (pc := 46) rfl (rfl) ?_
      exact kk _ _ H A hs
    · first | (exfalso; omega) | exact absurd h9 (nI_pos (by omega)) | exact absurd (nI_pos' (by omega)) h9
  | n + 1, hi =>
    refine q_iload (pc := 5) rfl rfl ?_
    refine q_bipush (pc := 7) rfl (nI 9) (by decide) ?_
    first | refine n_icmpgt (pc := 9) rfl (by omega) (by omega) (fun h9 => ?_) (fun h9 => ?_) | refine q_icmpgt (pc := 9) rfl (fun h9 => ?_) (fun h9 => ?_)
    · first | (exfalso; omega) | exact absurd h9 (nI_pos (by omega)) | exact absurd (nI_pos' (by omega)) h9
    · refine q_aload_n (pc := 12) rfl rfl rfl ?_
      refine q_iload (pc := 13) rfl rfl ?_
      refine r_pf2 (pc := 15) (i := 1) rfl H hl (okO isB9 hp) (ecO isB9 hp _) rfl rfl (Nat.le_of_ble_eq_true rfl) rfl (ecO isB9 hp _) ?_
      intro h H
      have hβ := BT.pt (v := i) (j := 72 + 4 * p + 1) (c := 9 + 4 + p) (i := 1) hβ (Or.inr (Or.inr (Or.inl ⟨p, hp, rfl, by decide, by omega⟩)))
      obtain ⟨A, k1⟩ := th9 A (S := fun i => 9 ≤ i ∧ i < 17) (sf.rf.st (s1 := s) (b := 9 + 4 + p) (j := 1) (v := nI i) (by omega)) (fun i g => Or.inl (by omega))
      refine q_iload_n (pc := 18) rfl rfl ?_
      refine q_aload_n (pc := 19) rfl rfl rfl ?_
      refine q_aload_n (pc := 20) rfl rfl rfl ?_
      refine q_aload_n (pc := 21) rfl rfl rfl ?_
      refine q_callV (pc := 22) _ rfl rfl rfl (by first | exact HR.X' H hl | exact HR.S2 H hl (isS_of hq) g2 | exact HR.B H hl isB9 hβ | exact HR.O H hl isB9 hβ hp | exact HR.R H hl A.2.2.2.2.2.1.1 | exact HR.B H hl isB1 A.1 | exact HR.c H hl _ rfl) rfl (Nat.le_of_ble_eq_true rfl) (by omega) _ rfl ?_
      refine c_firstO (by omega) hl hq hp h36 (by rw [hγ]; exact bok_num bg hp (by omega)) H A hβ ?_
      intro h s1 H hβ A k3
      have k2 := k1.tr k3
      have hal : foV (lyN C E (upN γ (72 + 4 * p + 1) i) p) (cl q) (sz q) = -1 ↔ (alK C E β p (72 + 4 * p + 1) (cl q) (sz q)) i = true := by
        unfold alK
        rw [hγ]
        exact foV_m (by omega)
      refine q_iconst (pc := 25) rfl (-1) (by decide) ?_
      refine q_icmpne (pc := 26) rfl (fun h26 => ?_) (fun h26 => ?_)
      · 
        first
        | (exfalso; omega (config := {splitDisjunctions := false}))
        | exact absurd rfl h26
        | skip
          refine q_iconst (pc := 36) rfl (nI 0) (by decide) ?_
          refine n_ior (pc := 37) rfl ?_
          refine q_istore_n (pc := 38) [_, _, _, _, _] rfl (Nat.le_of_ble_eq_true rfl) rfl ?_
          first | refine n_iinc (pc := 39) rfl [_, _, _, _, _] 1 (by decide) rfl rfl ?_ | refine q_iinc (pc := 39) [_, _, _, _, _] (1) rfl rfl (by decide) rfl ?_
          refine q_goto (pc := 42) rfl ?_
          first
          | (have ih := c_numbersL hd hl hq hp h36 bg kk n (i + 1) (by omega) (upN γ (72 + 4 * p + 1) i) (fun u => by rw [upN_upN]; exact hγ u) h _ H A hβ (hs.tr k2)
             rw [show bset (alK C E β p (72 + 4 * p + 1) (cl q) (sz q)) (i + 1) = bset (alK C E β p (72 + 4 * p + 1) (cl q) (sz q)) i ||| 2 ^ i from bset_t (hal.mp h26)] at ih
             exact ih)
          | (have ih := c_numbersL hd hl hq hp h36 bg kk n (i + 1) (by omega) (upN γ (72 + 4 * p + 1) i) (fun u => by rw [upN_upN]; exact hγ u) h _ H A hβ (hs.tr k2)
             rw [show bset (alK C E β p (72 + 4 * p + 1) (cl q) (sz q)) (i + 1) = bset (alK C E β p (72 + 4 * p + 1) (cl q) (sz q)) i from bset_f (Bool.eq_false_iff.mpr (fun e => h26 (hal.mpr e))), show bset (alK C E β p (72 + 4 * p + 1) (cl q) (sz q)) i = bset (alK C E β p (72 + 4 * p + 1) (cl q) (sz q)) i ||| 0 from (Nat.or_zero _).symm] at ih
             exact ih)
      · 
        first
        | (exfalso; omega (config := {splitDisjunctions := false}))
        | exact absurd rfl h26
        | skip
          refine q_iconst (pc := 29) rfl (nI 1) (by decide) ?_
          refine q_iload (pc := 30) rfl rfl ?_
          refine n_ishl1 (pc := 32) rfl (by omega) ?_
          refine q_goto (pc := 33) rfl ?_
          refine n_ior (pc := 37) rfl ?_
          refine q_istore_n (pc := 38) [_, _, _, _, _] rfl (Nat.le_of_ble_eq_true rfl) rfl ?_
          first | refine n_iinc (pc := 39) rfl [_, _, _, _, _] 1 (by decide) rfl rfl ?_ | refine q_iinc (pc := 39) [_, _, _, _, _] (1) rfl rfl (by decide) rfl ?_
          refine q_goto (pc := 42) rfl ?_
          first
          | (have ih := c_numbersL hd hl hq hp h36 bg kk n (i + 1) (by omega) (upN γ (72 + 4 * p + 1) i) (fun u => by rw [upN_upN]; exact hγ u) h _ H A hβ (hs.tr k2)
             rw [show bset (alK C E β p (72 + 4 * p + 1) (cl q) (sz q)) (i + 1) = bset (alK C E β p (72 + 4 * p + 1) (cl q) (sz q)) i ||| 2 ^ i from bset_t (hal.mp h26)] at ih
             exact ih)
          | (have ih := c_numbersL hd hl hq hp h36 bg kk n (i + 1) (by omega) (upN γ (72 + 4 * p + 1) i) (fun u => by rw [upN_upN]; exact hγ u) h _ H A hβ (hs.tr k2)
             rw [show bset (alK C E β p (72 + 4 * p + 1) (cl q) (sz q)) (i + 1) = bset (alK C E β p (72 + 4 * p + 1) (cl q) (sz q)) i from bset_f (Bool.eq_false_iff.mpr (fun e => h26 (hal.mpr e))), show bset (alK C E β p (72 + 4 * p + 1) (cl q) (sz q)) i = bset (alK C E β p (72 + 4 * p + 1) (cl q) (sz q)) i ||| 0 from (Nat.or_zero _).symm] at ih
             exact ih)
termination_by n
theorem c_tidesL {q : Nat} (hd : 9 ≤ d) (hl : 51 ≤ P.1) (hq : q < 4) (hp : p < 4) (h36 : sz q ≤ 36) (bg : bok β P.2.1) {s0 : mx_St} (kk : ∀ h' s', HR P h' s' → CA P s' β κ ik tp tz C E σ sz cl → sf s0 s' cS → Q (some (.int (nI (cntf (alK C E β p (89) (cl q) (sz q)) 100)))) h') (n i : Nat) (hi : i + n = 100) (γ : Nat → Nat) (hγ : ∀ u, upN γ (89) u = upN β (89) u) (h : mx_H) (s : mx_St) (H : HR P h s) (A : CA P s β κ ik tp tz C E σ sz cl) (hβ : BT s 9 γ) (hs : sf s0 s cS) : wq d 108 5 [some (.ref 0), some (.ref (43 + 2 * q)), some (.ref (9 + 4 + p)), some (.int (nI (cntf (alK C E β p (89) (cl q) (sz q)) i))), some (.int (nI i))] [] h Q := by
  have hT6 := A.2.2.2.2.2.1.2.1
  match n, hi with
  | 0, hi =>
    obtain rfl : i = 100 := by omega
    refine q_iload (pc := 5) rfl rfl ?_
    refine q_bipush (pc := 7) rfl (nI 100) (by decide) ?_
    first | refine n_icmpge (pc := 9) rfl (by omega) (by omega) (fun h9 => ?_) (fun h9 => ?_) | refine q_icmpge (pc := 9) rfl (fun h9 => ?_) (fun h9 => ?_)
    · refine q_iload_n (pc := 45) rfl rfl ?_
      refine q_iret (pc := 46) rfl (rfl) ?_
      exact kk _ _ H A hs
    · first | (exfalso; omega) | exact absurd h9 (nI_pos (by omega)) | exact absurd (nI_pos' (by omega)) h9
  | n + 1, hi =>
    refine q_iload (pc := 5) rfl rfl ?_
    refine q_bipush (pc := 7) rfl (nI 100) (by decide) ?_
    first | refine n_icmpge (pc := 9) rfl (by omega) (by omega) (fun h9 => ?_) (fun h9 => ?_) | refine q_icmpge (pc := 9) rfl (fun h9 => ?_) (fun h9 => ?_)
    · first | (exfalso; omega) | exact absurd h9 (nI_pos (by omega)) | exact absurd (nI_pos' (by omega)) h9
    · refine q_aload_n (pc := 12) rfl rfl rfl ?_
      refine q_getf (pc := 13) rfl (by first | exact HR.X' H hl | exact HR.S2 H hl (isS_of hq) g2 | exact HR.B H hl isB9 hβ | exact HR.O H hl isB9 hβ hp | exact HR.R H hl A.2.2.2.2.2.1.1 | exact HR.B H hl isB1 A.1 | exact HR.c H hl _ rfl) rfl rfl ?_
      refine q_iload (pc := 16) rfl rfl ?_
      refine r_pf2 (pc := 18) (i := 4) rfl H hl (okB isB9) (ecB isB9 _) rfl rfl (Nat.le_of_ble_eq_true rfl) rfl (ecB isB9 _) ?_
      intro h H
      have hβ := BT.pt (v := i) (j := 89) (c := 9) (i := 4) hβ (Or.inr (Or.inr (Or.inr ⟨rfl, by decide, by decide, rfl⟩)))
      obtain ⟨A, k1⟩ := th9 A (S := fun i => 9 ≤ i ∧ i < 17) (sf.rf.st (s1 := s) (b := 9) (j := 4) (v := nI i) (by omega)) (fun i g => Or.inl (by omega))
      refine q_iload_n (pc := 21) rfl rfl ?_
      refine q_aload_n (pc := 22) rfl rfl rfl ?_
      refine q_aload_n (pc := 23) rfl rfl rfl ?_
      refine q_aload_n (pc := 24) rfl rfl rfl ?_
      refine q_callV (pc := 25) _ rfl rfl rfl (by first | exact HR.X' H hl | exact HR.S2 H hl (isS_of hq) g2 | exact HR.B H hl isB9 hβ | exact HR.O H hl isB9 hβ hp | exact HR.R H hl A.2.2.2.2.2.1.1 | exact HR.B H hl isB1 A.1 | exact HR.c H hl _ rfl) rfl (Nat.le_of_ble_eq_true rfl) (by omega) _ rfl ?_
      refine c_firstO (by omega) hl hq hp h36 (by rw [hγ]; exact bok_tide bg (by omega)) H A hβ ?_
      intro h s1 H hβ A k3
      have k2 := k1.tr k3
      have hal : foV (lyN C E (upN γ (89) i) p) (cl q) (sz q) = -1 ↔ (alK C E β p (89) (cl q) (sz q)) i = true := by
        unfold alK
        rw [hγ]
        exact foV_m (by omega)
      refine q_iconst (pc := 28) rfl (-1) (by decide) ?_
      refine q_icmpne (pc := 29) rfl (fun h29 => ?_) (fun h29 => ?_)
      · 
        first
        | (exfalso; omega (config := {splitDisjunctions := false}))
        | exact absurd rfl h29
        | skip
          refine q_iconst (pc := 36) rfl (nI 0) (by decide) ?_
          first | refine n_iadd (pc := 37) rfl ?_ | refine q_iadd (pc := 37) rfl ?_
          refine q_istore_n (pc := 38) [_, _, _, _, _] rfl (Nat.le_of_ble_eq_true rfl) rfl ?_
          first | refine n_iinc (pc := 39) rfl [_, _, _, _, _] 1 (by decide) rfl rfl ?_ | refine q_iinc (pc := 39) [_, _, _, _, _] (1) rfl rfl (by decide) rfl ?_
          refine q_goto (pc := 42) rfl ?_
          first
          | (have ih := c_tidesL hd hl hq hp h36 bg kk n (i + 1) (by omega) (upN γ (89) i) (fun u => by rw [upN_upN]; exact hγ u) h _ H A hβ (hs.tr k2)
             rw [show cntf (alK C E β p (89) (cl q) (sz q)) (i + 1) = cntf (alK C E β p (89) (cl q) (sz q)) i + 1 from congrArg (fun z => cntf (alK C E β p (89) (cl q) (sz q)) i + Bool.toNat z) (hal.mp h29)] at ih
             exact ih)
          | (have ih := c_tidesL hd hl hq hp h36 bg kk n (i + 1) (by omega) (upN γ (89) i) (fun u => by rw [upN_upN]; exact hγ u) h _ H A hβ (hs.tr k2)
             rw [show cntf (alK C E β p (89) (cl q) (sz q)) (i + 1) = cntf (alK C E β p (89) (cl q) (sz q)) i + 0 from congrArg (fun z => cntf (alK C E β p (89) (cl q) (sz q)) i + Bool.toNat z) (Bool.eq_false_iff.mpr (fun e => h29 (hal.mpr e)))] at ih
             exact ih)
      · 
        first
        | (exfalso; omega (config := {splitDisjunctions := false}))
        | exact absurd rfl h29
        | skip
          refine q_iconst (pc := 32) rfl (nI 1) (by decide) ?_
          refine q_goto (pc := 33) rfl ?_
          first | refine n_iadd (pc := 37) rfl ?_ | refine q_iadd (pc := 37) rfl ?_
          refine q_istore_n (pc := 38) [_, _, _, _, _] rfl (Nat.le_of_ble_eq_true rfl) rfl ?_
          first | refine n_iinc (pc := 39) rfl [_, _, _, _, _] 1 (by decide) rfl rfl ?_ | refine q_iinc (pc := 39) [_, _, _, _, _] (1) rfl rfl (by decide) rfl ?_
          refine q_goto (pc := 42) rfl ?_
          first
          | (have ih := c_tidesL hd hl hq hp h36 bg kk n (i + 1) (by omega) (upN γ (89) i) (fun u => by rw [upN_upN]; exact hγ u) h _ H A hβ (hs.tr k2)
             rw [show cntf (alK C E β p (89) (cl q) (sz q)) (i + 1) = cntf (alK C E β p (89) (cl q) (sz q)) i + 1 from congrArg (fun z => cntf (alK C E β p (89) (cl q) (sz q)) i + Bool.toNat z) (hal.mp h29)] at ih
             exact ih)
          | (have ih := c_tidesL hd hl hq hp h36 bg kk n (i + 1) (by omega) (upN γ (89) i) (fun u => by rw [upN_upN]; exact hγ u) h _ H A hβ (hs.tr k2)
             rw [show cntf (alK C E β p (89) (cl q) (sz q)) (i + 1) = cntf (alK C E β p (89) (cl q) (sz q)) i + 0 from congrArg (fun z => cntf (alK C E β p (89) (cl q) (sz q)) i + Bool.toNat z) (Bool.eq_false_iff.mpr (fun e => h29 (hal.mpr e)))] at ih
             exact ih)
termination_by n
theorem c_textsL {q : Nat} (hd : 9 ≤ d) (hl : 51 ≤ P.1) (hq : q < 4) (hp : p < 4) (h36 : sz q ≤ 36) (bg : bok β P.2.1) {s0 : mx_St} (kk : ∀ h' s', HR P h' s' → CA P s' β κ ik tp tz C E σ sz cl → sf s0 s' cS → Q (some (.int (nI (bset (alK C E β p (90) (cl q) (sz q)) P.2.1)))) h') (n i : Nat) (hi : i + n = P.2.1) (γ : Nat → Nat) (hγ : ∀ u, upN γ (90) u = upN β (90) u) (h : mx_H) (s : mx_St) (H : HR P h s) (A : CA P s β κ ik tp tz C E σ sz cl) (hβ : BT s 9 γ) (hs : sf s0 s cS) : wq d 110 5 [some (.ref 0), some (.ref (43 + 2 * q)), some (.ref (9 + 4 + p)), some (.int (nI (bset (alK C E β p (90) (cl q) (sz q)) i))), some (.int (nI i))] [] h Q := by
  have hT6 := A.2.2.2.2.2.1.2.1
  match n, hi with
  | 0, hi =>
    obtain rfl : i = P.2.1 := by omega
    refine q_iload (pc := 5) rfl rfl ?_
    refine q_aload_n (pc := 7) rfl rfl rfl ?_
    refine q_getf (pc := 8) rfl (by first | exact HR.X' H hl | exact HR.S2 H hl (isS_of hq) g2 | exact HR.B H hl isB9 hβ | exact HR.O H hl isB9 hβ hp | exact HR.R H hl A.2.2.2.2.2.1.1 | exact HR.B H hl isB1 A.1 | exact HR.c H hl _ rfl) rfl rfl ?_
    refine q_getf (pc := 11) rfl (by first | exact HR.X' H hl | exact HR.S2 H hl (isS_of hq) g2 | exact HR.B H hl isB9 hβ | exact HR.O H hl isB9 hβ hp | exact HR.R H hl A.2.2.2.2.2.1.1 | exact HR.B H hl isB1 A.1 | exact HR.c H hl _ rfl) rfl rfl ?_
    first | refine n_icmpge (pc := 14) rfl (by omega) (by omega) (fun h14 => ?_) (fun h14 => ?_) | refine q_icmpge (pc := 14) rfl (fun h14 => ?_) (fun h14 => ?_)
    · refine q_iload_n (pc := 53) rfl rfl ?_
      refine q_iret (pc := 54) rfl (rfl) ?_
      exact kk _ _ H A hs
    · first | (exfalso; omega) | exact absurd h14 (nI_pos (by omega)) | exact absurd (nI_pos' (by omega)) h14
  | n + 1, hi =>
    refine q_iload (pc := 5) rfl rfl ?_
    refine q_aload_n (pc := 7) rfl rfl rfl ?_
    refine q_getf (pc := 8) rfl (by first | exact HR.X' H hl | exact HR.S2 H hl (isS_of hq) g2 | exact HR.B H hl isB9 hβ | exact HR.O H hl isB9 hβ hp | exact HR.R H hl A.2.2.2.2.2.1.1 | exact HR.B H hl isB1 A.1 | exact HR.c H hl _ rfl) rfl rfl ?_
    refine q_getf (pc := 11) rfl (by first | exact HR.X' H hl | exact HR.S2 H hl (isS_of hq) g2 | exact HR.B H hl isB9 hβ | exact HR.O H hl isB9 hβ hp | exact HR.R H hl A.2.2.2.2.2.1.1 | exact HR.B H hl isB1 A.1 | exact HR.c H hl _ rfl) rfl rfl ?_
    first | refine n_icmpge (pc := 14) rfl (by omega) (by omega) (fun h14 => ?_) (fun h14 => ?_) | refine q_icmpge (pc := 14) rfl (fun h14 => ?_) (fun h14 => ?_)
    · first | (exfalso; omega) | exact absurd h14 (nI_pos (by omega)) | exact absurd (nI_pos' (by omega)) h14
    · refine q_aload_n (pc := 17) rfl rfl rfl ?_
      refine q_getf (pc := 18) rfl (by first | exact HR.X' H hl | exact HR.S2 H hl (isS_of hq) g2 | exact HR.B H hl isB9 hβ | exact HR.O H hl isB9 hβ hp | exact HR.R H hl A.2.2.2.2.2.1.1 | exact HR.B H hl isB1 A.1 | exact HR.c H hl _ rfl) rfl rfl ?_
      refine q_iload (pc := 21) rfl rfl ?_
      refine r_pf2 (pc := 23) (i := 5) rfl H hl (okB isB9) (ecB isB9 _) rfl rfl (Nat.le_of_ble_eq_true rfl) rfl (ecB isB9 _) ?_
      intro h H
      have hβ := BT.pt (v := i) (j := 90) (c := 9) (i := 5) hβ (Or.inr (Or.inr (Or.inr ⟨rfl, by decide, by decide, rfl⟩)))
      obtain ⟨A, k1⟩ := th9 A (S := fun i => 9 ≤ i ∧ i < 17) (sf.rf.st (s1 := s) (b := 9) (j := 5) (v := nI i) (by omega)) (fun i g => Or.inl (by omega))
      refine q_iload_n (pc := 26) rfl rfl ?_
      refine q_aload_n (pc := 27) rfl rfl rfl ?_
      refine q_aload_n (pc := 28) rfl rfl rfl ?_
      refine q_aload_n (pc := 29) rfl rfl rfl ?_
      refine q_callV (pc := 30) _ rfl rfl rfl (by first | exact HR.X' H hl | exact HR.S2 H hl (isS_of hq) g2 | exact HR.B H hl isB9 hβ | exact HR.O H hl isB9 hβ hp | exact HR.R H hl A.2.2.2.2.2.1.1 | exact HR.B H hl isB1 A.1 | exact HR.c H hl _ rfl) rfl (Nat.le_of_ble_eq_true rfl) (by omega) _ rfl ?_
      refine c_firstO (by omega) hl hq hp h36 (by rw [hγ]; exact bok_rule bg (by omega)) H A hβ ?_
      intro h s1 H hβ A k3
      have k2 := k1.tr k3
      have hal : foV (lyN C E (upN γ (90) i) p) (cl q) (sz q) = -1 ↔ (alK C E β p (90) (cl q) (sz q)) i = true := by
        unfold alK
        rw [hγ]
        exact foV_m (by omega)
      refine q_iconst (pc := 33) rfl (-1) (by decide) ?_
      refine q_icmpne (pc := 34) rfl (fun h34 => ?_) (fun h34 => ?_)
      · 
        first
        | (exfalso; omega (config := {splitDisjunctions := false}))
        | exact absurd rfl h34
        | skip
          refine q_iconst (pc := 44) rfl (nI 0) (by decide) ?_
          refine n_ior (pc := 45) rfl ?_
          refine q_istore_n (pc := 46) [_, _, _, _, _] rfl (Nat.le_of_ble_eq_true rfl) rfl ?_
          first | refine n_iinc (pc := 47) rfl [_, _, _, _, _] 1 (by decide) rfl rfl ?_ | refine q_iinc (pc := 47) [_, _, _, _, _] (1) rfl rfl (by decide) rfl ?_
          refine q_goto (pc := 50) rfl ?_
          first
          | (have ih := c_textsL hd hl hq hp h36 bg kk n (i + 1) (by omega) (upN γ (90) i) (fun u => by rw [upN_upN]; exact hγ u) h _ H A hβ (hs.tr k2)
             rw [show bset (alK C E β p (90) (cl q) (sz q)) (i + 1) = bset (alK C E β p (90) (cl q) (sz q)) i ||| 2 ^ i from bset_t (hal.mp h34)] at ih
             exact ih)
          | (have ih := c_textsL hd hl hq hp h36 bg kk n (i + 1) (by omega) (upN γ (90) i) (fun u => by rw [upN_upN]; exact hγ u) h _ H A hβ (hs.tr k2)
             rw [show bset (alK C E β p (90) (cl q) (sz q)) (i + 1) = bset (alK C E β p (90) (cl q) (sz q)) i from bset_f (Bool.eq_false_iff.mpr (fun e => h34 (hal.mpr e))), show bset (alK C E β p (90) (cl q) (sz q)) i = bset (alK C E β p (90) (cl q) (sz q)) i ||| 0 from (Nat.or_zero _).symm] at ih
             exact ih)
      · 
        first
        | (exfalso; omega (config := {splitDisjunctions := false}))
        | exact absurd rfl h34
        | skip
          refine q_iconst (pc := 37) rfl (nI 1) (by decide) ?_
          refine q_iload (pc := 38) rfl rfl ?_
          refine n_ishl1 (pc := 40) rfl (by omega) ?_
          refine q_goto (pc := 41) rfl ?_
          refine n_ior (pc := 45) rfl ?_
          refine q_istore_n (pc := 46) [_, _, _, _, _] rfl (Nat.le_of_ble_eq_true rfl) rfl ?_
          first | refine n_iinc (pc := 47) rfl [_, _, _, _, _] 1 (by decide) rfl rfl ?_ | refine q_iinc (pc := 47) [_, _, _, _, _] (1) rfl rfl (by decide) rfl ?_
          refine q_goto (pc := 50) rfl ?_
          first
          | (have ih := c_textsL hd hl hq hp h36 bg kk n (i + 1) (by omega) (upN γ (90) i) (fun u => by rw [upN_upN]; exact hγ u) h _ H A hβ (hs.tr k2)
             rw [show bset (alK C E β p (90) (cl q) (sz q)) (i + 1) = bset (alK C E β p (90) (cl q) (sz q)) i ||| 2 ^ i from bset_t (hal.mp h34)] at ih
             exact ih)
          | (have ih := c_textsL hd hl hq hp h36 bg kk n (i + 1) (by omega) (upN γ (90) i) (fun u => by rw [upN_upN]; exact hγ u) h _ H A hβ (hs.tr k2)
             rw [show bset (alK C E β p (90) (cl q) (sz q)) (i + 1) = bset (alK C E β p (90) (cl q) (sz q)) i from bset_f (Bool.eq_false_iff.mpr (fun e => h34 (hal.mpr e))), show bset (alK C E β p (90) (cl q) (sz q)) i = bset (alK C E β p (90) (cl q) (sz q)) i ||| 0 from (Nat.or_zero _).symm] at ih
             exact ih)
termination_by n
def lsN (f : Nat → Bool) (N : Nat) : Int32 := if fnd f N 0 < N then nI (fnd f N 0) else -1
theorem c_leastL {q : Nat} (hd : 9 ≤ d) (hl : 51 ≤ P.1) (hq : q < 4) (hp : p < 4) (h36 : sz q ≤ 36) (bg : bok β P.2.1) {s0 : mx_St} (kk : ∀ h' s', HR P h' s' → CA P s' β κ ik tp tz C E σ sz cl → sf s0 s' cS → Q (some (.int (lsN (alK C E β p 89 (cl q) (sz q)) 100))) h') (n i : Nat) (hi : i + n = 100) (hno : ∀ j, j < i → alK C E β p 89 (cl q) (sz q) j = false) (γ : Nat → Nat) (hγ : ∀ u, upN γ 89 u = upN β 89 u) (h : mx_H) (s : mx_St) (H : HR P h s) (A : CA P s β κ ik tp tz C E σ sz cl) (hβ : BT s 9 γ) (hs : sf s0 s cS) : wq d 109 2 [some (.ref 0), some (.ref (43 + 2 * q)), some (.ref (9 + 4 + p)), some (.int (nI i))] [] h Q := by
  match n, hi with
  | 0, hi =>
    obtain rfl : i = 100 := by omega
    refine q_iload_n (pc := 2) rfl rfl ?_
    refine q_bipush (pc := 3) rfl (nI 100) (by decide) ?_
    first | refine n_icmpge (pc := 5) rfl (by omega) (by omega) (fun h5 => ?_) (fun h5 => ?_) | refine q_icmpge (pc := 5) rfl (fun h5 => ?_) (fun h5 => ?_)
    · refine q_iconst (pc := 34) rfl (-1) (by decide) ?_
      refine q_iret (pc := 35) rfl (rfl) ?_
      have e := kk _ _ H A hs
      unfold lsN at e
      rw [fnd_no _ 100 0 (fun i _ g => hno i (by omega)), if_neg (by omega)] at e
      exact e
    · first | (exfalso; omega) | exact absurd h5 (nI_pos (by omega)) | exact absurd (nI_pos' (by omega)) h5
  | n + 1, hi =>
    refine q_iload_n (pc := 2) rfl rfl ?_
    refine q_bipush (pc := 3) rfl (nI 100) (by decide) ?_
    first | refine n_icmpge (pc := 5) rfl (by omega) (by omega) (fun h5 => ?_) (fun h5 => ?_) | refine q_icmpge (pc := 5) rfl (fun h5 => ?_) (fun h5 => ?_)
    · first | (exfalso; omega) | exact absurd h5 (nI_pos (by omega)) | exact absurd (nI_pos' (by omega)) h5
    · refine q_aload_n (pc := 8) rfl rfl rfl ?_
      refine q_getf (pc := 9) rfl (by first | exact HR.X' H hl | exact HR.S2 H hl (isS_of hq) g2 | exact HR.B H hl isB9 hβ | exact HR.O H hl isB9 hβ hp | exact HR.R H hl A.2.2.2.2.2.1.1 | exact HR.B H hl isB1 A.1 | exact HR.c H hl _ rfl) rfl rfl ?_
      refine q_iload_n (pc := 12) rfl rfl ?_
      refine r_pf2 (pc := 13) (i := 4) rfl H hl (okB isB9) (ecB isB9 _) rfl rfl (Nat.le_of_ble_eq_true rfl) rfl (ecB isB9 _) ?_
      intro h H
      have hβ := BT.pt (v := i) (j := 89) (c := 9) (i := 4) hβ (Or.inr (Or.inr (Or.inr ⟨rfl, by decide, by decide, rfl⟩)))
      obtain ⟨A, k1⟩ := th9 A (S := fun i => 9 ≤ i ∧ i < 17) (sf.rf.st (s1 := s) (b := 9) (j := 4) (v := nI i) (by omega)) (fun i g => Or.inl (by omega))
      refine q_aload_n (pc := 16) rfl rfl rfl ?_
      refine q_aload_n (pc := 17) rfl rfl rfl ?_
      refine q_aload_n (pc := 18) rfl rfl rfl ?_
      refine q_callV (pc := 19) _ rfl rfl rfl (by first | exact HR.X' H hl | exact HR.S2 H hl (isS_of hq) g2 | exact HR.B H hl isB9 hβ | exact HR.O H hl isB9 hβ hp | exact HR.R H hl A.2.2.2.2.2.1.1 | exact HR.B H hl isB1 A.1 | exact HR.c H hl _ rfl) rfl (Nat.le_of_ble_eq_true rfl) (by omega) _ rfl ?_
      refine c_firstO (by omega) hl hq hp h36 (by rw [hγ]; exact bok_tide bg (by omega)) H A hβ ?_
      intro h s1 H hβ A k3
      have k2 := k1.tr k3
      have hal : foV (lyN C E (upN γ 89 i) p) (cl q) (sz q) = -1 ↔ (alK C E β p 89 (cl q) (sz q)) i = true := by
        unfold alK
        rw [hγ]
        exact foV_m (by omega)
      refine q_iconst (pc := 22) rfl (-1) (by decide) ?_
      refine q_icmpne (pc := 23) rfl (fun h23 => ?_) (fun h23 => ?_)
      · 
        first
        | (exfalso; omega (config := {splitDisjunctions := false}))
        | exact absurd rfl h23
        | skip
          first | refine n_iinc (pc := 28) rfl [_, _, _, _] 1 (by decide) rfl rfl ?_ | refine q_iinc (pc := 28) [_, _, _, _] (1) rfl rfl (by decide) rfl ?_
          refine q_goto (pc := 31) rfl ?_
          exact c_leastL hd hl hq hp h36 bg kk n (i + 1) (by omega) (fun j hj => by
            by_cases e : j = i
            · subst e
              exact Bool.eq_false_iff.mpr (fun e => h23 (hal.mpr e))
            · exact hno j (by omega)) (upN γ 89 i) (fun u => by rw [upN_upN]; exact hγ u) h _ H A hβ (hs.tr k2)
      · 
        first
        | (exfalso; omega (config := {splitDisjunctions := false}))
        | exact absurd rfl h23
        | skip
          refine q_iload_n (pc := 26) rfl rfl ?_
          refine q_iret (pc := 27) rfl (rfl) ?_
          have e := kk _ _ H A (hs.tr k2)
          unfold lsN at e
          rw [fnd_eq _ 100 0 i (Nat.zero_le _) (by omega) (hal.mp h23) (fun j _ g => hno j g), if_pos (by omega)] at e
          exact e
termination_by n
def bhB (C : Nat → Nat → Int32) (E : Nat → Nat → Nat) (β : Nat → Nat) (F : Nat → Int32) (n : Nat) : Nat → Bool := fun r => decide (∀ c, c < n → nI (flob C E β r c) = F c)
theorem c_reachesL {q : Nat} (hd : 9 ≤ d) (hl : 51 ≤ P.1) (hq : q < 4) (h36 : sz q ≤ 36) (K : AOK P.2.1 β κ ik tp tz σ sz) {s0 : mx_St} (kk : ∀ h' s', HR P h' s' → CA P s' β κ ik tp tz C E σ sz cl → sf s0 s' cS → Q (some (.int (nI (bset (bhB C E β (cl q) (sz q)) 7)))) h') (n i : Nat) (hi : i + n = 7) (h : mx_H) (s : mx_St) (H : HR P h s) (A : CA P s β κ ik tp tz C E σ sz cl) (hs : sf s0 s cS) : wq d 111 4 [some (.ref 0), some (.ref (43 + 2 * q)), some (.int (nI (bset (bhB C E β (cl q) (sz q)) i))), some (.int (nI i))] [] h Q := by
  have KK := K.1
  match n, hi with
  | 0, hi =>
    obtain rfl : i = 7 := by omega
    refine q_iload_n (pc := 4) rfl rfl ?_
    refine q_bipush (pc := 5) rfl (nI 6) (by decide) ?_
    first | refine n_icmpgt (pc := 7) rfl (by omega) (by omega) (fun h7 => ?_) (fun h7 => ?_) | refine q_icmpgt (pc := 7) rfl (fun h7 => ?_) (fun h7 => ?_)
    · refine q_iload_n (pc := 60) rfl rfl ?_
      refine q_iret (pc := 61) rfl (rfl) ?_
      exact kk _ _ H A hs
    · first | (exfalso; omega) | exact absurd h7 (nI_pos (by omega)) | exact absurd (nI_pos' (by omega)) h7
  | n + 1, hi =>
    refine q_iload_n (pc := 4) rfl rfl ?_
    refine q_bipush (pc := 5) rfl (nI 6) (by decide) ?_
    first | refine n_icmpgt (pc := 7) rfl (by omega) (by omega) (fun h7 => ?_) (fun h7 => ?_) | refine q_icmpgt (pc := 7) rfl (fun h7 => ?_) (fun h7 => ?_)
    · first | (exfalso; omega) | exact absurd h7 (nI_pos (by omega)) | exact absurd (nI_pos' (by omega)) h7
    · refine q_aload_n (pc := 10) rfl rfl rfl ?_
      refine q_getf (pc := 11) rfl (by first | exact HR.X' H hl | exact HR.B H hl isB9 hβ | exact HR.O H hl isB9 hβ hp | exact HR.B H hl isB1 A.1 | exact HR.R H hl A.2.2.2.2.2.1.1 | exact HR.O H hl isB1 A.1 hp | exact HR.c H hl _ rfl) rfl rfl ?_
      refine q_aload_n (pc := 14) rfl rfl rfl ?_
      refine q_getf (pc := 15) rfl (by first | exact HR.X' H hl | exact HR.B H hl isB9 hβ | exact HR.O H hl isB9 hβ hp | exact HR.B H hl isB1 A.1 | exact HR.R H hl A.2.2.2.2.2.1.1 | exact HR.O H hl isB1 A.1 hp | exact HR.c H hl _ rfl) rfl rfl ?_
      refine q_callV (pc := 18) _ rfl rfl rfl (by first | exact HR.X' H hl | exact HR.B H hl isB9 hβ | exact HR.O H hl isB9 hβ hp | exact HR.B H hl isB1 A.1 | exact HR.R H hl A.2.2.2.2.2.1.1 | exact HR.O H hl isB1 A.1 hp | exact HR.c H hl _ rfl) rfl (Nat.le_of_ble_eq_true rfl) (by omega) _ rfl ?_
      refine c_become (by omega) hl H isB9 isB1 (by decide) A.1 ?_
      intro h s1 H hβ k0
      obtain ⟨A, k1⟩ := th9 A k0 (fun i g => Or.inl (by omega))
      have hT := A.2.2.2.2.2.1
      refine q_aload_n (pc := 21) rfl rfl rfl ?_
      refine q_getf (pc := 22) rfl (by first | exact HR.X' H hl | exact HR.B H hl isB9 hβ | exact HR.O H hl isB9 hβ hp | exact HR.B H hl isB1 A.1 | exact HR.R H hl A.2.2.2.2.2.1.1 | exact HR.O H hl isB1 A.1 hp | exact HR.c H hl _ rfl) rfl rfl ?_
      refine q_aload_n (pc := 25) rfl rfl rfl ?_
      refine q_getf (pc := 26) rfl (by first | exact HR.X' H hl | exact HR.B H hl isB9 hβ | exact HR.O H hl isB9 hβ hp | exact HR.B H hl isB1 A.1 | exact HR.R H hl A.2.2.2.2.2.1.1 | exact HR.O H hl isB1 A.1 hp | exact HR.c H hl _ rfl) rfl rfl ?_
      refine q_iload_n (pc := 29) rfl rfl ?_
      refine q_callV (pc := 30) _ rfl rfl rfl (by first | exact HR.X' H hl | exact HR.B H hl isB9 hβ | exact HR.O H hl isB9 hβ hp | exact HR.B H hl isB1 A.1 | exact HR.R H hl A.2.2.2.2.2.1.1 | exact HR.O H hl isB1 A.1 hp | exact HR.c H hl _ rfl) rfl (Nat.le_of_ble_eq_true rfl) (by omega) _ rfl ?_
      refine c_flood (by omega) H hl isB9 hβ hT KK (by omega) ?_
      intro h s2 H hβ hT k2
      obtain ⟨A, k3⟩ := th9 A k2 (fun i g => by omega)
      obtain ⟨g1, g2, g3⟩ := A.2.2.2.2.2.2 q hq
      refine q_iload_n (pc := 33) rfl rfl ?_
      refine q_aload_n (pc := 34) rfl rfl rfl ?_
      refine q_getf (pc := 35) rfl (by first | exact HR.X' H hl | exact HR.B H hl isB9 hβ | exact HR.O H hl isB9 hβ hp | exact HR.B H hl isB1 A.1 | exact HR.R H hl A.2.2.2.2.2.1.1 | exact HR.O H hl isB1 A.1 hp | exact HR.c H hl _ rfl) rfl rfl ?_
      refine q_aload_n (pc := 38) rfl rfl rfl ?_
      refine q_callV (pc := 39) _ rfl rfl rfl (by first | exact HR.X' H hl | exact HR.B H hl isB9 hβ | exact HR.O H hl isB9 hβ hp | exact HR.B H hl isB1 A.1 | exact HR.R H hl A.2.2.2.2.2.1.1 | exact HR.O H hl isB1 A.1 hp | exact HR.c H hl _ rfl) rfl (Nat.le_of_ble_eq_true rfl) (by omega) _ rfl ?_
      refine c_liesAs (by omega) H hl (isS_of hq) g2 (by omega) isB9 hβ (fun hw => ?_) (fun hw => ?_)
      · have hw : bhB C E β (cl q) (sz q) i = true := decide_eq_true (fun c hc => (hw c hc (by omega)).trans (g3 c (by omega)))
        refine q_ifeq (pc := 42) rfl (fun z => absurd z (by decide)) (fun _ => ?_)
        refine q_iconst (pc := 45) rfl (nI 1) (by decide) ?_
        refine q_iload_n (pc := 46) rfl rfl ?_
        refine n_ishl1 (pc := 47) rfl (by omega) ?_
        refine q_goto (pc := 48) rfl ?_
        refine n_ior (pc := 52) rfl ?_
        refine q_istore_n (pc := 53) [_, _, _, _] rfl (Nat.le_of_ble_eq_true rfl) rfl ?_
        first | refine n_iinc (pc := 54) rfl [_, _, _, _] 1 (by decide) rfl rfl ?_ | refine q_iinc (pc := 54) [_, _, _, _] (1) rfl rfl (by decide) rfl ?_
        refine q_goto (pc := 57) rfl ?_
        first
        | (have ih := c_reachesL hd hl hq h36 K kk n (i + 1) (by omega) h _ H A (hs.tr (k1.tr k3))
           rw [show bset (bhB C E β (cl q) (sz q)) (i + 1) = bset (bhB C E β (cl q) (sz q)) i ||| 2 ^ i from bset_t hw] at ih
           exact ih)
        | (have ih := c_reachesL hd hl hq h36 K kk n (i + 1) (by omega) h _ H A (hs.tr (k1.tr k3))
           rw [show bset (bhB C E β (cl q) (sz q)) (i + 1) = bset (bhB C E β (cl q) (sz q)) i from bset_f hw, show bset (bhB C E β (cl q) (sz q)) i = bset (bhB C E β (cl q) (sz q)) i ||| 0 from (Nat.or_zero _).symm] at ih
           exact ih)
      · have hw : bhB C E β (cl q) (sz q) i = false := decide_eq_false (fun e => hw (fun c hc _ => (e c hc).trans (g3 c (by omega)).symm))
        refine q_ifeq (pc := 42) rfl (fun _ => ?_) (fun z => absurd (by decide) z)
        refine q_iconst (pc := 51) rfl (nI 0) (by decide) ?_
        refine n_ior (pc := 52) rfl ?_
        refine q_istore_n (pc := 53) [_, _, _, _] rfl (Nat.le_of_ble_eq_true rfl) rfl ?_
        first | refine n_iinc (pc := 54) rfl [_, _, _, _] 1 (by decide) rfl rfl ?_ | refine q_iinc (pc := 54) [_, _, _, _] (1) rfl rfl (by decide) rfl ?_
        refine q_goto (pc := 57) rfl ?_
        first
        | (have ih := c_reachesL hd hl hq h36 K kk n (i + 1) (by omega) h _ H A (hs.tr (k1.tr k3))
           rw [show bset (bhB C E β (cl q) (sz q)) (i + 1) = bset (bhB C E β (cl q) (sz q)) i ||| 2 ^ i from bset_t hw] at ih
           exact ih)
        | (have ih := c_reachesL hd hl hq h36 K kk n (i + 1) (by omega) h _ H A (hs.tr (k1.tr k3))
           rw [show bset (bhB C E β (cl q) (sz q)) (i + 1) = bset (bhB C E β (cl q) (sz q)) i from bset_f hw, show bset (bhB C E β (cl q) (sz q)) i = bset (bhB C E β (cl q) (sz q)) i ||| 0 from (Nat.or_zero _).symm] at ih
           exact ih)
termination_by n
theorem c_kinds {q : Nat} (hd : 9 ≤ d) (hl : 51 ≤ P.1) (hq : q < 4) (hp : p < 4) (h36 : sz q ≤ 36) (bg : bok β P.2.1) (H : HR P h s) (A : CA P s β κ ik tp tz C E σ sz cl) (hβ : BT s 9 β) (kk : ∀ h' s', HR P h' s' → CA P s' β κ ik tp tz C E σ sz cl → sf s s' cS → Q (some (.int (nI (bset (alK C E β p (72 + 4 * p) (cl q) (sz q)) 6)))) h') : wc d 106 [.ref 0, .ref (43 + 2 * q), .ref (9 + 4 + p)] h Q := by
  refine wc.go [_, _, _, _, _] rfl ?_
  refine q_iconst (pc := 0) rfl (nI 0) (by decide) ?_
  refine q_istore_n (pc := 1) [_, _, _, _, _] rfl (Nat.le_of_ble_eq_true rfl) rfl ?_
  refine q_iconst (pc := 2) rfl (nI 0) (by decide) ?_
  refine q_istore (pc := 3) [_, _, _, _, _] rfl (Nat.le_of_ble_eq_true rfl) rfl ?_
  exact c_kindsL hd hl hq hp h36 bg kk (6) 0 (by omega) β (fun u => rfl) h s H A hβ sf.rf
theorem c_numbers {q : Nat} (hd : 9 ≤ d) (hl : 51 ≤ P.1) (hq : q < 4) (hp : p < 4) (h36 : sz q ≤ 36) (bg : bok β P.2.1) (H : HR P h s) (A : CA P s β κ ik tp tz C E σ sz cl) (hβ : BT s 9 β) (kk : ∀ h' s', HR P h' s' → CA P s' β κ ik tp tz C E σ sz cl → sf s s' cS → Q (some (.int (nI (bset (alK C E β p (72 + 4 * p + 1) (cl q) (sz q)) 10)))) h') : wc d 107 [.ref 0, .ref (43 + 2 * q), .ref (9 + 4 + p)] h Q := by
  refine wc.go [_, _, _, _, _] rfl ?_
  refine q_iconst (pc := 0) rfl (nI 0) (by decide) ?_
  refine q_istore_n (pc := 1) [_, _, _, _, _] rfl (Nat.le_of_ble_eq_true rfl) rfl ?_
  refine q_iconst (pc := 2) rfl (nI 0) (by decide) ?_
  refine q_istore (pc := 3) [_, _, _, _, _] rfl (Nat.le_of_ble_eq_true rfl) rfl ?_
  exact c_numbersL hd hl hq hp h36 bg kk (10) 0 (by omega) β (fun u => rfl) h s H A hβ sf.rf
theorem c_tides {q : Nat} (hd : 9 ≤ d) (hl : 51 ≤ P.1) (hq : q < 4) (hp : p < 4) (h36 : sz q ≤ 36) (bg : bok β P.2.1) (H : HR P h s) (A : CA P s β κ ik tp tz C E σ sz cl) (hβ : BT s 9 β) (kk : ∀ h' s', HR P h' s' → CA P s' β κ ik tp tz C E σ sz cl → sf s s' cS → Q (some (.int (nI (cntf (alK C E β p (89) (cl q) (sz q)) 100)))) h') : wc d 108 [.ref 0, .ref (43 + 2 * q), .ref (9 + 4 + p)] h Q := by
  refine wc.go [_, _, _, _, _] rfl ?_
  refine q_iconst (pc := 0) rfl (nI 0) (by decide) ?_
  refine q_istore_n (pc := 1) [_, _, _, _, _] rfl (Nat.le_of_ble_eq_true rfl) rfl ?_
  refine q_iconst (pc := 2) rfl (nI 0) (by decide) ?_
  refine q_istore (pc := 3) [_, _, _, _, _] rfl (Nat.le_of_ble_eq_true rfl) rfl ?_
  exact c_tidesL hd hl hq hp h36 bg kk (100) 0 (by omega) β (fun u => rfl) h s H A hβ sf.rf
theorem c_texts {q : Nat} (hd : 9 ≤ d) (hl : 51 ≤ P.1) (hq : q < 4) (hp : p < 4) (h36 : sz q ≤ 36) (bg : bok β P.2.1) (H : HR P h s) (A : CA P s β κ ik tp tz C E σ sz cl) (hβ : BT s 9 β) (kk : ∀ h' s', HR P h' s' → CA P s' β κ ik tp tz C E σ sz cl → sf s s' cS → Q (some (.int (nI (bset (alK C E β p (90) (cl q) (sz q)) P.2.1)))) h') : wc d 110 [.ref 0, .ref (43 + 2 * q), .ref (9 + 4 + p)] h Q := by
  refine wc.go [_, _, _, _, _] rfl ?_
  refine q_iconst (pc := 0) rfl (nI 0) (by decide) ?_
  refine q_istore_n (pc := 1) [_, _, _, _, _] rfl (Nat.le_of_ble_eq_true rfl) rfl ?_
  refine q_iconst (pc := 2) rfl (nI 0) (by decide) ?_
  refine q_istore (pc := 3) [_, _, _, _, _] rfl (Nat.le_of_ble_eq_true rfl) rfl ?_
  exact c_textsL hd hl hq hp h36 bg kk (P.2.1) 0 (by omega) β (fun u => rfl) h s H A hβ sf.rf
theorem c_leastT {q : Nat} (hd : 9 ≤ d) (hl : 51 ≤ P.1) (hq : q < 4) (hp : p < 4) (h36 : sz q ≤ 36) (bg : bok β P.2.1) (H : HR P h s) (A : CA P s β κ ik tp tz C E σ sz cl) (hβ : BT s 9 β) (kk : ∀ h' s', HR P h' s' → CA P s' β κ ik tp tz C E σ sz cl → sf s s' cS → Q (some (.int (lsN (alK C E β p 89 (cl q) (sz q)) 100))) h') : wc d 109 [.ref 0, .ref (43 + 2 * q), .ref (9 + 4 + p)] h Q := by
  refine wc.go [_, _, _, _] rfl ?_
  refine q_iconst (pc := 0) rfl (nI 0) (by decide) ?_
  refine q_istore_n (pc := 1) [_, _, _, _] rfl (Nat.le_of_ble_eq_true rfl) rfl ?_
  exact c_leastL hd hl hq hp h36 bg kk 100 0 (by omega) (fun j hj => by omega) β (fun u => rfl) h s H A hβ sf.rf
theorem c_reaches {q : Nat} (hd : 9 ≤ d) (hl : 51 ≤ P.1) (hq : q < 4) (h36 : sz q ≤ 36) (H : HR P h s) (A : CA P s β κ ik tp tz C E σ sz cl) (K : AOK P.2.1 β κ ik tp tz σ sz) (kk : ∀ h' s', HR P h' s' → CA P s' β κ ik tp tz C E σ sz cl → sf s s' cS → Q (some (.int (nI (bset (bhB C E β (cl q) (sz q)) 7)))) h') : wc d 111 [.ref 0, .ref (43 + 2 * q)] h Q := by
  refine wc.go [_, _, _, _] rfl ?_
  refine q_iconst (pc := 0) rfl (nI 0) (by decide) ?_
  refine q_istore_n (pc := 1) [_, _, _, _] rfl (Nat.le_of_ble_eq_true rfl) rfl ?_
  refine q_iconst (pc := 2) rfl (nI 0) (by decide) ?_
  refine q_istore_n (pc := 3) [_, _, _, _] rfl (Nat.le_of_ble_eq_true rfl) rfl ?_
  exact c_reachesL hd hl hq h36 K kk 7 0 (by omega) h s H A sf.rf
def tlV (C : Nat → Nat → Int32) (E : Nat → Nat → Nat) (β : Nat → Nat) (F : Nat → Int32) (n m p w : Nat) : Int32 := if w = 0 then foV (lyN C E β p) F n else if w = 1 then nI (bset (alK C E β p (72 + 4 * p) F n) 6) else if w = 2 then nI (bset (alK C E β p (72 + 4 * p + 1) F n) 10) else if w = 3 then nI (cntf (alK C E β p 89 F n) 100) else if w = 4 then lsN (alK C E β p 89 F n) 100 else if w = 5 then nI (bset (alK C E β p 90 F n) m) else nI (bset (bhB C E β F n) 7)
def o_tells (C : Nat → Nat → Int32) (E : Nat → Nat → Nat) (m : Nat) (σ : Nat → Int32) (sz : Nat → Nat) (cl : Nat → Nat → Int32) (β : Nat → Nat) (x y z : Int32) : Int32 := if rg 4 x < 4 ∧ rg (β 88) y < β 88 ∧ rg 7 z < 7 then (if σ (rg 4 x) = -1 then -11 else if 36 < sz (rg 4 x) then -2 else tlV C E β (cl (rg 4 x)) (sz (rg 4 x)) m (rg (β 88) y) (rg 7 z)) else -2
theorem c_tells (hd : 20 ≤ d) (H : HR P h s) (hl : 51 ≤ P.1) (A : CA P s β κ ik tp tz C E σ sz cl) (K : AOK P.2.1 β κ ik tp tz σ sz) (kk : ∀ h' s', HR P h' s' → CA P s' β κ ik tp tz C E σ sz cl → sf s s' cS → Q (some (.int (o_tells C E P.2.1 σ sz cl β x y z))) h') : wc d 104 [.ref 0, .int x, .int y, .int z] h Q := by
  have K4 := K.1.2.2.1
  have KK := K.1
  have hT := A.2.2.2.2.2.1
  have hSh := A.2.2.2.2.2.2
  have kSh := K.2.2.2.2.2.2.2
  rcases rgc 7 (by decide) z with ⟨w, hw, rfl, z1⟩ | ⟨g, z1⟩
  ·
    refine wc.go [_, _, _, _, _, _] rfl ?_
    refine q_aload_n (pc := 0) rfl rfl rfl ?_
    refine q_iload_n (pc := 1) rfl rfl ?_
    refine q_callV (pc := 2) _ rfl rfl rfl (by first | exact HR.X' H hl | exact HR.S2 H hl (isS_of hq) g2 | exact HR.S H hl (isS_of hq) | exact HR.B H hl isB9 hβ | exact HR.B H hl isB1 A.1 | exact HR.c H hl _ rfl) rfl (Nat.le_of_ble_eq_true rfl) (by omega) _ rfl ?_
    refine c_sheetAt H hl (fun q hq hxq => ?_) (fun gq => ?_)
    · subst hxq
      have zs : Hd (rg 4 (nI q) = q) := rg_in hq (by decide)
      refine q_astore (pc := 5) [_, _, _, _, _, _] rfl rfl (Nat.le_of_ble_eq_true rfl) rfl ?_
      refine q_aload_n (pc := 7) rfl rfl rfl ?_
      refine q_getf (pc := 8) rfl (by first | exact HR.X' H hl | exact HR.S2 H hl (isS_of hq) g2 | exact HR.S H hl (isS_of hq) | exact HR.B H hl isB9 hβ | exact HR.B H hl isB1 A.1 | exact HR.c H hl _ rfl) rfl rfl ?_
      refine q_aload_n (pc := 11) rfl rfl rfl ?_
      refine q_getf (pc := 12) rfl (by first | exact HR.X' H hl | exact HR.S2 H hl (isS_of hq) g2 | exact HR.S H hl (isS_of hq) | exact HR.B H hl isB9 hβ | exact HR.B H hl isB1 A.1 | exact HR.c H hl _ rfl) rfl rfl ?_
      refine q_callV (pc := 15) _ rfl rfl rfl (by first | exact HR.X' H hl | exact HR.S2 H hl (isS_of hq) g2 | exact HR.S H hl (isS_of hq) | exact HR.B H hl isB9 hβ | exact HR.B H hl isB1 A.1 | exact HR.c H hl _ rfl) rfl (Nat.le_of_ble_eq_true rfl) (by omega) _ rfl ?_
      refine c_become (by omega) hl H isB9 isB1 (by decide) A.1 ?_
      intro h s1 H hβ k0
      obtain ⟨A, k1⟩ := th9 A k0 (fun i g => Or.inl (by omega))
      have hT := A.2.2.2.2.2.1
      refine q_aload_n (pc := 18) rfl rfl rfl ?_
      refine q_getf (pc := 19) rfl (by first | exact HR.X' H hl | exact HR.S2 H hl (isS_of hq) g2 | exact HR.S H hl (isS_of hq) | exact HR.B H hl isB9 hβ | exact HR.B H hl isB1 A.1 | exact HR.c H hl _ rfl) rfl rfl ?_
      refine q_iload_n (pc := 22) rfl rfl ?_
      refine q_callV (pc := 23) _ rfl rfl rfl (by first | exact HR.X' H hl | exact HR.S2 H hl (isS_of hq) g2 | exact HR.S H hl (isS_of hq) | exact HR.B H hl isB9 hβ | exact HR.B H hl isB1 A.1 | exact HR.c H hl _ rfl) rfl (Nat.le_of_ble_eq_true rfl) (by omega) _ rfl ?_
      refine c_member H hl isB9 hβ (fun p hp hpβ hxp => ?_) (fun gp => ?_) K4
      · subst hxp
        have zp : Hd (rg (β 88) (nI p) = p) := rg_in hpβ (by omega)
        refine q_astore (pc := 26) [_, _, _, _, _, _] rfl rfl (Nat.le_of_ble_eq_true rfl) rfl ?_
        refine q_aload (pc := 28) rfl rfl rfl ?_
        refine q_ifnull (pc := 30) rfl ?_
        refine q_aload (pc := 33) rfl rfl rfl ?_
        refine q_ifnull (pc := 35) rfl ?_
        refine q_iload_n (pc := 38) rfl rfl ?_
        refine q_iflt (pc := 39) rfl (fun h39 => ?_) (fun h39 => ?_)
        · first | (exfalso; omega) | exact absurd h39 (nI_pos (by omega)) | exact absurd (nI_pos' (by omega)) h39
        · refine q_iload_n (pc := 42) rfl rfl ?_
          refine q_bipush (pc := 43) rfl (nI 6) (by decide) ?_
          first | refine n_icmple (pc := 45) rfl (by omega) (by omega) (fun h45 => ?_) (fun h45 => ?_) | refine q_icmple (pc := 45) rfl (fun h45 => ?_) (fun h45 => ?_)
          · refine q_aload (pc := 51) rfl rfl rfl ?_
            refine q_callV (pc := 53) _ rfl rfl rfl (by first | exact HR.X' H hl | exact HR.S2 H hl (isS_of hq) g2 | exact HR.S H hl (isS_of hq) | exact HR.B H hl isB9 hβ | exact HR.B H hl isB1 A.1 | exact HR.c H hl _ rfl) rfl (Nat.le_of_ble_eq_true rfl) (by omega) _ rfl ?_
            obtain ⟨g1, g2, g3⟩ := A.2.2.2.2.2.2 q hq
            obtain ⟨k40, kσ⟩ := kSh q hq
            refine c_isThere H hl (isS_of hq) (fun gs => ?_) (fun gs => ?_)
            · rw [g1] at gs
              refine q_ifne (pc := 56) rfl (fun _ => ?_) (fun z => absurd z (by decide))
              refine q_aload (pc := 62) rfl rfl rfl ?_
              refine q_getf (pc := 64) rfl (by first | exact HR.X' H hl | exact HR.S2 H hl (isS_of hq) g2 | exact HR.S H hl (isS_of hq) | exact HR.B H hl isB9 hβ | exact HR.B H hl isB1 A.1 | exact HR.c H hl _ rfl) rfl rfl ?_
              refine q_bipush (pc := 67) rfl (nI 36) (by decide) ?_
              first | refine n_icmple (pc := 69) rfl (by omega) (by omega) (fun h69 => ?_) (fun h69 => ?_) | refine q_icmple (pc := 69) rfl (fun h69 => ?_) (fun h69 => ?_)
              · first
                | (exfalso; omega (config := {splitDisjunctions := false}))
                | skip
                  refine q_iload_n (pc := 75) rfl rfl ?_
                  have e1 : ∀ v, tlV C E β (cl q) (sz q) P.2.1 p w = v → o_tells C E P.2.1 σ sz cl β (nI q) (nI p) (nI w) = v := fun v e => by
                    unfold o_tells
                    rw [zs.out, zp.out, z1.out, if_pos ⟨hq, hpβ, hw⟩, if_neg gs, if_neg (by omega)]
                    exact e
                  rcases (show w = 0 ∨ w = 1 ∨ w = 2 ∨ w = 3 ∨ w = 4 ∨ w = 5 ∨ w = 6 by omega) with rfl | rfl | rfl | rfl | rfl | rfl | rfl
                  · refine q_tsw (pc := 76) (t := 116) rfl (by decide) ?_
                    refine q_aload_n (pc := 116) rfl rfl rfl ?_
                    refine q_aload (pc := 117) rfl rfl rfl ?_
                    refine q_aload (pc := 119) rfl rfl rfl ?_
                    refine q_callV (pc := 121) _ rfl rfl rfl (by first | exact HR.X' H hl | exact HR.S2 H hl (isS_of hq) g2 | exact HR.S H hl (isS_of hq) | exact HR.B H hl isB9 hβ | exact HR.B H hl isB1 A.1 | exact HR.c H hl _ rfl) rfl (Nat.le_of_ble_eq_true rfl) (by omega) _ rfl ?_
                    refine c_firstO (by omega) hl hq hp (by omega) KK H A hβ ?_
                    intro h s2 H hβ A k2
                    refine q_iret (pc := 124) rfl (rfl) ?_
                    refine eqQ (e1 _ ?_) (kk _ _ H A (k1.tr k2))
                    rfl
                  · refine q_tsw (pc := 76) (t := 125) rfl (by decide) ?_
                    refine q_aload_n (pc := 125) rfl rfl rfl ?_
                    refine q_aload (pc := 126) rfl rfl rfl ?_
                    refine q_aload (pc := 128) rfl rfl rfl ?_
                    refine q_callV (pc := 130) _ rfl rfl rfl (by first | exact HR.X' H hl | exact HR.S2 H hl (isS_of hq) g2 | exact HR.S H hl (isS_of hq) | exact HR.B H hl isB9 hβ | exact HR.B H hl isB1 A.1 | exact HR.c H hl _ rfl) rfl (Nat.le_of_ble_eq_true rfl) (by omega) _ rfl ?_
                    refine c_kinds (by omega) hl hq hp (by omega) KK H A hβ ?_
                    intro h s2 H A k2
                    refine q_iret (pc := 133) rfl (rfl) ?_
                    refine eqQ (e1 _ ?_) (kk _ _ H A (k1.tr k2))
                    rfl
                  · refine q_tsw (pc := 76) (t := 134) rfl (by decide) ?_
                    refine q_aload_n (pc := 134) rfl rfl rfl ?_
                    refine q_aload (pc := 135) rfl rfl rfl ?_
                    refine q_aload (pc := 137) rfl rfl rfl ?_
                    refine q_callV (pc := 139) _ rfl rfl rfl (by first | exact HR.X' H hl | exact HR.S2 H hl (isS_of hq) g2 | exact HR.S H hl (isS_of hq) | exact HR.B H hl isB9 hβ | exact HR.B H hl isB1 A.1 | exact HR.c H hl _ rfl) rfl (Nat.le_of_ble_eq_true rfl) (by omega) _ rfl ?_
                    refine c_numbers (by omega) hl hq hp (by omega) KK H A hβ ?_
                    intro h s2 H A k2
                    refine q_iret (pc := 142) rfl (rfl) ?_
                    refine eqQ (e1 _ ?_) (kk _ _ H A (k1.tr k2))
                    rfl
                  · refine q_tsw (pc := 76) (t := 143) rfl (by decide) ?_
                    refine q_aload_n (pc := 143) rfl rfl rfl ?_
                    refine q_aload (pc := 144) rfl rfl rfl ?_
                    refine q_aload (pc := 146) rfl rfl rfl ?_
                    refine q_callV (pc := 148) _ rfl rfl rfl (by first | exact HR.X' H hl | exact HR.S2 H hl (isS_of hq) g2 | exact HR.S H hl (isS_of hq) | exact HR.B H hl isB9 hβ | exact HR.B H hl isB1 A.1 | exact HR.c H hl _ rfl) rfl (Nat.le_of_ble_eq_true rfl) (by omega) _ rfl ?_
                    refine c_tides (by omega) hl hq hp (by omega) KK H A hβ ?_
                    intro h s2 H A k2
                    refine q_iret (pc := 151) rfl (rfl) ?_
                    refine eqQ (e1 _ ?_) (kk _ _ H A (k1.tr k2))
                    rfl
                  · refine q_tsw (pc := 76) (t := 152) rfl (by decide) ?_
                    refine q_aload_n (pc := 152) rfl rfl rfl ?_
                    refine q_aload (pc := 153) rfl rfl rfl ?_
                    refine q_aload (pc := 155) rfl rfl rfl ?_
                    refine q_callV (pc := 157) _ rfl rfl rfl (by first | exact HR.X' H hl | exact HR.S2 H hl (isS_of hq) g2 | exact HR.S H hl (isS_of hq) | exact HR.B H hl isB9 hβ | exact HR.B H hl isB1 A.1 | exact HR.c H hl _ rfl) rfl (Nat.le_of_ble_eq_true rfl) (by omega) _ rfl ?_
                    refine c_leastT (by omega) hl hq hp (by omega) KK H A hβ ?_
                    intro h s2 H A k2
                    refine q_iret (pc := 160) rfl (rfl) ?_
                    refine eqQ (e1 _ ?_) (kk _ _ H A (k1.tr k2))
                    rfl
                  · refine q_tsw (pc := 76) (t := 161) rfl (by decide) ?_
                    refine q_aload_n (pc := 161) rfl rfl rfl ?_
                    refine q_aload (pc := 162) rfl rfl rfl ?_
                    refine q_aload (pc := 164) rfl rfl rfl ?_
                    refine q_callV (pc := 166) _ rfl rfl rfl (by first | exact HR.X' H hl | exact HR.S2 H hl (isS_of hq) g2 | exact HR.S H hl (isS_of hq) | exact HR.B H hl isB9 hβ | exact HR.B H hl isB1 A.1 | exact HR.c H hl _ rfl) rfl (Nat.le_of_ble_eq_true rfl) (by omega) _ rfl ?_
                    refine c_texts (by omega) hl hq hp (by omega) KK H A hβ ?_
                    intro h s2 H A k2
                    refine q_iret (pc := 169) rfl (rfl) ?_
                    refine eqQ (e1 _ ?_) (kk _ _ H A (k1.tr k2))
                    rfl
                  · refine q_tsw (pc := 76) (t := 170) rfl (by decide) ?_
                    refine q_aload_n (pc := 170) rfl rfl rfl ?_
                    refine q_aload (pc := 171) rfl rfl rfl ?_
                    refine q_callV (pc := 173) _ rfl rfl rfl (by first | exact HR.X' H hl | exact HR.S2 H hl (isS_of hq) g2 | exact HR.S H hl (isS_of hq) | exact HR.B H hl isB9 hβ | exact HR.B H hl isB1 A.1 | exact HR.c H hl _ rfl) rfl (Nat.le_of_ble_eq_true rfl) (by omega) _ rfl ?_
                    refine c_reaches (by omega) hl hq (by omega) H A K ?_
                    intro h s2 H A k2
                    refine q_iret (pc := 176) rfl (rfl) ?_
                    refine eqQ (e1 _ ?_) (kk _ _ H A (k1.tr k2))
                    rfl
              · first
                | (exfalso; omega (config := {splitDisjunctions := false}))
                | skip
                  refine q_bipush (pc := 72) rfl (-2) (by decide) ?_
                  refine q_iret (pc := 74) rfl (rfl) ?_
                  refine eqQ (v' := o_tells C E P.2.1 σ sz cl β (nI q) (nI p) (nI w)) ?_ (kk _ _ H A k1)
                  unfold o_tells
                  rw [zs.out, zp.out, z1.out, if_pos ⟨hq, hpβ, hw⟩, if_neg gs, if_pos (by omega)]
            · rw [g1] at gs
              refine q_ifne (pc := 56) rfl (fun z => absurd z (by decide)) (fun _ => ?_)
              refine q_bipush (pc := 59) rfl (-11) (by decide) ?_
              refine q_iret (pc := 61) rfl (rfl) ?_
              refine eqQ (v' := o_tells C E P.2.1 σ sz cl β (nI q) (nI p) (nI w)) ?_ (kk _ _ H A k1)
              unfold o_tells
              rw [zs.out, zp.out, z1.out, if_pos ⟨hq, hpβ, hw⟩, if_pos gs]
          · first | (exfalso; omega) | exact absurd h45 (nI_pos (by omega)) | exact absurd (nI_pos' (by omega)) h45
      · have zp : Hd (rg (β 88) y = β 88) := rg_out gp
        refine q_astore (pc := 26) [_, _, _, _, _, _] rfl rfl (Nat.le_of_ble_eq_true rfl) rfl ?_
        refine q_aload (pc := 28) rfl rfl rfl ?_
        refine q_ifnull (pc := 30) rfl ?_
        refine q_aload (pc := 33) rfl rfl rfl ?_
        refine q_ifnullN (pc := 35) rfl ?_
        refine q_bipush (pc := 48) rfl (-2) (by decide) ?_
        refine q_iret (pc := 50) rfl (rfl) ?_
        first
        | (refine eqQ (v' := o_tells C E P.2.1 σ sz cl β x (nI p) (nI w)) ?_ (kk _ _ H A k1)
           unfold o_tells
           rw [zs.out, if_neg (by omega)])
        | (refine eqQ (v' := o_tells C E P.2.1 σ sz cl β x y (nI w)) ?_ (kk _ _ H A k1)
           unfold o_tells
           rw [zs.out, if_neg (by omega)])
        | (refine eqQ (v' := o_tells C E P.2.1 σ sz cl β (nI q) y (nI w)) ?_ (kk _ _ H A k1)
           unfold o_tells
           rw [zp.out, if_neg (by omega)])
    · have zs : Hd (rg 4 x = 4) := rg_out gq
      refine q_astore (pc := 5) [_, _, _, _, _, _] rfl rfl (Nat.le_of_ble_eq_true rfl) rfl ?_
      refine q_aload_n (pc := 7) rfl rfl rfl ?_
      refine q_getf (pc := 8) rfl (by first | exact HR.X' H hl | exact HR.S2 H hl (isS_of hq) g2 | exact HR.S H hl (isS_of hq) | exact HR.B H hl isB9 hβ | exact HR.B H hl isB1 A.1 | exact HR.c H hl _ rfl) rfl rfl ?_
      refine q_aload_n (pc := 11) rfl rfl rfl ?_
      refine q_getf (pc := 12) rfl (by first | exact HR.X' H hl | exact HR.S2 H hl (isS_of hq) g2 | exact HR.S H hl (isS_of hq) | exact HR.B H hl isB9 hβ | exact HR.B H hl isB1 A.1 | exact HR.c H hl _ rfl) rfl rfl ?_
      refine q_callV (pc := 15) _ rfl rfl rfl (by first | exact HR.X' H hl | exact HR.S2 H hl (isS_of hq) g2 | exact HR.S H hl (isS_of hq) | exact HR.B H hl isB9 hβ | exact HR.B H hl isB1 A.1 | exact HR.c H hl _ rfl) rfl (Nat.le_of_ble_eq_true rfl) (by omega) _ rfl ?_
      refine c_become (by omega) hl H isB9 isB1 (by decide) A.1 ?_
      intro h s1 H hβ k0
      obtain ⟨A, k1⟩ := th9 A k0 (fun i g => Or.inl (by omega))
      have hT := A.2.2.2.2.2.1
      refine q_aload_n (pc := 18) rfl rfl rfl ?_
      refine q_getf (pc := 19) rfl (by first | exact HR.X' H hl | exact HR.S2 H hl (isS_of hq) g2 | exact HR.S H hl (isS_of hq) | exact HR.B H hl isB9 hβ | exact HR.B H hl isB1 A.1 | exact HR.c H hl _ rfl) rfl rfl ?_
      refine q_iload_n (pc := 22) rfl rfl ?_
      refine q_callV (pc := 23) _ rfl rfl rfl (by first | exact HR.X' H hl | exact HR.S2 H hl (isS_of hq) g2 | exact HR.S H hl (isS_of hq) | exact HR.B H hl isB9 hβ | exact HR.B H hl isB1 A.1 | exact HR.c H hl _ rfl) rfl (Nat.le_of_ble_eq_true rfl) (by omega) _ rfl ?_
      refine c_member H hl isB9 hβ (fun p hp hpβ hxp => ?_) (fun gp => ?_) K4
      · subst hxp
        have zp : Hd (rg (β 88) (nI p) = p) := rg_in hpβ (by omega)
        refine q_astore (pc := 26) [_, _, _, _, _, _] rfl rfl (Nat.le_of_ble_eq_true rfl) rfl ?_
        refine q_aload (pc := 28) rfl rfl rfl ?_
        refine q_ifnullN (pc := 30) rfl ?_
        refine q_bipush (pc := 48) rfl (-2) (by decide) ?_
        refine q_iret (pc := 50) rfl (rfl) ?_
        first
        | (refine eqQ (v' := o_tells C E P.2.1 σ sz cl β x (nI p) (nI w)) ?_ (kk _ _ H A k1)
           unfold o_tells
           rw [zs.out, if_neg (by omega)])
        | (refine eqQ (v' := o_tells C E P.2.1 σ sz cl β x y (nI w)) ?_ (kk _ _ H A k1)
           unfold o_tells
           rw [zs.out, if_neg (by omega)])
        | (refine eqQ (v' := o_tells C E P.2.1 σ sz cl β (nI q) y (nI w)) ?_ (kk _ _ H A k1)
           unfold o_tells
           rw [zp.out, if_neg (by omega)])
      · have zp : Hd (rg (β 88) y = β 88) := rg_out gp
        refine q_astore (pc := 26) [_, _, _, _, _, _] rfl rfl (Nat.le_of_ble_eq_true rfl) rfl ?_
        refine q_aload (pc := 28) rfl rfl rfl ?_
        refine q_ifnullN (pc := 30) rfl ?_
        refine q_bipush (pc := 48) rfl (-2) (by decide) ?_
        refine q_iret (pc := 50) rfl (rfl) ?_
        first
        | (refine eqQ (v' := o_tells C E P.2.1 σ sz cl β x (nI p) (nI w)) ?_ (kk _ _ H A k1)
           unfold o_tells
           rw [zs.out, if_neg (by omega)])
        | (refine eqQ (v' := o_tells C E P.2.1 σ sz cl β x y (nI w)) ?_ (kk _ _ H A k1)
           unfold o_tells
           rw [zs.out, if_neg (by omega)])
        | (refine eqQ (v' := o_tells C E P.2.1 σ sz cl β (nI q) y (nI w)) ?_ (kk _ _ H A k1)
           unfold o_tells
           rw [zp.out, if_neg (by omega)])
  · have e1 : ∀ x y, o_tells C E P.2.1 σ sz cl β x y z = -2 := fun x y => by
      unfold o_tells
      rw [z1.out, if_neg (by omega)]
    refine wc.go [_, _, _, _, _, _] rfl ?_
    refine q_aload_n (pc := 0) rfl rfl rfl ?_
    refine q_iload_n (pc := 1) rfl rfl ?_
    refine q_callV (pc := 2) _ rfl rfl rfl (by first | exact HR.X' H hl | exact HR.S2 H hl (isS_of hq) g2 | exact HR.S H hl (isS_of hq) | exact HR.B H hl isB9 hβ | exact HR.B H hl isB1 A.1 | exact HR.c H hl _ rfl) rfl (Nat.le_of_ble_eq_true rfl) (by omega) _ rfl ?_
    refine c_sheetAt H hl (fun q hq hxq => ?_) (fun gq => ?_)
    · subst hxq
      have zs : Hd (rg 4 (nI q) = q) := rg_in hq (by decide)
      refine q_astore (pc := 5) [_, _, _, _, _, _] rfl rfl (Nat.le_of_ble_eq_true rfl) rfl ?_
      refine q_aload_n (pc := 7) rfl rfl rfl ?_
      refine q_getf (pc := 8) rfl (by first | exact HR.X' H hl | exact HR.S2 H hl (isS_of hq) g2 | exact HR.S H hl (isS_of hq) | exact HR.B H hl isB9 hβ | exact HR.B H hl isB1 A.1 | exact HR.c H hl _ rfl) rfl rfl ?_
      refine q_aload_n (pc := 11) rfl rfl rfl ?_
      refine q_getf (pc := 12) rfl (by first | exact HR.X' H hl | exact HR.S2 H hl (isS_of hq) g2 | exact HR.S H hl (isS_of hq) | exact HR.B H hl isB9 hβ | exact HR.B H hl isB1 A.1 | exact HR.c H hl _ rfl) rfl rfl ?_
      refine q_callV (pc := 15) _ rfl rfl rfl (by first | exact HR.X' H hl | exact HR.S2 H hl (isS_of hq) g2 | exact HR.S H hl (isS_of hq) | exact HR.B H hl isB9 hβ | exact HR.B H hl isB1 A.1 | exact HR.c H hl _ rfl) rfl (Nat.le_of_ble_eq_true rfl) (by omega) _ rfl ?_
      refine c_become (by omega) hl H isB9 isB1 (by decide) A.1 ?_
      intro h s1 H hβ k0
      obtain ⟨A, k1⟩ := th9 A k0 (fun i g => Or.inl (by omega))
      have hT := A.2.2.2.2.2.1
      refine q_aload_n (pc := 18) rfl rfl rfl ?_
      refine q_getf (pc := 19) rfl (by first | exact HR.X' H hl | exact HR.S2 H hl (isS_of hq) g2 | exact HR.S H hl (isS_of hq) | exact HR.B H hl isB9 hβ | exact HR.B H hl isB1 A.1 | exact HR.c H hl _ rfl) rfl rfl ?_
      refine q_iload_n (pc := 22) rfl rfl ?_
      refine q_callV (pc := 23) _ rfl rfl rfl (by first | exact HR.X' H hl | exact HR.S2 H hl (isS_of hq) g2 | exact HR.S H hl (isS_of hq) | exact HR.B H hl isB9 hβ | exact HR.B H hl isB1 A.1 | exact HR.c H hl _ rfl) rfl (Nat.le_of_ble_eq_true rfl) (by omega) _ rfl ?_
      refine c_member H hl isB9 hβ (fun p hp hpβ hxp => ?_) (fun gp => ?_) K4
      · subst hxp
        have zp : Hd (rg (β 88) (nI p) = p) := rg_in hpβ (by omega)
        refine q_astore (pc := 26) [_, _, _, _, _, _] rfl rfl (Nat.le_of_ble_eq_true rfl) rfl ?_
        refine q_aload (pc := 28) rfl rfl rfl ?_
        refine q_ifnull (pc := 30) rfl ?_
        refine q_aload (pc := 33) rfl rfl rfl ?_
        refine q_ifnull (pc := 35) rfl ?_
        refine q_iload_n (pc := 38) rfl rfl ?_
        refine q_iflt (pc := 39) rfl (fun h39 => ?_) (fun h39 => ?_)
        · first
          | (exfalso; omega (config := {splitDisjunctions := false}))
          | skip
            refine q_bipush (pc := 48) rfl (-2) (by decide) ?_
            refine q_iret (pc := 50) rfl (rfl) ?_
            refine eqQ (e1 _ _) (kk _ _ H A k1)
        · first
          | (exfalso; omega (config := {splitDisjunctions := false}))
          | skip
            refine q_iload_n (pc := 42) rfl rfl ?_
            refine q_bipush (pc := 43) rfl (nI 6) (by decide) ?_
            refine q_icmple (pc := 45) rfl (fun h45 => ?_) (fun h45 => ?_)
            · exact (z_out (m := 7) g h39 h45 (by decide)).elim
            · first
              | (exfalso; omega (config := {splitDisjunctions := false}))
              | skip
                refine q_bipush (pc := 48) rfl (-2) (by decide) ?_
                refine q_iret (pc := 50) rfl (rfl) ?_
                refine eqQ (e1 _ _) (kk _ _ H A k1)
      · have zp : Hd (rg (β 88) y = β 88) := rg_out gp
        refine q_astore (pc := 26) [_, _, _, _, _, _] rfl rfl (Nat.le_of_ble_eq_true rfl) rfl ?_
        refine q_aload (pc := 28) rfl rfl rfl ?_
        refine q_ifnull (pc := 30) rfl ?_
        refine q_aload (pc := 33) rfl rfl rfl ?_
        refine q_ifnullN (pc := 35) rfl ?_
        refine q_bipush (pc := 48) rfl (-2) (by decide) ?_
        refine q_iret (pc := 50) rfl (rfl) ?_
        refine eqQ (e1 _ _) (kk _ _ H A k1)
    · have zs : Hd (rg 4 x = 4) := rg_out gq
      refine q_astore (pc := 5) [_, _, _, _, _, _] rfl rfl (Nat.le_of_ble_eq_true rfl) rfl ?_
      refine q_aload_n (pc := 7) rfl rfl rfl ?_
      refine q_getf (pc := 8) rfl (by first | exact HR.X' H hl | exact HR.S2 H hl (isS_of hq) g2 | exact HR.S H hl (isS_of hq) | exact HR.B H hl isB9 hβ | exact HR.B H hl isB1 A.1 | exact HR.c H hl _ rfl) rfl rfl ?_
      refine q_aload_n (pc := 11) rfl rfl rfl ?_
      refine q_getf (pc := 12) rfl (by first | exact HR.X' H hl | exact HR.S2 H hl (isS_of hq) g2 | exact HR.S H hl (isS_of hq) | exact HR.B H hl isB9 hβ | exact HR.B H hl isB1 A.1 | exact HR.c H hl _ rfl) rfl rfl ?_
      refine q_callV (pc := 15) _ rfl rfl rfl (by first | exact HR.X' H hl | exact HR.S2 H hl (isS_of hq) g2 | exact HR.S H hl (isS_of hq) | exact HR.B H hl isB9 hβ | exact HR.B H hl isB1 A.1 | exact HR.c H hl _ rfl) rfl (Nat.le_of_ble_eq_true rfl) (by omega) _ rfl ?_
      refine c_become (by omega) hl H isB9 isB1 (by decide) A.1 ?_
      intro h s1 H hβ k0
      obtain ⟨A, k1⟩ := th9 A k0 (fun i g => Or.inl (by omega))
      have hT := A.2.2.2.2.2.1
      refine q_aload_n (pc := 18) rfl rfl rfl ?_
      refine q_getf (pc := 19) rfl (by first | exact HR.X' H hl | exact HR.S2 H hl (isS_of hq) g2 | exact HR.S H hl (isS_of hq) | exact HR.B H hl isB9 hβ | exact HR.B H hl isB1 A.1 | exact HR.c H hl _ rfl) rfl rfl ?_
      refine q_iload_n (pc := 22) rfl rfl ?_
      refine q_callV (pc := 23) _ rfl rfl rfl (by first | exact HR.X' H hl | exact HR.S2 H hl (isS_of hq) g2 | exact HR.S H hl (isS_of hq) | exact HR.B H hl isB9 hβ | exact HR.B H hl isB1 A.1 | exact HR.c H hl _ rfl) rfl (Nat.le_of_ble_eq_true rfl) (by omega) _ rfl ?_
      refine c_member H hl isB9 hβ (fun p hp hpβ hxp => ?_) (fun gp => ?_) K4
      · subst hxp
        have zp : Hd (rg (β 88) (nI p) = p) := rg_in hpβ (by omega)
        refine q_astore (pc := 26) [_, _, _, _, _, _] rfl rfl (Nat.le_of_ble_eq_true rfl) rfl ?_
        refine q_aload (pc := 28) rfl rfl rfl ?_
        refine q_ifnullN (pc := 30) rfl ?_
        refine q_bipush (pc := 48) rfl (-2) (by decide) ?_
        refine q_iret (pc := 50) rfl (rfl) ?_
        refine eqQ (e1 _ _) (kk _ _ H A k1)
      · have zp : Hd (rg (β 88) y = β 88) := rg_out gp
        refine q_astore (pc := 26) [_, _, _, _, _, _] rfl rfl (Nat.le_of_ble_eq_true rfl) rfl ?_
        refine q_aload (pc := 28) rfl rfl rfl ?_
        refine q_ifnullN (pc := 30) rfl ?_
        refine q_bipush (pc := 48) rfl (-2) (by decide) ?_
        refine q_iret (pc := 50) rfl (rfl) ?_
        refine eqQ (e1 _ _) (kk _ _ H A k1)
end P36
