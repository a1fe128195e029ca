/-! ===== the tape and its tokens, the class's reader ===== -/
section P40
variable {d k pc a i j c p b t n m part q : Nat} {v : Int} {L L' : mx_L} {st r : List Value} {P : mx_Pm} {h : mx_H} {s : mx_St} {Q : Option Value → mx_H → Prop} {x y w z u : Int32} {β κ : Nat → Nat} {C : Nat → Nat → Int32} {E : Nat → Nat → Nat} {ik tz : Nat} {tp : Nat → Nat} {σ : Nat → Int32} {sz : Nat → Nat} {cl : Nat → Nat → Int32}
theorem CA.rd {P : mx_Pm} {s s' : mx_St} (A : CA P s β κ ik tp tz C E σ sz cl) (f : sf s s' (fun i => i = 25 ∨ (27 ≤ i ∧ i < 31) ∨ (33 ≤ i ∧ i < 42))) (e : s' 25 1 = s 25 1) : CA P s' β κ ik tp tz C E σ sz cl := by
  obtain ⟨h1, h2, h3, h4, h5, h6, h7⟩ := A
  have g : ∀ i, ¬ (i = 25 ∨ (27 ≤ i ∧ i < 31) ∨ (33 ≤ i ∧ i < 42)) → s' i = s i := fun i hi => f i hi
  refine ⟨h1.fr f (fun i g1 g2 z => by omega), h2.fr f (fun i g1 g2 z => by omega), (congrFun (g 0 (by omega)) 3).trans h3, fun i hi => (congrFun (g 26 (by omega)) i).trans (h4 i hi), e.trans h5, h6.fr f (fun i z => by omega), fun q hq => ?_⟩
  obtain ⟨g1, g2, g3⟩ := h7 q hq
  exact ⟨(congrFun (g _ (by omega)) _).trans g1, (congrFun (g _ (by omega)) _).trans g2, fun i hi => (congrFun (g _ (by omega)) _).trans (g3 i hi)⟩
/-- the tape is read -/
def RT (s : mx_St) (tp : Nat → Nat) (tz : Nat) : Prop := s 25 1 = nI tz ∧ (∀ i, i < tz → s 26 i = nI (tp i)) ∧ tz ≤ 160 ∧ ∀ i, i < tz → tp i ≤ 255
def byN (tp : Nat → Nat) (tz j : Nat) : Nat := if j < tz then tp j else 256
def ob (b : Nat) : Int32 := if b < 256 then nI b else -1
theorem byN_le {tp : Nat → Nat} {tz j : Nat} (h : ∀ i, i < tz → tp i ≤ 255) : byN tp tz j ≤ 256 := by
  unfold byN
  split
  · rename_i e
    have := h j e
    omega
  · exact Nat.le_refl _
theorem ob_eq {b v : Nat} (hb : b ≤ 256) (hv : v < 256) : ob b = nI v ↔ b = v := by
  unfold ob
  constructor
  · intro e
    split at e
    · exact x_eq e (by omega) (by omega)
    · exact absurd e.symm (nI_m1 (by omega))
  · intro e
    rw [e, if_pos hv]
def ltB (b : Nat) : Bool := decide (97 ≤ b ∧ b ≤ 122)
def dgB (b : Nat) : Bool := decide (48 ≤ b ∧ b ≤ 57)
def blB (b : Nat) : Bool := decide (b = 32 ∨ b = 10)
def rnB (p : Nat → Bool) : Nat → Nat → Nat
  | 0, j => j
  | n + 1, j => if p j = true then rnB p n (j + 1) else j
theorem rnB_ge (p : Nat → Bool) : ∀ n j, j ≤ rnB p n j ∧ rnB p n j ≤ j + n := by
  intro n
  induction n with
  | zero => intro j; exact ⟨Nat.le_refl _, Nat.le_refl _⟩
  | succ n ih =>
    intro j
    unfold rnB
    have := ih (j + 1)
    split <;> omega
theorem rnB_le {p : Nat → Bool} {z : Nat} (hp : ∀ k, z ≤ k → p k = false) : ∀ n j, rnB p n j ≤ max j z := by
  intro n
  induction n with
  | zero => intro j; exact Nat.le_max_left _ _
  | succ n ih =>
    intro j
    unfold rnB
    split
    · rename_i e
      have := ih (j + 1)
      have : j < z := Nat.not_le.mp (fun g => by rw [hp j g] at e; exact absurd e (by decide))
      omega
    · omega
theorem rnB_all {p : Nat → Bool} : ∀ n j k, j ≤ k → k < rnB p n j → p k = true := by
  intro n
  induction n with
  | zero => intro j k h1 h2; exact absurd h2 (by show ¬ k < j; omega)
  | succ n ih =>
    intro j k h1 h2
    unfold rnB at h2
    split at h2
    · rename_i e
      rcases Nat.eq_or_lt_of_le h1 with g | g
      · rw [← g]; exact e
      · exact ih (j + 1) k g h2
    · omega
def enN (tp : Nat → Nat) (tz j : Nat) : Nat := if ltB (byN tp tz j) = true then rnB (fun i => ltB (byN tp tz i)) 160 (j + 1) else if dgB (byN tp tz j) = true then rnB (fun i => dgB (byN tp tz i)) 160 (j + 1) else j + 1
def skN (tp : Nat → Nat) (tz j : Nat) : Nat := rnB (fun i => blB (byN tp tz i)) 160 j
theorem by_far {tp : Nat → Nat} {tz j : Nat} (h : tz ≤ j) : byN tp tz j = 256 := if_neg (by omega)
theorem enN_le {tp : Nat → Nat} {tz j : Nat} : enN tp tz j ≤ max (j + 1) tz ∧ j + 1 ≤ enN tp tz j := by
  unfold enN
  split
  · exact ⟨rnB_le (fun k hk => by rw [by_far hk]; rfl) _ _, (rnB_ge _ _ _).1⟩
  · split
    · exact ⟨rnB_le (fun k hk => by rw [by_far hk]; rfl) _ _, (rnB_ge _ _ _).1⟩
    · exact ⟨Nat.le_max_left _ _, Nat.le_refl _⟩
theorem skN_le {tp : Nat → Nat} {tz j : Nat} : skN tp tz j ≤ max j tz ∧ j ≤ skN tp tz j := ⟨rnB_le (fun k hk => by rw [by_far hk]; rfl) _ _, (rnB_ge _ _ _).1⟩
theorem c_byteAt (H : HR P h s) (hl : 51 ≤ P.1) (hR : RT s tp tz) (hi : i < 2 ^ 31) (hq : Q (some (.int (ob (byN tp tz i)))) h) : wc d 24 [.ref 25, .int (nI i)] h Q := by
  have hz := hR.2.2.1
  have ht := hR.2.2.2
  refine wc.go [_, _] rfl ?_
  refine q_iload_n (pc := 0) rfl rfl ?_
  refine q_iflt (pc := 1) rfl (fun h1 => ?_) (fun h1 => ?_)
  · first | (exfalso; omega) | exact absurd h1 (nI_pos (by omega)) | exact absurd (nI_pos' (by omega)) h1
  · refine q_iload_n (pc := 4) rfl rfl ?_
    refine q_aload_n (pc := 5) rfl rfl rfl ?_
    refine q_getf (pc := 6) rfl (by first | exact HR.rd H hl hR.1 | exact HR.c H hl _ rfl) rfl rfl ?_
    first | refine n_icmpge (pc := 9) rfl (by omega) (by omega) (fun h9 => ?_) (fun h9 => ?_) | refine q_icmpge (pc := 9) rfl (fun h9 => ?_) (fun h9 => ?_)
    · first
      | (exfalso; omega (config := {splitDisjunctions := false}))
      | skip
        refine q_iconst (pc := 28) rfl (-1) (by decide) ?_
        refine q_iret (pc := 29) rfl (rfl) ?_
        first
        | (have t1 := ht i (by omega)
           rw [show byN tp tz i = tp i from if_pos (by omega), show ob (tp i) = nI (tp i) from if_pos (by omega)] at hq
           exact hq)
        | (rw [by_far (show tz ≤ i by omega)] at hq
           exact hq)
    · first
      | (exfalso; omega (config := {splitDisjunctions := false}))
      | skip
        refine q_iload_n (pc := 12) rfl rfl ?_
        refine q_sipush (pc := 13) rfl (nI 160) (by decide) ?_
        first | refine n_icmpge (pc := 16) rfl (by omega) (by omega) (fun h16 => ?_) (fun h16 => ?_) | refine q_icmpge (pc := 16) rfl (fun h16 => ?_) (fun h16 => ?_)
        · first
          | (exfalso; omega (config := {splitDisjunctions := false}))
          | skip
            refine q_iconst (pc := 28) rfl (-1) (by decide) ?_
            refine q_iret (pc := 29) rfl (rfl) ?_
            first
            | (have t1 := ht i (by omega)
               rw [show byN tp tz i = tp i from if_pos (by omega), show ob (tp i) = nI (tp i) from if_pos (by omega)] at hq
               exact hq)
            | (rw [by_far (show tz ≤ i by omega)] at hq
               exact hq)
        · first
          | (exfalso; omega (config := {splitDisjunctions := false}))
          | skip
            refine q_aload_n (pc := 19) rfl rfl rfl ?_
            refine q_getf (pc := 20) rfl (by first | exact HR.rd H hl hR.1 | exact HR.c H hl _ rfl) rfl rfl ?_
            refine q_iload_n (pc := 23) rfl rfl ?_
            refine n_ild (pc := 24) rfl (by exact HR.la H hl rfl rfl (fun i hi => rfl)) rfl (by omega) (by omega) ?_
            rw [hR.2.1 i (by omega)]
            refine q_goto (pc := 25) rfl ?_
            refine q_iret (pc := 29) rfl (rfl) ?_
            first
            | (have t1 := ht i (by omega)
               rw [show byN tp tz i = tp i from if_pos (by omega), show ob (tp i) = nI (tp i) from if_pos (by omega)] at hq
               exact hq)
            | (rw [by_far (show tz ≤ i by omega)] at hq
               exact hq)
theorem c_isL {w : Nat} (hb : w ≤ 256) (ht : ltB w = true → Q (some (.int 1)) h) (hf : ltB w = false → Q (some (.int 0)) h) : wc d 27 [.int (ob w)] h Q := by
  unfold ltB at ht hf
  by_cases e : w < 256
  · rw [show ob w = nI w from if_pos e]
    refine wc.go [_] rfl ?_
    refine q_iload_n (pc := 0) rfl rfl ?_
    refine q_bipush (pc := 1) rfl (nI 97) (by decide) ?_
    first | refine n_icmplt (pc := 3) rfl (by omega) (by omega) (fun h3 => ?_) (fun h3 => ?_) | refine q_icmplt (pc := 3) rfl (fun h3 => ?_) (fun h3 => ?_)
    · first
      | (exfalso; omega (config := {splitDisjunctions := false}))
      | skip
        refine q_iconst (pc := 16) rfl (nI 0) (by decide) ?_
        refine q_iret (pc := 17) rfl (rfl) ?_
        first
        | exact ht (decide_eq_true (by omega))
        | exact hf (decide_eq_false (by omega))
    · first
      | (exfalso; omega (config := {splitDisjunctions := false}))
      | skip
        refine q_iload_n (pc := 6) rfl rfl ?_
        refine q_bipush (pc := 7) rfl (nI 122) (by decide) ?_
        first | refine n_icmpgt (pc := 9) rfl (by omega) (by omega) (fun h9 => ?_) (fun h9 => ?_) | refine q_icmpgt (pc := 9) rfl (fun h9 => ?_) (fun h9 => ?_)
        · first
          | (exfalso; omega (config := {splitDisjunctions := false}))
          | skip
            refine q_iconst (pc := 16) rfl (nI 0) (by decide) ?_
            refine q_iret (pc := 17) rfl (rfl) ?_
            first
            | exact ht (decide_eq_true (by omega))
            | exact hf (decide_eq_false (by omega))
        · first
          | (exfalso; omega (config := {splitDisjunctions := false}))
          | skip
            refine q_iconst (pc := 12) rfl (nI 1) (by decide) ?_
            refine q_goto (pc := 13) rfl ?_
            refine q_iret (pc := 17) rfl (rfl) ?_
            first
            | exact ht (decide_eq_true (by omega))
            | exact hf (decide_eq_false (by omega))
  · rw [show ob w = -1 from if_neg e]
    refine wc.go [_] rfl ?_
    refine q_iload_n (pc := 0) rfl rfl ?_
    refine q_bipush (pc := 1) rfl (nI 97) (by decide) ?_
    refine q_icmplt (pc := 3) rfl (fun h3 => ?_) (fun h3 => ?_)
    · first
      | (exfalso; omega (config := {splitDisjunctions := false}))
      | skip
        refine q_iconst (pc := 16) rfl (nI 0) (by decide) ?_
        refine q_iret (pc := 17) rfl (rfl) ?_
        exact hf (decide_eq_false (by omega))
    · exact absurd (by decide) h3
theorem c_isD {w : Nat} (hb : w ≤ 256) (ht : dgB w = true → Q (some (.int 1)) h) (hf : dgB w = false → Q (some (.int 0)) h) : wc d 28 [.int (ob w)] h Q := by
  unfold dgB at ht hf
  by_cases e : w < 256
  · rw [show ob w = nI w from if_pos e]
    refine wc.go [_] rfl ?_
    refine q_iload_n (pc := 0) rfl rfl ?_
    refine q_bipush (pc := 1) rfl (nI 48) (by decide) ?_
    first | refine n_icmplt (pc := 3) rfl (by omega) (by omega) (fun h3 => ?_) (fun h3 => ?_) | refine q_icmplt (pc := 3) rfl (fun h3 => ?_) (fun h3 => ?_)
    · first
      | (exfalso; omega (config := {splitDisjunctions := false}))
      | skip
        refine q_iconst (pc := 16) rfl (nI 0) (by decide) ?_
        refine q_iret (pc := 17) rfl (rfl) ?_
        first
        | exact ht (decide_eq_true (by omega))
        | exact hf (decide_eq_false (by omega))
    · first
      | (exfalso; omega (config := {splitDisjunctions := false}))
      | skip
        refine q_iload_n (pc := 6) rfl rfl ?_
        refine q_bipush (pc := 7) rfl (nI 57) (by decide) ?_
        first | refine n_icmpgt (pc := 9) rfl (by omega) (by omega) (fun h9 => ?_) (fun h9 => ?_) | refine q_icmpgt (pc := 9) rfl (fun h9 => ?_) (fun h9 => ?_)
        · first
          | (exfalso; omega (config := {splitDisjunctions := false}))
          | skip
            refine q_iconst (pc := 16) rfl (nI 0) (by decide) ?_
            refine q_iret (pc := 17) rfl (rfl) ?_
            first
            | exact ht (decide_eq_true (by omega))
            | exact hf (decide_eq_false (by omega))
        · first
          | (exfalso; omega (config := {splitDisjunctions := false}))
          | skip
            refine q_iconst (pc := 12) rfl (nI 1) (by decide) ?_
            refine q_goto (pc := 13) rfl ?_
            refine q_iret (pc := 17) rfl (rfl) ?_
            first
            | exact ht (decide_eq_true (by omega))
            | exact hf (decide_eq_false (by omega))
  · rw [show ob w = -1 from if_neg e]
    refine wc.go [_] rfl ?_
    refine q_iload_n (pc := 0) rfl rfl ?_
    refine q_bipush (pc := 1) rfl (nI 48) (by decide) ?_
    refine q_icmplt (pc := 3) rfl (fun h3 => ?_) (fun h3 => ?_)
    · first
      | (exfalso; omega (config := {splitDisjunctions := false}))
      | skip
        refine q_iconst (pc := 16) rfl (nI 0) (by decide) ?_
        refine q_iret (pc := 17) rfl (rfl) ?_
        exact hf (decide_eq_false (by omega))
    · exact absurd (by decide) h3
theorem c_blkL (hd : 1 ≤ d) (H : HR P h s) (hl : 51 ≤ P.1) (hR : RT s tp tz) {z1 : Int32} {R : Nat} (hq : Q (some (.int (nI R))) h) (n i j : Nat) (hi : i + n = 160) (hj : j ≤ 1000 + i) (hr : rnB (fun i => blB (byN tp tz i)) n j = R) : wq d 25 4 [some (.ref 25), some (.int z1), some (.int (nI j)), some (.int (nI i))] [] h Q := by
  have b1 := byN_le (j := j) hR.2.2.2
  match n, hi, hr with
  | 0, hi, hr =>
    have hr : j = R := hr
    subst hr
    refine q_iload_n (pc := 4) rfl rfl ?_
    refine q_sipush (pc := 5) rfl (nI 160) (by decide) ?_
    first | refine n_icmpge (pc := 8) rfl (by omega) (by omega) (fun h8 => ?_) (fun h8 => ?_) | refine q_icmpge (pc := 8) rfl (fun h8 => ?_) (fun h8 => ?_)
    · refine q_iload_n (pc := 40) rfl rfl ?_
      refine q_iret (pc := 41) rfl (rfl) ?_
      exact hq
    · first | (exfalso; omega) | exact absurd h8 (nI_pos (by omega)) | exact absurd (nI_pos' (by omega)) h8
  | n + 1, hi, hr =>
    unfold rnB at hr
    refine q_iload_n (pc := 4) rfl rfl ?_
    refine q_sipush (pc := 5) rfl (nI 160) (by decide) ?_
    first | refine n_icmpge (pc := 8) rfl (by omega) (by omega) (fun h8 => ?_) (fun h8 => ?_) | refine q_icmpge (pc := 8) rfl (fun h8 => ?_) (fun h8 => ?_)
    · first | (exfalso; omega) | exact absurd h8 (nI_pos (by omega)) | exact absurd (nI_pos' (by omega)) h8
    · refine q_aload_n (pc := 11) rfl rfl rfl ?_
      refine q_iload_n (pc := 12) rfl rfl ?_
      refine q_callV (pc := 13) _ rfl rfl rfl (by first | exact HR.rd H hl hR.1 | exact HR.c H hl _ rfl) rfl (Nat.le_of_ble_eq_true rfl) (by omega) _ rfl ?_
      refine c_byteAt H hl hR (by omega) ?_
      refine q_bipush (pc := 16) rfl (nI 32) (by decide) ?_
      refine q_icmpeq (pc := 18) rfl (fun h18 => ?_) (fun h18 => ?_)
      · have h18 := (ob_eq b1 (by decide)).mp h18
        rw [if_pos (by unfold blB; exact decide_eq_true (Or.inl h18))] at hr
        first
        | (exfalso; omega (config := {splitDisjunctions := false}))
        | exact absurd rfl h18
        | skip
          first | refine n_iinc (pc := 31) rfl [_, _, _, _] 1 (by decide) rfl rfl ?_ | refine q_iinc (pc := 31) [_, _, _, _] (1) rfl rfl (by decide) rfl ?_
          first | refine n_iinc (pc := 34) rfl [_, _, _, _] 1 (by decide) rfl rfl ?_ | refine q_iinc (pc := 34) [_, _, _, _] (1) rfl rfl (by decide) rfl ?_
          refine q_goto (pc := 37) rfl ?_
          exact c_blkL hd H hl hR hq n (i + 1) (j + 1) (by omega) (by omega) hr
      · have h18 : ¬ byN tp tz j = 32 := fun e => h18 ((ob_eq b1 (by decide)).mpr e)
        first
        | (exfalso; omega (config := {splitDisjunctions := false}))
        | exact absurd rfl h18
        | skip
          refine q_aload_n (pc := 21) rfl rfl rfl ?_
          refine q_iload_n (pc := 22) rfl rfl ?_
          refine q_callV (pc := 23) _ rfl rfl rfl (by first | exact HR.rd H hl hR.1 | exact HR.c H hl _ rfl) rfl (Nat.le_of_ble_eq_true rfl) (by omega) _ rfl ?_
          refine c_byteAt H hl hR (by omega) ?_
          refine q_bipush (pc := 26) rfl (nI 10) (by decide) ?_
          refine q_icmpne (pc := 28) rfl (fun h28 => ?_) (fun h28 => ?_)
          · have h28 : ¬ byN tp tz j = 10 := fun e => h28 ((ob_eq b1 (by decide)).mpr e)
            rw [if_neg (by unfold blB; rw [decide_eq_false (fun e => e.elim h18 h28)]; decide)] at hr
            subst hr
            first
            | (exfalso; omega (config := {splitDisjunctions := false}))
            | exact absurd rfl h28
            | skip
              refine q_iload_n (pc := 40) rfl rfl ?_
              refine q_iret (pc := 41) rfl (rfl) ?_
              exact hq
          · have h28 := (ob_eq b1 (by decide)).mp h28
            rw [if_pos (by unfold blB; exact decide_eq_true (Or.inr h28))] at hr
            first
            | (exfalso; omega (config := {splitDisjunctions := false}))
            | exact absurd rfl h28
            | skip
              first | refine n_iinc (pc := 31) rfl [_, _, _, _] 1 (by decide) rfl rfl ?_ | refine q_iinc (pc := 31) [_, _, _, _] (1) rfl rfl (by decide) rfl ?_
              first | refine n_iinc (pc := 34) rfl [_, _, _, _] 1 (by decide) rfl rfl ?_ | refine q_iinc (pc := 34) [_, _, _, _] (1) rfl rfl (by decide) rfl ?_
              refine q_goto (pc := 37) rfl ?_
              exact c_blkL hd H hl hR hq n (i + 1) (j + 1) (by omega) (by omega) hr
termination_by n
theorem c_blk (hd : 1 ≤ d) (H : HR P h s) (hl : 51 ≤ P.1) (hR : RT s tp tz) (hj : j ≤ 1000) (hq : Q (some (.int (nI (skN tp tz j)))) h) : wc d 25 [.ref 25, .int (nI j)] h Q := by
  refine wc.go [_, _, _, _] rfl ?_
  refine q_iload_n (pc := 0) rfl rfl ?_
  refine q_istore_n (pc := 1) [_, _, _, _] rfl (Nat.le_of_ble_eq_true rfl) rfl ?_
  refine q_iconst (pc := 2) rfl (nI 0) (by decide) ?_
  refine q_istore_n (pc := 3) [_, _, _, _] rfl (Nat.le_of_ble_eq_true rfl) rfl ?_
  exact c_blkL hd H hl hR hq 160 0 j (by omega) (by omega) rfl
theorem c_endL (hd : 1 ≤ d) (H : HR P h s) (hl : 51 ≤ P.1) (hR : RT s tp tz) {z1 : Int32} {R : Nat} (hq : Q (some (.int (nI R))) h) (n i j : Nat) (hi : i + n = 160) (hj : j ≤ 1001 + i) (hr : rnB (fun i => ltB (byN tp tz i)) n j = R) : wq d 26 17 [some (.ref 25), some (.int z1), some (.int (nI j)), some (.int (nI i))] [] h Q := by
  have b1 := byN_le (j := j) hR.2.2.2
  match n, hi, hr with
  | 0, hi, hr =>
    have hr : j = R := hr
    subst hr
    refine q_iload_n (pc := 17) rfl rfl ?_
    refine q_sipush (pc := 18) rfl (nI 160) (by decide) ?_
    first | refine n_icmpge (pc := 21) rfl (by omega) (by omega) (fun h21 => ?_) (fun h21 => ?_) | refine q_icmpge (pc := 21) rfl (fun h21 => ?_) (fun h21 => ?_)
    · refine q_goto (pc := 44) rfl ?_
      refine q_iload_n (pc := 87) rfl rfl ?_
      refine q_iret (pc := 88) rfl (rfl) ?_
      exact hq
    · first | (exfalso; omega) | exact absurd h21 (nI_pos (by omega)) | exact absurd (nI_pos' (by omega)) h21
  | n + 1, hi, hr =>
    unfold rnB at hr
    refine q_iload_n (pc := 17) rfl rfl ?_
    refine q_sipush (pc := 18) rfl (nI 160) (by decide) ?_
    first | refine n_icmpge (pc := 21) rfl (by omega) (by omega) (fun h21 => ?_) (fun h21 => ?_) | refine q_icmpge (pc := 21) rfl (fun h21 => ?_) (fun h21 => ?_)
    · first | (exfalso; omega) | exact absurd h21 (nI_pos (by omega)) | exact absurd (nI_pos' (by omega)) h21
    · refine q_aload_n (pc := 24) rfl rfl rfl ?_
      refine q_iload_n (pc := 25) rfl rfl ?_
      refine q_callV (pc := 26) _ rfl rfl rfl (by first | exact HR.rd H hl hR.1 | exact HR.c H hl _ rfl) rfl (Nat.le_of_ble_eq_true rfl) (by omega) _ rfl ?_
      refine c_byteAt H hl hR (by omega) ?_
      refine q_callS (pc := 29) _ (by decide) rfl rfl rfl rfl (Nat.le_of_ble_eq_true rfl) (by omega) _ rfl ?_
      refine c_isL b1 (fun hb => ?_) (fun hb => ?_)
      · refine q_ifeq (pc := 32) rfl (fun z => absurd z (by decide)) (fun _ => ?_)
        first | refine n_iinc (pc := 35) rfl [_, _, _, _] 1 (by decide) rfl rfl ?_ | refine q_iinc (pc := 35) [_, _, _, _] (1) rfl rfl (by decide) rfl ?_
        first | refine n_iinc (pc := 38) rfl [_, _, _, _] 1 (by decide) rfl rfl ?_ | refine q_iinc (pc := 38) [_, _, _, _] (1) rfl rfl (by decide) rfl ?_
        refine q_goto (pc := 41) rfl ?_
        rw [if_pos hb] at hr
        exact c_endL hd H hl hR hq n (i + 1) (j + 1) (by omega) (by omega) hr
      · refine q_ifeq (pc := 32) rfl (fun _ => ?_) (fun z => absurd (by decide) z)
        refine q_goto (pc := 44) rfl ?_
        refine q_iload_n (pc := 87) rfl rfl ?_
        refine q_iret (pc := 88) rfl (rfl) ?_
        rw [if_neg (by rw [hb]; decide)] at hr
        subst hr
        exact hq
termination_by n
theorem c_endD (hd : 1 ≤ d) (H : HR P h s) (hl : 51 ≤ P.1) (hR : RT s tp tz) {z1 : Int32} {R : Nat} (hq : Q (some (.int (nI R))) h) (n i j : Nat) (hi : i + n = 160) (hj : j ≤ 1001 + i) (hr : rnB (fun i => dgB (byN tp tz i)) n j = R) : wq d 26 60 [some (.ref 25), some (.int z1), some (.int (nI j)), some (.int (nI i))] [] h Q := by
  have b1 := byN_le (j := j) hR.2.2.2
  match n, hi, hr with
  | 0, hi, hr =>
    have hr : j = R := hr
    subst hr
    refine q_iload_n (pc := 60) rfl rfl ?_
    refine q_sipush (pc := 61) rfl (nI 160) (by decide) ?_
    first | refine n_icmpge (pc := 64) rfl (by omega) (by omega) (fun h64 => ?_) (fun h64 => ?_) | refine q_icmpge (pc := 64) rfl (fun h64 => ?_) (fun h64 => ?_)
    · refine q_iload_n (pc := 87) rfl rfl ?_
      refine q_iret (pc := 88) rfl (rfl) ?_
      exact hq
    · first | (exfalso; omega) | exact absurd h64 (nI_pos (by omega)) | exact absurd (nI_pos' (by omega)) h64
  | n + 1, hi, hr =>
    unfold rnB at hr
    refine q_iload_n (pc := 60) rfl rfl ?_
    refine q_sipush (pc := 61) rfl (nI 160) (by decide) ?_
    first | refine n_icmpge (pc := 64) rfl (by omega) (by omega) (fun h64 => ?_) (fun h64 => ?_) | refine q_icmpge (pc := 64) rfl (fun h64 => ?_) (fun h64 => ?_)
    · first | (exfalso; omega) | exact absurd h64 (nI_pos (by omega)) | exact absurd (nI_pos' (by omega)) h64
    · refine q_aload_n (pc := 67) rfl rfl rfl ?_
      refine q_iload_n (pc := 68) rfl rfl ?_
      refine q_callV (pc := 69) _ rfl rfl rfl (by first | exact HR.rd H hl hR.1 | exact HR.c H hl _ rfl) rfl (Nat.le_of_ble_eq_true rfl) (by omega) _ rfl ?_
      refine c_byteAt H hl hR (by omega) ?_
      refine q_callS (pc := 72) _ (by decide) rfl rfl rfl rfl (Nat.le_of_ble_eq_true rfl) (by omega) _ rfl ?_
      refine c_isD b1 (fun hb => ?_) (fun hb => ?_)
      · refine q_ifeq (pc := 75) rfl (fun z => absurd z (by decide)) (fun _ => ?_)
        first | refine n_iinc (pc := 78) rfl [_, _, _, _] 1 (by decide) rfl rfl ?_ | refine q_iinc (pc := 78) [_, _, _, _] (1) rfl rfl (by decide) rfl ?_
        first | refine n_iinc (pc := 81) rfl [_, _, _, _] 1 (by decide) rfl rfl ?_ | refine q_iinc (pc := 81) [_, _, _, _] (1) rfl rfl (by decide) rfl ?_
        refine q_goto (pc := 84) rfl ?_
        rw [if_pos hb] at hr
        exact c_endD hd H hl hR hq n (i + 1) (j + 1) (by omega) (by omega) hr
      · refine q_ifeq (pc := 75) rfl (fun _ => ?_) (fun z => absurd (by decide) z)
        refine q_iload_n (pc := 87) rfl rfl ?_
        refine q_iret (pc := 88) rfl (rfl) ?_
        rw [if_neg (by rw [hb]; decide)] at hr
        subst hr
        exact hq
termination_by n
theorem c_endOf (hd : 1 ≤ d) (H : HR P h s) (hl : 51 ≤ P.1) (hR : RT s tp tz) (hj : j ≤ 1000) (hq : Q (some (.int (nI (enN tp tz j)))) h) : wc d 26 [.ref 25, .int (nI j)] h Q := by
  have b1 := byN_le (j := j) hR.2.2.2
  unfold enN at hq
  refine wc.go [_, _, _, _] rfl ?_
  refine q_iload_n (pc := 0) rfl rfl ?_
  refine q_iconst (pc := 1) rfl (nI 1) (by decide) ?_
  first | refine n_iadd (pc := 2) rfl ?_ | refine q_iadd (pc := 2) rfl ?_
  refine q_istore_n (pc := 3) [_, _, _, _] rfl (Nat.le_of_ble_eq_true rfl) rfl ?_
  refine q_aload_n (pc := 4) rfl rfl rfl ?_
  refine q_iload_n (pc := 5) rfl rfl ?_
  refine q_callV (pc := 6) _ rfl rfl rfl (by first | exact HR.rd H hl hR.1 | exact HR.c H hl _ rfl) rfl (Nat.le_of_ble_eq_true rfl) (by omega) _ rfl ?_
  refine c_byteAt H hl hR (by omega) ?_
  refine q_callS (pc := 9) _ (by decide) rfl rfl rfl rfl (Nat.le_of_ble_eq_true rfl) (by omega) _ rfl ?_
  refine c_isL b1 (fun hb => ?_) (fun hb => ?_)
  · refine q_ifeq (pc := 12) rfl (fun z => absurd z (by decide)) (fun _ => ?_)
    refine q_iconst (pc := 15) rfl (nI 0) (by decide) ?_
    refine q_istore_n (pc := 16) [_, _, _, _] rfl (Nat.le_of_ble_eq_true rfl) rfl ?_
    rw [if_pos hb] at hq
    exact c_endL hd H hl hR hq 160 0 (j + 1) (by omega) (by omega) rfl
  · refine q_ifeq (pc := 12) rfl (fun _ => ?_) (fun z => absurd (by decide) z)
    refine q_aload_n (pc := 47) rfl rfl rfl ?_
    refine q_iload_n (pc := 48) rfl rfl ?_
    refine q_callV (pc := 49) _ rfl rfl rfl (by first | exact HR.rd H hl hR.1 | exact HR.c H hl _ rfl) rfl (Nat.le_of_ble_eq_true rfl) (by omega) _ rfl ?_
    refine c_byteAt H hl hR (by omega) ?_
    refine q_callS (pc := 52) _ (by decide) rfl rfl rfl rfl (Nat.le_of_ble_eq_true rfl) (by omega) _ rfl ?_
    refine c_isD b1 (fun hb2 => ?_) (fun hb2 => ?_)
    · refine q_ifeq (pc := 55) rfl (fun z => absurd z (by decide)) (fun _ => ?_)
      refine q_iconst (pc := 58) rfl (nI 0) (by decide) ?_
      refine q_istore_n (pc := 59) [_, _, _, _] rfl (Nat.le_of_ble_eq_true rfl) rfl ?_
      rw [if_neg (by rw [hb]; decide), if_pos hb2] at hq
      exact c_endD hd H hl hR hq 160 0 (j + 1) (by omega) (by omega) rfl
    · refine q_ifeq (pc := 55) rfl (fun _ => ?_) (fun z => absurd (by decide) z)
      refine q_iload_n (pc := 87) rfl rfl ?_
      refine q_iret (pc := 88) rfl (rfl) ?_
      rw [if_neg (by rw [hb]; decide), if_neg (by rw [hb2]; decide)] at hq
      exact hq
/-- the number that digits tell -/
def nmF (tp : Nat → Nat) (tz a : Nat) : Nat → Nat
  | 0 => 0
  | n + 1 => nmF tp tz a n * 10 + byN tp tz (a + n) - 48
theorem nmF_le {tz w : Nat} (hb : ∀ i, byN tp tz i ≤ 256) : ∀ n, n ≤ 4 → nmF tp tz w n + 30 ≤ 10 ^ n * 30 := by
  intro n
  induction n with
  | zero => intro _; exact Nat.le_refl _
  | succ n ih =>
    intro hn
    have h1 := ih (by omega)
    have h2 := hb (w + n)
    rw [nmF, Nat.pow_succ]
    have : 1 ≤ 10 ^ n := Nat.one_le_pow _ _ (by decide)
    omega
theorem c_numL {w u : Nat} (hd : 1 ≤ d) (H : HR P h s) (hl : 51 ≤ P.1) (hR : RT s tp tz) (hu : w ≤ u ∧ u ≤ w + 4) (hw : w ≤ 1000) (hdg : ∀ i, w ≤ i → i < u → dgB (byN tp tz i) = true) (hq : Q (some (.int (nI (nmF tp tz w (u - w))))) h) (n i : Nat) (hi : w + i + n = u) : wq d 30 15 [some (.ref 25), some (.int (nI w)), some (.int (nI u)), some (.int (nI (nmF tp tz w i))), some (.int (nI (w + i)))] [] h Q := by
  have b1 := byN_le (j := w + i) hR.2.2.2
  have b2 := nmF_le (tp := tp) (tz := tz) (w := w) (fun i => byN_le hR.2.2.2) i (by omega)
  have b3 : 10 ^ i ≤ 10 ^ 4 := Nat.pow_le_pow_right (by decide) (by omega)
  match n, hi with
  | 0, hi =>
    have e : u - w = i := by omega
    rw [e] at hq
    refine q_iload (pc := 15) rfl rfl ?_
    refine q_iload_n (pc := 17) rfl rfl ?_
    first | refine n_icmpge (pc := 18) rfl (by omega) (by omega) (fun h18 => ?_) (fun h18 => ?_) | refine q_icmpge (pc := 18) rfl (fun h18 => ?_) (fun h18 => ?_)
    · refine q_iload_n (pc := 42) rfl rfl ?_
      refine q_iret (pc := 43) rfl (rfl) ?_
      exact hq
    · first | (exfalso; omega) | exact absurd h18 (nI_pos (by omega)) | exact absurd (nI_pos' (by omega)) h18
  | n + 1, hi =>
    have b4 : 48 ≤ byN tp tz (w + i) ∧ byN tp tz (w + i) ≤ 57 := of_decide_eq_true (hdg (w + i) (by omega) (by omega))
    have b5 : byN tp tz (w + i) < 256 := by omega
    refine q_iload (pc := 15) rfl rfl ?_
    refine q_iload_n (pc := 17) rfl rfl ?_
    first | refine n_icmpge (pc := 18) rfl (by omega) (by omega) (fun h18 => ?_) (fun h18 => ?_) | refine q_icmpge (pc := 18) rfl (fun h18 => ?_) (fun h18 => ?_)
    · first | (exfalso; omega) | exact absurd h18 (nI_pos (by omega)) | exact absurd (nI_pos' (by omega)) h18
    · refine q_iload_n (pc := 21) rfl rfl ?_
      refine q_bipush (pc := 22) rfl (nI 10) (by decide) ?_
      first | refine n_imul (pc := 24) rfl ?_ | refine q_imul (pc := 24) rfl ?_
      refine q_aload_n (pc := 25) rfl rfl rfl ?_
      refine q_iload (pc := 26) rfl rfl ?_
      refine q_callV (pc := 28) _ rfl rfl rfl (by first | exact HR.rd H hl hR.1 | exact HR.c H hl _ rfl) rfl (Nat.le_of_ble_eq_true rfl) (by omega) _ rfl ?_
      refine c_byteAt H hl hR (by omega) ?_
      rw [show ob (byN tp tz (w + i)) = nI (byN tp tz (w + i)) from if_pos b5]
      first | refine n_iadd (pc := 31) rfl ?_ | refine q_iadd (pc := 31) rfl ?_
      refine q_bipush (pc := 32) rfl (nI 48) (by decide) ?_
      first | refine n_isub (pc := 34) rfl (by omega) ?_ | refine q_isub (pc := 34) rfl ?_
      refine q_istore_n (pc := 35) [_, _, _, _, _] rfl (Nat.le_of_ble_eq_true rfl) rfl ?_
      first | refine n_iinc (pc := 36) rfl [_, _, _, _, _] 1 (by decide) rfl rfl ?_ | refine q_iinc (pc := 36) [_, _, _, _, _] (1) rfl rfl (by decide) rfl ?_
      refine q_goto (pc := 39) rfl ?_
      exact c_numL hd H hl hR hu hw hdg hq n (i + 1) (by omega)
termination_by n
theorem c_numberOf {w u : Nat} (hd : 1 ≤ d) (H : HR P h s) (hl : 51 ≤ P.1) (hR : RT s tp tz) (hu : w ≤ u ∧ u ≤ 2000) (hw : w ≤ 1000) (hdg : ∀ i, w ≤ i → i < u → dgB (byN tp tz i) = true) (hq : Q (some (.int (if 4 < u - w then -23 else nI (nmF tp tz w (u - w))))) h) : wc d 30 [.ref 25, .int (nI w), .int (nI u)] h Q := by
  refine wc.go [_, _, _, _, _] rfl ?_
  refine q_iload_n (pc := 0) rfl rfl ?_
  refine q_iload_n (pc := 1) rfl rfl ?_
  first | refine n_isub (pc := 2) rfl (by omega) ?_ | refine q_isub (pc := 2) rfl ?_
  refine q_iconst (pc := 3) rfl (nI 4) (by decide) ?_
  first | refine n_icmple (pc := 4) rfl (by omega) (by omega) (fun h4 => ?_) (fun h4 => ?_) | refine q_icmple (pc := 4) rfl (fun h4 => ?_) (fun h4 => ?_)
  · first
    | (exfalso; omega (config := {splitDisjunctions := false}))
    | skip
      refine q_iconst (pc := 10) rfl (nI 0) (by decide) ?_
      refine q_istore_n (pc := 11) [_, _, _, _, _] rfl (Nat.le_of_ble_eq_true rfl) rfl ?_
      refine q_iload_n (pc := 12) rfl rfl ?_
      refine q_istore (pc := 13) [_, _, _, _, _] rfl (Nat.le_of_ble_eq_true rfl) rfl ?_
      rw [if_neg (by omega)] at hq
      exact c_numL hd H hl hR (by omega) hw hdg hq (u - w) 0 (by omega)
  · first
    | (exfalso; omega (config := {splitDisjunctions := false}))
    | skip
      refine q_bipush (pc := 7) rfl (-23) (by decide) ?_
      refine q_iret (pc := 9) rfl (rfl) ?_
      rw [if_pos (by omega)] at hq
      exact hq
def WD (k : Nat) : List Int32 := mx_byt.getD k []
def spB (tp : Nat → Nat) (tz u w k : Nat) : Bool := decide (w - u = (WD k).length ∧ ∀ i, i < (WD k).length → ob (byN tp tz (u + i)) = (WD k).getD i 0)
theorem WD_s {k : Nat} (hk : k < 13) : mx_slen (mx_big + (k + 1)) = some (WD k).length ∧ (WD k).length ≤ 39 := by
  have h1 : mx_byt.length = 13 := rfl
  have h2 : ∀ k, k < 13 → (WD k).length ≤ 39 := by decide
  refine ⟨?_, h2 k hk⟩
  unfold mx_slen
  rw [if_pos ⟨by omega, by rw [h1]; omega⟩, show mx_big + (k + 1) - mx_big - 1 = k by omega]
  rfl
theorem WD_c {k i : Nat} (hi : i < 2 ^ 31) : (mx_byt.getD (mx_big + (k + 1) - mx_big - 1) []).getD (nI i).toNatClampNeg 0 = (WD k).getD i 0 := by
  rw [show mx_big + (k + 1) - mx_big - 1 = k by omega, x_cl hi]
  rfl
theorem c_spellL {w u m : Nat} (hd : 1 ≤ d) (H : HR P h s) (hl : 51 ≤ P.1) (hR : RT s tp tz) (hm : m < 13) (hu : u ≤ 1000) (he : w - u = (WD m).length) (ht : spB tp tz u w m = true → Q (some (.int 1)) h) (hf : spB tp tz u w m = false → Q (some (.int 0)) h) (n i : Nat) (hi : i + n = (WD m).length) (h1 : ∀ j, j < i → ob (byN tp tz (u + j)) = (WD m).getD j 0) : wq d 32 15 [some (.ref 25), some (.int (nI u)), some (.int (nI w)), some (.ref (mx_big + (m + 1))), some (.int (nI i))] [] h Q := by
  obtain ⟨w1, w2⟩ := WD_s hm
  match n, hi with
  | 0, hi =>
    have e : i = (WD m).length := by omega
    refine q_iload (pc := 15) rfl rfl ?_
    refine q_aload_n (pc := 17) rfl rfl rfl ?_
    refine q_slen (pc := 18) rfl (by exact w1) rfl ?_
    rw [show Int32.ofNat (WD m).length = nI (WD m).length from rfl]
    first | refine n_icmpge (pc := 21) rfl (by omega) (by omega) (fun h21 => ?_) (fun h21 => ?_) | refine q_icmpge (pc := 21) rfl (fun h21 => ?_) (fun h21 => ?_)
    · refine q_iconst (pc := 49) rfl (nI 1) (by decide) ?_
      refine q_iret (pc := 50) rfl (rfl) ?_
      exact ht (decide_eq_true ⟨he, fun j hj => h1 j (by omega)⟩)
    · first | (exfalso; omega) | exact absurd h21 (nI_pos (by omega)) | exact absurd (nI_pos' (by omega)) h21
  | n + 1, hi =>
    refine q_iload (pc := 15) rfl rfl ?_
    refine q_aload_n (pc := 17) rfl rfl rfl ?_
    refine q_slen (pc := 18) rfl (by exact w1) rfl ?_
    rw [show Int32.ofNat (WD m).length = nI (WD m).length from rfl]
    first | refine n_icmpge (pc := 21) rfl (by omega) (by omega) (fun h21 => ?_) (fun h21 => ?_) | refine q_icmpge (pc := 21) rfl (fun h21 => ?_) (fun h21 => ?_)
    · first | (exfalso; omega) | exact absurd h21 (nI_pos (by omega)) | exact absurd (nI_pos' (by omega)) h21
    · refine q_aload_n (pc := 24) rfl rfl rfl ?_
      refine q_iload_n (pc := 25) rfl rfl ?_
      refine q_iload (pc := 26) rfl rfl ?_
      first | refine n_iadd (pc := 28) rfl ?_ | refine q_iadd (pc := 28) rfl ?_
      refine q_callV (pc := 29) _ rfl rfl rfl (by first | exact HR.rd H hl hR.1 | exact HR.c H hl _ rfl) rfl (Nat.le_of_ble_eq_true rfl) (by omega) _ rfl ?_
      refine c_byteAt H hl hR (by omega) ?_
      refine q_aload_n (pc := 32) rfl rfl rfl ?_
      refine q_iload (pc := 33) rfl rfl ?_
      refine q_schr (pc := 35) rfl (by exact w1) rfl (by exact x_vin (by omega) (by omega)) ?_
      rw [WD_c (by omega)]
      refine q_icmpeq (pc := 38) rfl (fun h38 => ?_) (fun h38 => ?_)
      · first
        | (exfalso; omega (config := {splitDisjunctions := false}))
        | exact absurd rfl h38
        | skip
          first | refine n_iinc (pc := 43) rfl [_, _, _, _, _] 1 (by decide) rfl rfl ?_ | refine q_iinc (pc := 43) [_, _, _, _, _] (1) rfl rfl (by decide) rfl ?_
          refine q_goto (pc := 46) rfl ?_
          exact c_spellL hd H hl hR hm hu he ht hf n (i + 1) (by omega) (fun j hj => by
            by_cases e : j = i
            · subst e
              exact h38
            · exact h1 j (by omega))
      · first
        | (exfalso; omega (config := {splitDisjunctions := false}))
        | exact absurd rfl h38
        | skip
          refine q_iconst (pc := 41) rfl (nI 0) (by decide) ?_
          refine q_iret (pc := 42) rfl (rfl) ?_
          exact hf (decide_eq_false (fun e => h38 (e.2 i (by omega))))
termination_by n
theorem c_spells {w u m : Nat} (hd : 1 ≤ d) (H : HR P h s) (hl : 51 ≤ P.1) (hR : RT s tp tz) (hm : m < 13) (hu : u ≤ 1000) (huw : u ≤ w ∧ w ≤ 2000) (ht : spB tp tz u w m = true → Q (some (.int 1)) h) (hf : spB tp tz u w m = false → Q (some (.int 0)) h) : wc d 32 [.ref 25, .int (nI u), .int (nI w), .ref (mx_big + (m + 1))] h Q := by
  obtain ⟨w1, w2⟩ := WD_s hm
  refine wc.go [_, _, _, _, _] rfl ?_
  refine q_iload_n (pc := 0) rfl rfl ?_
  refine q_iload_n (pc := 1) rfl rfl ?_
  first | refine n_isub (pc := 2) rfl (by omega) ?_ | refine q_isub (pc := 2) rfl ?_
  refine q_aload_n (pc := 3) rfl rfl rfl ?_
  refine q_slen (pc := 4) rfl (by exact w1) rfl ?_
  rw [show Int32.ofNat (WD m).length = nI (WD m).length from rfl]
  first | refine n_icmpeq (pc := 7) rfl (by omega) (by omega) (fun h7 => ?_) (fun h7 => ?_) | refine q_icmpeq (pc := 7) rfl (fun h7 => ?_) (fun h7 => ?_)
  · first
    | (exfalso; omega (config := {splitDisjunctions := false}))
    | exact absurd rfl h7
    | skip
      refine q_iconst (pc := 12) rfl (nI 0) (by decide) ?_
      refine q_istore (pc := 13) [_, _, _, _, _] rfl (Nat.le_of_ble_eq_true rfl) rfl ?_
      exact c_spellL hd H hl hR hm hu (by omega) ht hf (WD m).length 0 (by omega) (fun j hj => by omega)
  · first
    | (exfalso; omega (config := {splitDisjunctions := false}))
    | exact absurd rfl h7
    | skip
      refine q_iconst (pc := 10) rfl (nI 0) (by decide) ?_
      refine q_iret (pc := 11) rfl (rfl) ?_
      exact hf (decide_eq_false (fun e => by have := e.1; omega))
def wdN (tp : Nat → Nat) (tz u w : Nat) : Nat := fnd (fun k => spB tp tz u w (k + 1)) 12 0
def wcd (k : Nat) : Int32 := if k = 0 then -1 else if k = 1 then -2 else if k = 2 then -3 else if k = 3 then -4 else if k = 4 then -5 else if k = 5 then -6 else if k = 6 then -19 else if k = 7 then -20 else if k = 8 then -21 else if k = 9 then -7 else if k = 10 then -8 else if k = 11 then -9 else -23
theorem c_wordOf {w u : Nat} (hd : 2 ≤ d) (H : HR P h s) (hl : 51 ≤ P.1) (hR : RT s tp tz) (hu : u ≤ 1000) (huw : u ≤ w ∧ w ≤ 2000) (hq : Q (some (.int (wcd (wdN tp tz u w)))) h) : wc d 31 [.ref 25, .int (nI u), .int (nI w)] h Q := by
  unfold wdN at hq
  simp only [fnd, Nat.zero_add, Nat.reduceAdd] at hq
  refine wc.go [_, _, _] rfl ?_
  refine q_aload_n (pc := 0) rfl rfl rfl ?_
  refine q_iload_n (pc := 1) rfl rfl ?_
  refine q_iload_n (pc := 2) rfl rfl ?_
  refine q_ldcS (pc := 3) rfl ?_
  refine q_callV (pc := 5) _ rfl rfl rfl (by first | exact HR.rd H hl hR.1 | exact HR.c H hl _ rfl) rfl (Nat.le_of_ble_eq_true rfl) (by omega) _ rfl ?_
  refine c_spells (m := 1) (by omega) H hl hR (by decide) hu huw (fun g0 => ?_) (fun g0 => ?_)
  · rw [if_pos g0] at hq
    refine q_ifeq (pc := 8) rfl (fun z => absurd z (by decide)) (fun _ => ?_)
    refine q_iconst (pc := 11) rfl (-1) (by decide) ?_
    refine q_iret (pc := 12) rfl (rfl) ?_
    exact hq
  · rw [if_neg (by rw [g0]; decide)] at hq
    refine q_ifeq (pc := 8) rfl (fun _ => ?_) (fun z => absurd (by decide) z)
    refine q_aload_n (pc := 13) rfl rfl rfl ?_
    refine q_iload_n (pc := 14) rfl rfl ?_
    refine q_iload_n (pc := 15) rfl rfl ?_
    refine q_ldcS (pc := 16) rfl ?_
    refine q_callV (pc := 18) _ rfl rfl rfl (by first | exact HR.rd H hl hR.1 | exact HR.c H hl _ rfl) rfl (Nat.le_of_ble_eq_true rfl) (by omega) _ rfl ?_
    refine c_spells (m := 2) (by omega) H hl hR (by decide) hu huw (fun g1 => ?_) (fun g1 => ?_)
    · rw [if_pos g1] at hq
      refine q_ifeq (pc := 21) rfl (fun z => absurd z (by decide)) (fun _ => ?_)
      refine q_bipush (pc := 24) rfl (-2) (by decide) ?_
      refine q_iret (pc := 26) rfl (rfl) ?_
      exact hq
    · rw [if_neg (by rw [g1]; decide)] at hq
      refine q_ifeq (pc := 21) rfl (fun _ => ?_) (fun z => absurd (by decide) z)
      refine q_aload_n (pc := 27) rfl rfl rfl ?_
      refine q_iload_n (pc := 28) rfl rfl ?_
      refine q_iload_n (pc := 29) rfl rfl ?_
      refine q_ldcS (pc := 30) rfl ?_
      refine q_callV (pc := 32) _ rfl rfl rfl (by first | exact HR.rd H hl hR.1 | exact HR.c H hl _ rfl) rfl (Nat.le_of_ble_eq_true rfl) (by omega) _ rfl ?_
      refine c_spells (m := 3) (by omega) H hl hR (by decide) hu huw (fun g2 => ?_) (fun g2 => ?_)
      · rw [if_pos g2] at hq
        refine q_ifeq (pc := 35) rfl (fun z => absurd z (by decide)) (fun _ => ?_)
        refine q_bipush (pc := 38) rfl (-3) (by decide) ?_
        refine q_iret (pc := 40) rfl (rfl) ?_
        exact hq
      · rw [if_neg (by rw [g2]; decide)] at hq
        refine q_ifeq (pc := 35) rfl (fun _ => ?_) (fun z => absurd (by decide) z)
        refine q_aload_n (pc := 41) rfl rfl rfl ?_
        refine q_iload_n (pc := 42) rfl rfl ?_
        refine q_iload_n (pc := 43) rfl rfl ?_
        refine q_ldcS (pc := 44) rfl ?_
        refine q_callV (pc := 46) _ rfl rfl rfl (by first | exact HR.rd H hl hR.1 | exact HR.c H hl _ rfl) rfl (Nat.le_of_ble_eq_true rfl) (by omega) _ rfl ?_
        refine c_spells (m := 4) (by omega) H hl hR (by decide) hu huw (fun g3 => ?_) (fun g3 => ?_)
        · rw [if_pos g3] at hq
          refine q_ifeq (pc := 49) rfl (fun z => absurd z (by decide)) (fun _ => ?_)
          refine q_bipush (pc := 52) rfl (-4) (by decide) ?_
          refine q_iret (pc := 54) rfl (rfl) ?_
          exact hq
        · rw [if_neg (by rw [g3]; decide)] at hq
          refine q_ifeq (pc := 49) rfl (fun _ => ?_) (fun z => absurd (by decide) z)
          refine q_aload_n (pc := 55) rfl rfl rfl ?_
          refine q_iload_n (pc := 56) rfl rfl ?_
          refine q_iload_n (pc := 57) rfl rfl ?_
          refine q_ldcS (pc := 58) rfl ?_
          refine q_callV (pc := 60) _ rfl rfl rfl (by first | exact HR.rd H hl hR.1 | exact HR.c H hl _ rfl) rfl (Nat.le_of_ble_eq_true rfl) (by omega) _ rfl ?_
          refine c_spells (m := 5) (by omega) H hl hR (by decide) hu huw (fun g4 => ?_) (fun g4 => ?_)
          · rw [if_pos g4] at hq
            refine q_ifeq (pc := 63) rfl (fun z => absurd z (by decide)) (fun _ => ?_)
            refine q_bipush (pc := 66) rfl (-5) (by decide) ?_
            refine q_iret (pc := 68) rfl (rfl) ?_
            exact hq
          · rw [if_neg (by rw [g4]; decide)] at hq
            refine q_ifeq (pc := 63) rfl (fun _ => ?_) (fun z => absurd (by decide) z)
            refine q_aload_n (pc := 69) rfl rfl rfl ?_
            refine q_iload_n (pc := 70) rfl rfl ?_
            refine q_iload_n (pc := 71) rfl rfl ?_
            refine q_ldcS (pc := 72) rfl ?_
            refine q_callV (pc := 74) _ rfl rfl rfl (by first | exact HR.rd H hl hR.1 | exact HR.c H hl _ rfl) rfl (Nat.le_of_ble_eq_true rfl) (by omega) _ rfl ?_
            refine c_spells (m := 6) (by omega) H hl hR (by decide) hu huw (fun g5 => ?_) (fun g5 => ?_)
            · rw [if_pos g5] at hq
              refine q_ifeq (pc := 77) rfl (fun z => absurd z (by decide)) (fun _ => ?_)
              refine q_bipush (pc := 80) rfl (-6) (by decide) ?_
              refine q_iret (pc := 82) rfl (rfl) ?_
              exact hq
            · rw [if_neg (by rw [g5]; decide)] at hq
              refine q_ifeq (pc := 77) rfl (fun _ => ?_) (fun z => absurd (by decide) z)
              refine q_aload_n (pc := 83) rfl rfl rfl ?_
              refine q_iload_n (pc := 84) rfl rfl ?_
              refine q_iload_n (pc := 85) rfl rfl ?_
              refine q_ldcS (pc := 86) rfl ?_
              refine q_callV (pc := 88) _ rfl rfl rfl (by first | exact HR.rd H hl hR.1 | exact HR.c H hl _ rfl) rfl (Nat.le_of_ble_eq_true rfl) (by omega) _ rfl ?_
              refine c_spells (m := 7) (by omega) H hl hR (by decide) hu huw (fun g6 => ?_) (fun g6 => ?_)
              · rw [if_pos g6] at hq
                refine q_ifeq (pc := 91) rfl (fun z => absurd z (by decide)) (fun _ => ?_)
                refine q_bipush (pc := 94) rfl (-19) (by decide) ?_
                refine q_iret (pc := 96) rfl (rfl) ?_
                exact hq
              · rw [if_neg (by rw [g6]; decide)] at hq
                refine q_ifeq (pc := 91) rfl (fun _ => ?_) (fun z => absurd (by decide) z)
                refine q_aload_n (pc := 97) rfl rfl rfl ?_
                refine q_iload_n (pc := 98) rfl rfl ?_
                refine q_iload_n (pc := 99) rfl rfl ?_
                refine q_ldcS (pc := 100) rfl ?_
                refine q_callV (pc := 102) _ rfl rfl rfl (by first | exact HR.rd H hl hR.1 | exact HR.c H hl _ rfl) rfl (Nat.le_of_ble_eq_true rfl) (by omega) _ rfl ?_
                refine c_spells (m := 8) (by omega) H hl hR (by decide) hu huw (fun g7 => ?_) (fun g7 => ?_)
                · rw [if_pos g7] at hq
                  refine q_ifeq (pc := 105) rfl (fun z => absurd z (by decide)) (fun _ => ?_)
                  refine q_bipush (pc := 108) rfl (-20) (by decide) ?_
                  refine q_iret (pc := 110) rfl (rfl) ?_
                  exact hq
                · rw [if_neg (by rw [g7]; decide)] at hq
                  refine q_ifeq (pc := 105) rfl (fun _ => ?_) (fun z => absurd (by decide) z)
                  refine q_aload_n (pc := 111) rfl rfl rfl ?_
                  refine q_iload_n (pc := 112) rfl rfl ?_
                  refine q_iload_n (pc := 113) rfl rfl ?_
                  refine q_ldcS (pc := 114) rfl ?_
                  refine q_callV (pc := 116) _ rfl rfl rfl (by first | exact HR.rd H hl hR.1 | exact HR.c H hl _ rfl) rfl (Nat.le_of_ble_eq_true rfl) (by omega) _ rfl ?_
                  refine c_spells (m := 9) (by omega) H hl hR (by decide) hu huw (fun g8 => ?_) (fun g8 => ?_)
                  · rw [if_pos g8] at hq
                    refine q_ifeq (pc := 119) rfl (fun z => absurd z (by decide)) (fun _ => ?_)
                    refine q_bipush (pc := 122) rfl (-21) (by decide) ?_
                    refine q_iret (pc := 124) rfl (rfl) ?_
                    exact hq
                  · rw [if_neg (by rw [g8]; decide)] at hq
                    refine q_ifeq (pc := 119) rfl (fun _ => ?_) (fun z => absurd (by decide) z)
                    refine q_aload_n (pc := 125) rfl rfl rfl ?_
                    refine q_iload_n (pc := 126) rfl rfl ?_
                    refine q_iload_n (pc := 127) rfl rfl ?_
                    refine q_ldcS (pc := 128) rfl ?_
                    refine q_callV (pc := 130) _ rfl rfl rfl (by first | exact HR.rd H hl hR.1 | exact HR.c H hl _ rfl) rfl (Nat.le_of_ble_eq_true rfl) (by omega) _ rfl ?_
                    refine c_spells (m := 10) (by omega) H hl hR (by decide) hu huw (fun g9 => ?_) (fun g9 => ?_)
                    · rw [if_pos g9] at hq
                      refine q_ifeq (pc := 133) rfl (fun z => absurd z (by decide)) (fun _ => ?_)
                      refine q_bipush (pc := 136) rfl (-7) (by decide) ?_
                      refine q_iret (pc := 138) rfl (rfl) ?_
                      exact hq
                    · rw [if_neg (by rw [g9]; decide)] at hq
                      refine q_ifeq (pc := 133) rfl (fun _ => ?_) (fun z => absurd (by decide) z)
                      refine q_aload_n (pc := 139) rfl rfl rfl ?_
                      refine q_iload_n (pc := 140) rfl rfl ?_
                      refine q_iload_n (pc := 141) rfl rfl ?_
                      refine q_ldcS (pc := 142) rfl ?_
                      refine q_callV (pc := 144) _ rfl rfl rfl (by first | exact HR.rd H hl hR.1 | exact HR.c H hl _ rfl) rfl (Nat.le_of_ble_eq_true rfl) (by omega) _ rfl ?_
                      refine c_spells (m := 11) (by omega) H hl hR (by decide) hu huw (fun g10 => ?_) (fun g10 => ?_)
                      · rw [if_pos g10] at hq
                        refine q_ifeq (pc := 147) rfl (fun z => absurd z (by decide)) (fun _ => ?_)
                        refine q_bipush (pc := 150) rfl (-8) (by decide) ?_
                        refine q_iret (pc := 152) rfl (rfl) ?_
                        exact hq
                      · rw [if_neg (by rw [g10]; decide)] at hq
                        refine q_ifeq (pc := 147) rfl (fun _ => ?_) (fun z => absurd (by decide) z)
                        refine q_aload_n (pc := 153) rfl rfl rfl ?_
                        refine q_iload_n (pc := 154) rfl rfl ?_
                        refine q_iload_n (pc := 155) rfl rfl ?_
                        refine q_ldcS (pc := 156) rfl ?_
                        refine q_callV (pc := 158) _ rfl rfl rfl (by first | exact HR.rd H hl hR.1 | exact HR.c H hl _ rfl) rfl (Nat.le_of_ble_eq_true rfl) (by omega) _ rfl ?_
                        refine c_spells (m := 12) (by omega) H hl hR (by decide) hu huw (fun g11 => ?_) (fun g11 => ?_)
                        · rw [if_pos g11] at hq
                          refine q_ifeq (pc := 161) rfl (fun z => absurd z (by decide)) (fun _ => ?_)
                          refine q_bipush (pc := 164) rfl (-9) (by decide) ?_
                          refine q_goto (pc := 166) rfl ?_
                          refine q_iret (pc := 171) rfl (rfl) ?_
                          exact hq
                        · rw [if_neg (by rw [g11]; decide)] at hq
                          refine q_ifeq (pc := 161) rfl (fun _ => ?_) (fun z => absurd (by decide) z)
                          refine q_bipush (pc := 169) rfl (-23) (by decide) ?_
                          refine q_iret (pc := 171) rfl (rfl) ?_
                          exact hq
def sgV (b : Nat) : Int32 := if b = 256 then -22 else if b = 40 then -16 else if b = 41 then -17 else if b = 59 then -18 else if b = 43 then -12 else if b = 45 then -13 else if b = 42 then -14 else if b = 60 then -10 else if b = 61 then -11 else -23
def tkV (tp : Nat → Nat) (tz u w : Nat) : Int32 := if ltB (byN tp tz u) = true then wcd (wdN tp tz u w) else if dgB (byN tp tz u) = true then (if 4 < w - u then -23 else nI (nmF tp tz u (w - u))) else sgV (byN tp tz u)
theorem lsw_o : ∀ b, b < 257 → ¬ (b = 256 ∨ b = 40 ∨ b = 41 ∨ b = 59 ∨ b = 43 ∨ b = 45 ∨ b = 42 ∨ b = 60 ∨ b = 61) → mx_tg 35 (Op.lookupswitch.offset [(-1, 81), (40, 84), (41, 87), (42, 99), (43, 93), (45, 96), (59, 90), (60, 102), (61, 105)] 108 (ob b).toInt) = some 143 := by decide +kernel
theorem c_tokenOf {u : Nat} (hd : 3 ≤ d) (H : HR P h s) (hl : 51 ≤ P.1) (hR : RT s tp tz) (hu : u ≤ 1000) (hq : Q (some (.int (tkV tp tz u (enN tp tz u)))) h) : wc d 29 [.ref 25, .int (nI u), .int (nI (enN tp tz u))] h Q := by
  have b1 := byN_le (j := u) hR.2.2.2
  have b2 := enN_le (tp := tp) (tz := tz) (j := u)
  have hz := hR.2.2.1
  unfold tkV at hq
  generalize hbb : byN tp tz u = b at *
  refine wc.go [_, _, _, _] rfl ?_
  refine q_aload_n (pc := 0) rfl rfl rfl ?_
  refine q_iload_n (pc := 1) rfl rfl ?_
  refine q_callV (pc := 2) _ rfl rfl rfl (by first | exact HR.rd H hl hR.1 | exact HR.c H hl _ rfl) rfl (Nat.le_of_ble_eq_true rfl) (by omega) _ rfl ?_
  refine c_byteAt H hl hR (by omega) ?_
  rw [hbb]
  refine q_istore_n (pc := 5) [_, _, _, _] rfl (Nat.le_of_ble_eq_true rfl) rfl ?_
  refine q_iload_n (pc := 6) rfl rfl ?_
  refine q_callS (pc := 7) _ (by decide) rfl rfl rfl rfl (Nat.le_of_ble_eq_true rfl) (by omega) _ rfl ?_
  refine c_isL b1 (fun hb => ?_) (fun hb => ?_)
  · refine q_ifeq (pc := 10) rfl (fun z => absurd z (by decide)) (fun _ => ?_)
    refine q_aload_n (pc := 13) rfl rfl rfl ?_
    refine q_iload_n (pc := 14) rfl rfl ?_
    refine q_iload_n (pc := 15) rfl rfl ?_
    refine q_callV (pc := 16) _ rfl rfl rfl (by first | exact HR.rd H hl hR.1 | exact HR.c H hl _ rfl) rfl (Nat.le_of_ble_eq_true rfl) (by omega) _ rfl ?_
    rw [if_pos hb] at hq
    refine c_wordOf (by omega) H hl hR hu (by omega) ?_
    refine q_iret (pc := 19) rfl (rfl) ?_
    first | exact hq | (unfold sgV at hq; rw [if_neg (by omega), if_neg (by omega), if_neg (by omega), if_neg (by omega), if_neg (by omega), if_neg (by omega), if_neg (by omega), if_neg (by omega), if_neg (by omega)] at hq; exact hq)
  · refine q_ifeq (pc := 10) rfl (fun _ => ?_) (fun z => absurd (by decide) z)
    refine q_iload_n (pc := 20) rfl rfl ?_
    refine q_callS (pc := 21) _ (by decide) rfl rfl rfl rfl (Nat.le_of_ble_eq_true rfl) (by omega) _ rfl ?_
    refine c_isD b1 (fun hb2 => ?_) (fun hb2 => ?_)
    · refine q_ifeq (pc := 24) rfl (fun z => absurd z (by decide)) (fun _ => ?_)
      refine q_aload_n (pc := 27) rfl rfl rfl ?_
      refine q_iload_n (pc := 28) rfl rfl ?_
      refine q_iload_n (pc := 29) rfl rfl ?_
      refine q_callV (pc := 30) _ rfl rfl rfl (by first | exact HR.rd H hl hR.1 | exact HR.c H hl _ rfl) rfl (Nat.le_of_ble_eq_true rfl) (by omega) _ rfl ?_
      rw [if_neg (by rw [hb]; decide), if_pos hb2] at hq
      refine c_numberOf (by omega) H hl hR (by omega) hu (fun i h1 h2 => ?_) ?_
      · unfold enN at h2
        rw [hbb, if_neg (by rw [hb]; decide), if_pos hb2] at h2
        rcases Nat.eq_or_lt_of_le h1 with e | e
        · rw [← e, hbb]
          exact hb2
        · exact rnB_all (p := fun i => dgB (byN tp tz i)) 160 (u + 1) i e h2
      refine q_iret (pc := 33) rfl (rfl) ?_
      first | exact hq | (unfold sgV at hq; rw [if_neg (by omega), if_neg (by omega), if_neg (by omega), if_neg (by omega), if_neg (by omega), if_neg (by omega), if_neg (by omega), if_neg (by omega), if_neg (by omega)] at hq; exact hq)
    · refine q_ifeq (pc := 24) rfl (fun _ => ?_) (fun z => absurd (by decide) z)
      refine q_iload_n (pc := 34) rfl rfl ?_
      rw [if_neg (by rw [hb]; decide), if_neg (by rw [hb2]; decide)] at hq
      by_cases hc : b = 256 ∨ b = 40 ∨ b = 41 ∨ b = 59 ∨ b = 43 ∨ b = 45 ∨ b = 42 ∨ b = 60 ∨ b = 61
      rcases hc with rfl | rfl | rfl | rfl | rfl | rfl | rfl | rfl | rfl
      · refine q_lsw (pc := 35) (t := 116) rfl (by decide) ?_
        refine q_bipush (pc := 116) rfl (-22) (by decide) ?_
        refine q_iret (pc := 118) rfl (rfl) ?_
        first | exact hq | (unfold sgV at hq; rw [if_neg (by omega), if_neg (by omega), if_neg (by omega), if_neg (by omega), if_neg (by omega), if_neg (by omega), if_neg (by omega), if_neg (by omega), if_neg (by omega)] at hq; exact hq)
      · refine q_lsw (pc := 35) (t := 119) rfl (by decide) ?_
        refine q_bipush (pc := 119) rfl (-16) (by decide) ?_
        refine q_iret (pc := 121) rfl (rfl) ?_
        first | exact hq | (unfold sgV at hq; rw [if_neg (by omega), if_neg (by omega), if_neg (by omega), if_neg (by omega), if_neg (by omega), if_neg (by omega), if_neg (by omega), if_neg (by omega), if_neg (by omega)] at hq; exact hq)
      · refine q_lsw (pc := 35) (t := 122) rfl (by decide) ?_
        refine q_bipush (pc := 122) rfl (-17) (by decide) ?_
        refine q_iret (pc := 124) rfl (rfl) ?_
        first | exact hq | (unfold sgV at hq; rw [if_neg (by omega), if_neg (by omega), if_neg (by omega), if_neg (by omega), if_neg (by omega), if_neg (by omega), if_neg (by omega), if_neg (by omega), if_neg (by omega)] at hq; exact hq)
      · refine q_lsw (pc := 35) (t := 125) rfl (by decide) ?_
        refine q_bipush (pc := 125) rfl (-18) (by decide) ?_
        refine q_iret (pc := 127) rfl (rfl) ?_
        first | exact hq | (unfold sgV at hq; rw [if_neg (by omega), if_neg (by omega), if_neg (by omega), if_neg (by omega), if_neg (by omega), if_neg (by omega), if_neg (by omega), if_neg (by omega), if_neg (by omega)] at hq; exact hq)
      · refine q_lsw (pc := 35) (t := 128) rfl (by decide) ?_
        refine q_bipush (pc := 128) rfl (-12) (by decide) ?_
        refine q_iret (pc := 130) rfl (rfl) ?_
        first | exact hq | (unfold sgV at hq; rw [if_neg (by omega), if_neg (by omega), if_neg (by omega), if_neg (by omega), if_neg (by omega), if_neg (by omega), if_neg (by omega), if_neg (by omega), if_neg (by omega)] at hq; exact hq)
      · refine q_lsw (pc := 35) (t := 131) rfl (by decide) ?_
        refine q_bipush (pc := 131) rfl (-13) (by decide) ?_
        refine q_iret (pc := 133) rfl (rfl) ?_
        first | exact hq | (unfold sgV at hq; rw [if_neg (by omega), if_neg (by omega), if_neg (by omega), if_neg (by omega), if_neg (by omega), if_neg (by omega), if_neg (by omega), if_neg (by omega), if_neg (by omega)] at hq; exact hq)
      · refine q_lsw (pc := 35) (t := 134) rfl (by decide) ?_
        refine q_bipush (pc := 134) rfl (-14) (by decide) ?_
        refine q_iret (pc := 136) rfl (rfl) ?_
        first | exact hq | (unfold sgV at hq; rw [if_neg (by omega), if_neg (by omega), if_neg (by omega), if_neg (by omega), if_neg (by omega), if_neg (by omega), if_neg (by omega), if_neg (by omega), if_neg (by omega)] at hq; exact hq)
      · refine q_lsw (pc := 35) (t := 137) rfl (by decide) ?_
        refine q_bipush (pc := 137) rfl (-10) (by decide) ?_
        refine q_iret (pc := 139) rfl (rfl) ?_
        first | exact hq | (unfold sgV at hq; rw [if_neg (by omega), if_neg (by omega), if_neg (by omega), if_neg (by omega), if_neg (by omega), if_neg (by omega), if_neg (by omega), if_neg (by omega), if_neg (by omega)] at hq; exact hq)
      · refine q_lsw (pc := 35) (t := 140) rfl (by decide) ?_
        refine q_bipush (pc := 140) rfl (-11) (by decide) ?_
        refine q_iret (pc := 142) rfl (rfl) ?_
        first | exact hq | (unfold sgV at hq; rw [if_neg (by omega), if_neg (by omega), if_neg (by omega), if_neg (by omega), if_neg (by omega), if_neg (by omega), if_neg (by omega), if_neg (by omega), if_neg (by omega)] at hq; exact hq)
      · refine q_lsw (pc := 35) (t := 143) rfl (lsw_o b (by omega) hc) ?_
        refine q_bipush (pc := 143) rfl (-23) (by decide) ?_
        refine q_iret (pc := 145) rfl (rfl) ?_
        first | exact hq | (unfold sgV at hq; rw [if_neg (by omega), if_neg (by omega), if_neg (by omega), if_neg (by omega), if_neg (by omega), if_neg (by omega), if_neg (by omega), if_neg (by omega), if_neg (by omega)] at hq; exact hq)
/-- the places and the tokens -/
def stP (tp : Nat → Nat) (tz : Nat) : Nat → Nat
  | 0 => 0
  | i + 1 => enN tp tz (skN tp tz (stP tp tz i))
def tpl (tp : Nat → Nat) (tz i : Nat) : Nat := skN tp tz (stP tp tz i)
def tkT (tp : Nat → Nat) (tz i : Nat) : Int32 := tkV tp tz (tpl tp tz i) (enN tp tz (tpl tp tz i))
theorem stP_b (tp : Nat → Nat) (tz i : Nat) (hz : tz ≤ 160) : i ≤ stP tp tz i ∧ stP tp tz i ≤ 160 + i ∧ i ≤ tpl tp tz i ∧ tpl tp tz i ≤ 160 + i := by
  induction i with
  | zero =>
    have h1 := skN_le (tp := tp) (tz := tz) (j := 0)
    exact ⟨Nat.le_refl _, Nat.zero_le _, Nat.zero_le _, by unfold tpl; show skN tp tz 0 ≤ _; omega⟩
  | succ i ih =>
    have h1 := enN_le (tp := tp) (tz := tz) (j := skN tp tz (stP tp tz i))
    have h2 := skN_le (tp := tp) (tz := tz) (j := stP tp tz i)
    have h3 := skN_le (tp := tp) (tz := tz) (j := stP tp tz (i + 1))
    have e : stP tp tz (i + 1) = enN tp tz (skN tp tz (stP tp tz i)) := rfl
    unfold tpl at ih ⊢
    omega
def isE (x : Int32) : Prop := x = -22 ∨ x = -23
theorem tk_end (tp : Nat → Nat) (tz : Nat) (hz : tz ≤ 160) : tkT tp tz 160 = -22 := by
  have h1 := stP_b tp tz 160 hz
  unfold tkT tkV
  rw [by_far (show tz ≤ tpl tp tz 160 by omega)]
  rfl
/-- the tokens stand in the class's arrays up to the one that ends them -/
def TKS (s : mx_St) (tp : Nat → Nat) (tz k : Nat) : Prop := (∀ j, j ≤ k → s 27 j = tkT tp tz j ∧ s 28 j = nI (tpl tp tz j)) ∧ k ≤ 160 ∧ isE (tkT tp tz k) ∧ ∀ j, j < k → ¬ isE (tkT tp tz j)
theorem c_splitL (hd : 4 ≤ d) (hl : 51 ≤ P.1) {s0 : mx_St} (kk : ∀ h' s' k, HR P h' s' → sf s0 s' (fun i => i = 27 ∨ i = 28) → TKS s' tp tz k → Q none h') (n i : Nat) (hi : i + n = 161) (h : mx_H) (s : mx_St) (H : HR P h s) (hR : RT s tp tz) (hs : sf s0 s (fun i => i = 27 ∨ i = 28)) (c1 : ∀ j, j < i → s 27 j = tkT tp tz j ∧ s 28 j = nI (tpl tp tz j)) (c2 : ∀ j, j < i → ¬ isE (tkT tp tz j)) (z3 : Option Value) : wq d 23 4 [some (.ref 25), some (.int (nI (stP tp tz i))), some (.int (nI i)), z3] [] h Q := by
  have hz := hR.2.2.1
  have hb := stP_b tp tz i hz
  match n, hi with
  | 0, hi =>
    exact absurd (Or.inl (tk_end tp tz hz)) (c2 160 (by omega))
  | n + 1, hi =>
    have fA : sf s (stv (stv s 28 i (nI (tpl tp tz i))) 27 i (tkT tp tz i)) (fun i => i = 27 ∨ i = 28) := (sf.rf.st (by omega)).st (by omega)
    have q1 : ∀ j, j < i + 1 → stv (stv s 28 i (nI (tpl tp tz i))) 27 i (tkT tp tz i) 27 j = tkT tp tz j ∧ stv (stv s 28 i (nI (tpl tp tz i))) 27 i (tkT tp tz i) 28 j = nI (tpl tp tz j) := fun j hj => by
      rw [stv_n (show 28 ≠ 27 by decide)]
      by_cases e : j = i
      · subst e
        exact ⟨stv_a, stv_a⟩
      · rw [stv_o e, stv_o e, stv_n (by decide)]
        exact c1 j (by omega)
    refine q_iload_n (pc := 4) rfl rfl ?_
    refine q_sipush (pc := 5) rfl (nI 160) (by decide) ?_
    first | refine n_icmpgt (pc := 8) rfl (by omega) (by omega) (fun h8 => ?_) (fun h8 => ?_) | refine q_icmpgt (pc := 8) rfl (fun h8 => ?_) (fun h8 => ?_)
    · first | (exfalso; omega) | exact absurd h8 (nI_pos (by omega)) | exact absurd (nI_pos' (by omega)) h8
    · refine q_aload_n (pc := 11) rfl rfl rfl ?_
      refine q_iload_n (pc := 12) rfl rfl ?_
      refine q_callV (pc := 13) _ rfl rfl rfl (by first | exact HR.rd H hl hR.1 | exact HR.c H hl _ rfl) rfl (Nat.le_of_ble_eq_true rfl) (by omega) _ rfl ?_
      refine c_blk (by omega) H hl hR (by omega) ?_
      rw [show skN tp tz (stP tp tz i) = tpl tp tz i from rfl]
      refine q_istore_n (pc := 16) [_, _, _, _] rfl (Nat.le_of_ble_eq_true rfl) rfl ?_
      refine q_aload_n (pc := 17) rfl rfl rfl ?_
      refine q_iload_n (pc := 18) rfl rfl ?_
      refine q_callV (pc := 19) _ rfl rfl rfl (by first | exact HR.rd H hl hR.1 | exact HR.c H hl _ rfl) rfl (Nat.le_of_ble_eq_true rfl) (by omega) _ rfl ?_
      refine c_endOf (by omega) H hl hR (by omega) ?_
      refine q_istore_n (pc := 22) [_, _, _, _] rfl (Nat.le_of_ble_eq_true rfl) rfl ?_
      refine q_aload_n (pc := 23) rfl rfl rfl ?_
      refine q_getf (pc := 24) rfl (by first | exact HR.rd H hl hR.1 | exact HR.c H hl _ rfl) rfl rfl ?_
      refine q_iload_n (pc := 27) rfl rfl ?_
      refine q_iload_n (pc := 28) rfl rfl ?_
      refine r_ist2 (pc := 29) rfl H hl rfl (fun _ => rfl) rfl (by omega) (by omega) ?_
      intro h H
      have hR1 : RT (stv s 28 i (nI (tpl tp tz i))) tp tz := ⟨(congrFun (stv_n (by decide)) _).trans hR.1, fun j hj => (congrFun (stv_n (by decide)) _).trans (hR.2.1 j hj), hR.2.2⟩
      refine q_aload_n (pc := 30) rfl rfl rfl ?_
      refine q_getf (pc := 31) rfl (by first | exact HR.rd H hl hR.1 | exact HR.c H hl _ rfl) rfl rfl ?_
      refine q_iload_n (pc := 34) rfl rfl ?_
      refine q_aload_n (pc := 35) rfl rfl rfl ?_
      refine q_iload_n (pc := 36) rfl rfl ?_
      refine q_iload_n (pc := 37) rfl rfl ?_
      refine q_callV (pc := 38) _ rfl rfl rfl (by first | exact HR.rd H hl hR.1 | exact HR.c H hl _ rfl) rfl (Nat.le_of_ble_eq_true rfl) (by omega) _ rfl ?_
      refine c_tokenOf (by omega) H hl hR1 (by omega) ?_
      rw [show tkV tp tz (tpl tp tz i) (enN tp tz (tpl tp tz i)) = tkT tp tz i from rfl]
      refine r_ist2 (pc := 41) rfl H hl rfl (fun _ => rfl) rfl (by omega) (by omega) ?_
      intro h H
      have q2 := (q1 i (by omega)).1
      refine q_aload_n (pc := 42) rfl rfl rfl ?_
      refine q_getf (pc := 43) rfl (by first | exact HR.rd H hl hR.1 | exact HR.c H hl _ rfl) rfl rfl ?_
      refine q_iload_n (pc := 46) rfl rfl ?_
      refine n_ild (pc := 47) rfl (by exact HR.la0 H hl rfl rfl) rfl (by omega) (by omega) ?_
      refine q_bipush (pc := 48) rfl (-22) (by decide) ?_
      refine q_icmpeq (pc := 50) rfl (fun h50 => ?_) (fun h50 => ?_)
      · have he : isE (tkT tp tz i) := Or.inl (q2.symm.trans h50)
        first
        | (exfalso; omega (config := {splitDisjunctions := false}))
        | exact absurd rfl h50
        | skip
          refine q_vret (pc := 64) rfl rfl ?_
          exact kk _ _ i H (hs.tr fA) ⟨fun j hj => q1 j (by omega), by omega, he, c2⟩
      · 
        first
        | (exfalso; omega (config := {splitDisjunctions := false}))
        | exact absurd rfl h50
        | skip
          refine q_aload_n (pc := 53) rfl rfl rfl ?_
          refine q_getf (pc := 54) rfl (by first | exact HR.rd H hl hR.1 | exact HR.c H hl _ rfl) rfl rfl ?_
          refine q_iload_n (pc := 57) rfl rfl ?_
          refine n_ild (pc := 58) rfl (by exact HR.la0 H hl rfl rfl) rfl (by omega) (by omega) ?_
          refine q_bipush (pc := 59) rfl (-23) (by decide) ?_
          refine q_icmpne (pc := 61) rfl (fun h61 => ?_) (fun h61 => ?_)
          · have he : ¬ isE (tkT tp tz i) := fun e => e.elim (fun e => h50 (q2.trans e)) (fun e => h61 (q2.trans e))
            first
            | (exfalso; omega (config := {splitDisjunctions := false}))
            | exact absurd rfl h61
            | skip
              refine q_iload_n (pc := 65) rfl rfl ?_
              refine q_istore_n (pc := 66) [_, _, _, _] rfl (Nat.le_of_ble_eq_true rfl) rfl ?_
              first | refine n_iinc (pc := 67) rfl [_, _, _, _] 1 (by decide) rfl rfl ?_ | refine q_iinc (pc := 67) [_, _, _, _] (1) rfl rfl (by decide) rfl ?_
              refine q_goto (pc := 70) rfl ?_
              have hR2 : RT (stv (stv s 28 i (nI (tpl tp tz i))) 27 i (tkT tp tz i)) tp tz := ⟨(congrFun (fA 25 (by decide)) _).trans hR.1, fun j hj => (congrFun (fA 26 (by decide)) _).trans (hR.2.1 j hj), hR.2.2⟩
              exact c_splitL hd hl kk n (i + 1) (by omega) h _ H hR2 (hs.tr fA) q1 (fun j hj => by
                by_cases e : j = i
                · subst e
                  exact he
                · exact c2 j (by omega)) _
          · have he : isE (tkT tp tz i) := Or.inr (q2.symm.trans h61)
            first
            | (exfalso; omega (config := {splitDisjunctions := false}))
            | exact absurd rfl h61
            | skip
              refine q_vret (pc := 64) rfl rfl ?_
              exact kk _ _ i H (hs.tr fA) ⟨fun j hj => q1 j (by omega), by omega, he, c2⟩
termination_by n
theorem c_split (hd : 4 ≤ d) (hl : 51 ≤ P.1) (H : HR P h s) (hR : RT s tp tz) (kk : ∀ h' s' k, HR P h' s' → sf s s' (fun i => i = 27 ∨ i = 28) → TKS s' tp tz k → Q none h') : wc d 23 [.ref 25] h Q := by
  refine wc.go [_, _, _, _] rfl ?_
  refine q_iconst (pc := 0) rfl (nI 0) (by decide) ?_
  refine q_istore_n (pc := 1) [_, _, _, _] rfl (Nat.le_of_ble_eq_true rfl) rfl ?_
  refine q_iconst (pc := 2) rfl (nI 0) (by decide) ?_
  refine q_istore_n (pc := 3) [_, _, _, _] rfl (Nat.le_of_ble_eq_true rfl) rfl ?_
  exact c_splitL hd hl kk 161 0 (by omega) h s H hR sf.rf (fun j hj => by omega) (fun j hj => by omega) _
end P40
