/-! ===== sets of cells as numbers ===== -/
theorem lN_or (x y : Nat) : lN x ||| lN y = lN (x ||| y) := by
  apply Int64.toBitVec_inj.mp
  show BitVec.ofNat 64 x ||| BitVec.ofNat 64 y = BitVec.ofNat 64 (x ||| y)
  rw [BitVec.ofNat_or]
theorem lN_and (x y : Nat) : lN x &&& lN y = lN (x &&& y) := by
  apply Int64.toBitVec_inj.mp
  show BitVec.ofNat 64 x &&& BitVec.ofNat 64 y = BitVec.ofNat 64 (x &&& y)
  rw [BitVec.ofNat_and]
theorem lN_inj {x y : Nat} (hx : x < 2 ^ 64) (hy : y < 2 ^ 64) (h : lN x = lN y) : x = y := by
  have h2 : BitVec.ofNat 64 x = BitVec.ofNat 64 y := congrArg Int64.toBitVec h
  have h3 := congrArg BitVec.toNat h2
  rwa [BitVec.toNat_ofNat, BitVec.toNat_ofNat, Nat.mod_eq_of_lt hx, Nat.mod_eq_of_lt hy] at h3
def bset (f : Nat → Bool) : Nat → Nat
  | 0 => 0
  | n + 1 => if f n = true then bset f n ||| 2 ^ n else bset f n
theorem bset_t {f : Nat → Bool} {n : Nat} (h : f n = true) : bset f (n + 1) = bset f n ||| 2 ^ n := by rw [bset, if_pos h]
theorem bset_f {f : Nat → Bool} {n : Nat} (h : f n = false) : bset f (n + 1) = bset f n := by rw [bset, if_neg (by rw [h]; decide)]
theorem bset_test (f : Nat → Bool) (n i : Nat) : (bset f n).testBit i = (decide (i < n) && f i) := by
  induction n with
  | zero => simp [bset]
  | succ n ih =>
    cases hf : f n with
    | true =>
      rw [bset_t hf, Nat.testBit_or, ih, Nat.testBit_two_pow]
      by_cases e : n = i
      · subst e; simp [hf]
      · have : (i < n + 1) ↔ i < n := by omega
        simp [e, this]
    | false =>
      rw [bset_f hf, ih]
      by_cases e : i = n
      · subst e; simp [hf]
      · have : (i < n + 1) ↔ i < n := by omega
        simp [this]
theorem bset_lt (f : Nat → Bool) (n : Nat) : bset f n < 2 ^ n := by
  induction n with
  | zero => show 0 < 1; decide
  | succ n ih =>
    rw [bset]
    split
    · exact Nat.or_lt_two_pow (by omega) (by omega)
    · omega
def cntf (f : Nat → Bool) : Nat → Nat
  | 0 => 0
  | n + 1 => cntf f n + (f n).toNat
theorem cntf_le (f : Nat → Bool) (n : Nat) : cntf f n ≤ n := by
  induction n with
  | zero => exact Nat.le_refl _
  | succ n ih => rw [cntf]; have := Bool.toNat_le (f n); omega
def wrn (β : Nat → Nat) (c : Nat) : Bool := decide (β c ≠ β (36 + c))
theorem wrn_t {β : Nat → Nat} {c : Nat} (h : β c ≠ β (36 + c)) : wrn β c = true := decide_eq_true h
theorem wrn_f {β : Nat → Nat} {c : Nat} (h : β c = β (36 + c)) : wrn β c = false := decide_eq_false (fun z => z h)
def wbs (β : Nat → Nat) : Nat := bset (wrn β) 36
theorem iw_1 {p q : Prop} [Decidable p] [Decidable q] (hp : p) (hq : q) : 1 = (decide p && decide q).toNat := by simp [hp, hq]
theorem iw_0 {p q : Prop} [Decidable p] [Decidable q] (h : p → q → False) : 0 = (decide p && decide q).toNat := by
  by_cases hp : p
  · by_cases hq : q
    · exact (h hp hq).elim
    · simp [hq]
  · simp [hp]
theorem bit_lN : ∀ c, c < 36 → (1 : Int64) <<< ((nI c).toInt64 &&& 63) = lN (2 ^ c) := by decide +kernel
theorem lgc1 : ∀ c, c < 36 → lg_cmp (lN (true.toNat * 2 ^ c)) 0 = 1 := by decide +kernel
def fnd (f : Nat → Bool) : Nat → Nat → Nat
  | 0, c => c
  | n + 1, c => if f c = true then c else fnd f n (c + 1)
theorem fnd_eq (f : Nat → Bool) : ∀ (n a c : Nat), a ≤ c → c < a + n → f c = true → (∀ i, a ≤ i → i < c → f i = false) → fnd f n a = c := by
  intro n
  induction n with
  | zero => intro a c h1 h2; omega
  | succ n ih =>
    intro a c h1 h2 h3 h4
    rw [fnd]
    by_cases e : f a = true
    · rw [if_pos e]
      rcases Nat.lt_or_ge a c with g | g
      · rw [h4 a (Nat.le_refl _) g] at e; cases e
      · omega
    · rw [if_neg e]
      have : a ≠ c := fun z => e (by rw [z]; exact h3)
      exact ih (a + 1) c (by omega) (by omega) h3 (fun i g1 g2 => h4 i (by omega) g2)
theorem fnd_no (f : Nat → Bool) : ∀ (n a : Nat), (∀ i, a ≤ i → i < a + n → f i = false) → fnd f n a = a + n := by
  intro n
  induction n with
  | zero => intro a _; rfl
  | succ n ih =>
    intro a h
    rw [fnd, if_neg (by rw [h a (Nat.le_refl _) (by omega)]; decide), ih (a + 1) (fun i g1 g2 => h i (by omega) (by omega))]
    omega
/-- a cell as the answer says it: 36 is none -/
def oc (m : Nat) : Int32 := if m < 36 then nI m else -1
def fsw (β : Nat → Nat) : Nat := fnd (wrn β) 36 0
def w4 (β : Nat → Nat) (c : Nat) : Nat := (decide (6 ≤ c) && wrn β (c - 6)).toNat + (decide (c < 30) && wrn β (c + 6)).toNat + (decide (0 < c % 6) && wrn β (c - 1)).toNat + (decide (c % 6 < 5) && wrn β (c + 1)).toNat
/-- the nearest, the first of like ones -/
def nst (f : Nat → Bool) (g : Nat → Nat) : Nat → Nat
  | 0 => 36
  | n + 1 => if f n = true ∧ (nst f g n = 36 ∨ g n < g (nst f g n)) then n else nst f g n
theorem nst_lt (f : Nat → Bool) (g : Nat → Nat) (n : Nat) : nst f g n < n ∨ nst f g n = 36 := by
  induction n with
  | zero => exact Or.inr rfl
  | succ n ih =>
    rw [nst]
    split
    · exact Or.inl (Nat.lt_succ_self _)
    · omega
theorem k6 {k : Nat} (h : k ≤ 5) : k = 0 ∨ k = 1 ∨ k = 2 ∨ k = 3 ∨ k = 4 ∨ k = 5 := by omega
def tkb (kind num v plan : Nat) : Nat := if kind = 1 then v / 2 else if kind = 2 then 2 * v else if kind = 3 then (if plan = 0 then v / 2 + 1 else v / 2) else if kind = 4 then (if plan = 9 then 1 else 2 * v) else if kind = 5 then v + num else v
def boyb (v c : Nat) : Nat := if c % 2 = 0 then v else min (v + 1) 9
def lyb (kind num v plan c : Nat) : Nat := if kind = 1 then boyb v c else if kind = 2 then plan else if kind = 3 then (if c / 6 = num then 0 else boyb v c) else if kind = 4 then plan else if kind = 5 then (if v = plan then v else 0) else v
section P20
variable {d k pc a i j c p b n : Nat} {v : Int} {L L' : mx_L} {st r : List Value} {P : mx_Pm} {h : mx_H} {s : mx_St} {Q : Option Value → mx_H → Prop} {x y : Int32} {β : Nat → Nat}
theorem n_lor (hc : mx_tb k pc = some (.lor, a, v)) (kk : wq d k (pc + 1) L (.long (lN (i ||| j)) :: r) h Q) : wq d k pc L (.long (lN j) :: .long (lN i) :: r) h Q := q_lor hc (by rw [lN_or]; exact kk)
theorem n_land (hc : mx_tb k pc = some (.land, a, v)) (kk : wq d k (pc + 1) L (.long (lN (i &&& j)) :: r) h Q) : wq d k pc L (.long (lN j) :: .long (lN i) :: r) h Q := q_land hc (by rw [lN_and]; exact kk)
theorem n_max {j0 : Nat} (hc : mx_tb k pc = some (.invokestatic j0, a, 20)) (h8 : mx_ok8 r = true) (hi : i < 2 ^ 31) (hj : j < 2 ^ 31) (kk : wq d k (pc + 3) L (.int (nI (max i j)) :: r) h Q) : wq d k pc L (.int (nI j) :: .int (nI i) :: r) h Q := q_max hc h8 (by
  have e : (if nI i < nI j then nI j else nI i) = nI (max i j) := by
    by_cases g : i < j
    · rw [if_pos (nI_lt g hj), Nat.max_eq_right (by omega)]
    · rw [if_neg (nI_nlt (by omega) hi), Nat.max_eq_left (by omega)]
  rw [e]; exact kk)
theorem n_min {j0 : Nat} (hc : mx_tb k pc = some (.invokestatic j0, a, 21)) (h8 : mx_ok8 r = true) (hi : i < 2 ^ 31) (hj : j < 2 ^ 31) (kk : wq d k (pc + 3) L (.int (nI (min i j)) :: r) h Q) : wq d k pc L (.int (nI j) :: .int (nI i) :: r) h Q := q_min hc h8 (by
  have e : (if nI j < nI i then nI j else nI i) = nI (min i j) := by
    by_cases g : j < i
    · rw [if_pos (nI_lt g hi), Nat.min_eq_right (by omega)]
    · rw [if_neg (nI_nlt (by omega) hj), Nat.min_eq_left (by omega)]
  rw [e]; exact kk)
theorem c_bitN (hc : c < 36) (hq : Q (some (.long (lN (2 ^ c)))) h) : wc d 128 [.int (nI c)] h Q := c_bit (by rw [bit_lN c hc]; exact hq)
theorem c_cellN (hc : c < 36) (hq : Q (some (.int 1)) h) : wc d 126 [.int (nI c)] h Q := c_isCell (fun _ _ _ => hq) (fun g => by
  rcases g with g | g
  · exact absurd g (nI_pos (by omega))
  · exact absurd (x_le g (by omega) (by omega)) (by omega))
theorem and_bit (m c : Nat) : m &&& 2 ^ c = (m.testBit c).toNat * 2 ^ c := by
  apply Nat.eq_of_testBit_eq
  intro i
  rw [Nat.testBit_and, Nat.testBit_two_pow]
  by_cases e : c = i
  · subst e
    cases m.testBit c <;> simp [Nat.testBit_two_pow]
  · cases m.testBit c <;> simp [Nat.testBit_two_pow, e]
theorem c_hasT {m : Nat} (hd : 1 ≤ d) (hc : c < 36) (hm : m < 2 ^ 36) (ht : m.testBit c = true → Q (some (.int 1)) h) (hf : m.testBit c = false → Q (some (.int 0)) h) : wc d 129 [.long (lN m), .int (nI c)] h Q := by
  have key : lg_cmp (lN (m &&& 2 ^ c)) 0 = if m.testBit c = true then 1 else 0 := by
    rw [and_bit]
    cases e : m.testBit c with
    | true => exact lgc1 c hc
    | false => rw [show (false.toNat * 2 ^ c) = 0 by simp]; decide
  refine wc.go [_, _, _] rfl ?_
  refine q_lload_n (pc := 0) rfl rfl ?_
  refine q_iload_n (pc := 1) rfl rfl ?_
  refine q_callS (pc := 2) _ (by decide) rfl rfl rfl rfl (Nat.le_of_ble_eq_true rfl) (by omega) _ rfl ?_
  refine c_bitN hc ?_
  first | refine n_land (pc := 5) rfl ?_ | refine q_land (pc := 5) rfl ?_
  refine q_lconst (pc := 6) rfl (0) (by decide) ?_
  refine q_lcmp (pc := 7) rfl ?_
  rw [key]
  refine q_ifeq (pc := 8) rfl (fun h8 => ?_) (fun h8 => ?_)
  · refine q_iconst (pc := 15) rfl (nI 0) (by decide) ?_
    refine q_iret (pc := 16) rfl (rfl) ?_
    first | (refine ht ?_; revert h8; cases m.testBit c <;> simp; done) | (refine hf ?_; revert h8; cases m.testBit c <;> simp; done)
  · refine q_iconst (pc := 11) rfl (nI 1) (by decide) ?_
    refine q_goto (pc := 12) rfl ?_
    refine q_iret (pc := 16) rfl (rfl) ?_
    first | (refine ht ?_; revert h8; cases m.testBit c <;> simp; done) | (refine hf ?_; revert h8; cases m.testBit c <;> simp; done)
theorem c_planOf (hd : 1 ≤ d) (H : HR P h s) (hl : 51 ≤ P.1) (hb : isB b) (hβ : BT s b β) (hc : c < 36) (hq : Q (some (.int (nI (β (36 + c))))) h) : wc d 4 [.ref b, .int (nI c)] h Q := by
  refine wc.go [_, _] rfl ?_
  refine q_iload_n (pc := 0) rfl rfl ?_
  refine q_callS (pc := 1) _ (by decide) rfl rfl rfl rfl (Nat.le_of_ble_eq_true rfl) (by omega) _ rfl ?_
  refine c_cellN hc ?_
  · refine q_ifeq (pc := 4) rfl (fun z => absurd z (by decide)) (fun _ => ?_)
    refine q_aload_n (pc := 7) rfl rfl rfl ?_
    refine q_getf (pc := 8) rfl (by exact HR.B H hl hb hβ) rfl rfl ?_
    refine q_iload_n (pc := 11) rfl rfl ?_
    refine n_ild (pc := 12) rfl (by first | exact HR.am H hl hb hβ | exact HR.ap H hl hb hβ) rfl (by omega) (by omega) ?_
    refine q_goto (pc := 13) rfl ?_
    refine q_iret (pc := 18) rfl (rfl) ?_
    exact hq
theorem c_planOfX (hd : 1 ≤ d) (H : HR P h s) (hl : 51 ≤ P.1) (hb : isB b) (hβ : BT s b β) (ht : ∀ j, j < 36 → x = nI j → Q (some (.int (nI (β (36 + j))))) h) (hf : (x < 0 ∨ nI 36 ≤ x) → Q (some (.int (-2))) h) : wc d 4 [.ref b, .int x] h Q := by
  refine wc.go [_, _] rfl ?_
  refine q_iload_n (pc := 0) rfl rfl ?_
  refine q_callS (pc := 1) _ (by decide) rfl rfl rfl rfl (Nat.le_of_ble_eq_true rfl) (by omega) _ rfl ?_
  refine c_isCell (fun j hj hx => ?_) (fun g => ?_)
  · refine q_ifeq (pc := 4) rfl (fun z => absurd z (by decide)) (fun _ => ?_)
    refine q_aload_n (pc := 7) rfl rfl rfl ?_
    refine q_getf (pc := 8) rfl (by exact HR.B H hl hb hβ) rfl rfl ?_
    refine q_iload_n (pc := 11) rfl rfl ?_
    refine n_ild (pc := 12) rfl (by first | exact HR.am H hl hb hβ | exact HR.ap H hl hb hβ) hx (by omega) (by omega) ?_
    refine q_goto (pc := 13) rfl ?_
    refine q_iret (pc := 18) rfl (rfl) ?_
    first | exact ht j hj hx | exact hf g
  · refine q_ifeq (pc := 4) rfl (fun _ => ?_) (fun z => absurd (by decide) z)
    refine q_bipush (pc := 16) rfl (-2) (by decide) ?_
    refine q_iret (pc := 18) rfl (rfl) ?_
    first | exact ht j hj hx | exact hf g
theorem c_isWrong (hd : 1 ≤ d) (H : HR P h s) (hl : 51 ≤ P.1) (hb : isB b) (hβ : BT s b β) (hc : c < 36) (ht : wrn β c = true → Q (some (.int 1)) h) (hf : wrn β c = false → Q (some (.int 0)) h) (hk : ∀ i, i < 72 → β i ≤ 9) : wc d 5 [.ref b, .int (nI c)] h Q := by
  have g1 := hk c (by omega)
  have g2 := hk (36 + c) (by omega)
  refine wc.go [_, _] rfl ?_
  refine q_iload_n (pc := 0) rfl rfl ?_
  refine q_callS (pc := 1) _ (by decide) rfl rfl rfl rfl (Nat.le_of_ble_eq_true rfl) (by omega) _ rfl ?_
  refine c_cellN hc ?_
  · refine q_ifeq (pc := 4) rfl (fun z => absurd z (by decide)) (fun _ => ?_)
    refine q_aload_n (pc := 7) rfl rfl rfl ?_
    refine q_getf (pc := 8) rfl (by exact HR.B H hl hb hβ) rfl rfl ?_
    refine q_iload_n (pc := 11) rfl rfl ?_
    refine n_ild (pc := 12) rfl (by first | exact HR.am H hl hb hβ | exact HR.ap H hl hb hβ) rfl (by omega) (by omega) ?_
    refine q_aload_n (pc := 13) rfl rfl rfl ?_
    refine q_getf (pc := 14) rfl (by exact HR.B H hl hb hβ) rfl rfl ?_
    refine q_iload_n (pc := 17) rfl rfl ?_
    refine n_ild (pc := 18) rfl (by first | exact HR.am H hl hb hβ | exact HR.ap H hl hb hβ) rfl (by omega) (by omega) ?_
    first | refine n_icmpeq (pc := 19) rfl (by omega) (by omega) (fun h19 => ?_) (fun h19 => ?_) | refine q_icmpeq (pc := 19) rfl (fun h19 => ?_) (fun h19 => ?_)
    · refine q_iconst (pc := 26) rfl (nI 0) (by decide) ?_
      refine q_iret (pc := 27) rfl (rfl) ?_
      first | exact ht (wrn_t h19) | exact hf (wrn_f h19)
    · refine q_iconst (pc := 22) rfl (nI 1) (by decide) ?_
      refine q_goto (pc := 23) rfl ?_
      refine q_iret (pc := 27) rfl (rfl) ?_
      first | exact ht (wrn_t h19) | exact hf (wrn_f h19)
theorem c_wbitsL (hd : 1 ≤ d) (H : HR P h s) (hl : 51 ≤ P.1) (hb : isB b) (hβ : BT s b β) (hk : ∀ i, i < 72 → β i ≤ 9) (hq : Q (some (.long (lN (wbs β)))) h) (c : Nat) (hc : c ≤ 36) : wq d 7 4 [some (.ref b), some (.long (lN (bset (wrn β) c))), none, some (.int (nI c))] [] h Q := by
  refine q_iload_n (pc := 4) rfl rfl ?_
  refine q_bipush (pc := 5) rfl (nI 36) (by decide) ?_
  first | refine n_icmpge (pc := 7) rfl (by omega) (by omega) (fun h7 => ?_) (fun h7 => ?_) | refine q_icmpge (pc := 7) rfl (fun h7 => ?_) (fun h7 => ?_)
  · obtain rfl : c = 36 := by omega
    refine q_lload_n (pc := 38) rfl rfl ?_
    refine q_lret (pc := 39) rfl rfl ?_
    exact hq
  · have g1 := hk c (by omega)
    have g2 := hk (36 + c) (by omega)
    refine q_aload_n (pc := 10) rfl rfl rfl ?_
    refine q_getf (pc := 11) rfl (by exact HR.B H hl hb hβ) rfl rfl ?_
    refine q_iload_n (pc := 14) rfl rfl ?_
    refine n_ild (pc := 15) rfl (by first | exact HR.am H hl hb hβ | exact HR.ap H hl hb hβ) rfl (by omega) (by omega) ?_
    refine q_aload_n (pc := 16) rfl rfl rfl ?_
    refine q_getf (pc := 17) rfl (by exact HR.B H hl hb hβ) rfl rfl ?_
    refine q_iload_n (pc := 20) rfl rfl ?_
    refine n_ild (pc := 21) rfl (by first | exact HR.am H hl hb hβ | exact HR.ap H hl hb hβ) rfl (by omega) (by omega) ?_
    first | refine n_icmpeq (pc := 22) rfl (by omega) (by omega) (fun h22 => ?_) (fun h22 => ?_) | refine q_icmpeq (pc := 22) rfl (fun h22 => ?_) (fun h22 => ?_)
    · rw [← bset_f (wrn_f h22)]
      first | refine n_iinc (pc := 32) rfl [_, _, _, _] 1 (by decide) rfl rfl ?_ | refine q_iinc (pc := 32) [_, _, _, _] (1) rfl rfl (by decide) rfl ?_
      refine q_goto (pc := 35) rfl ?_
      exact c_wbitsL hd H hl hb hβ hk hq (c + 1) (by omega)
    · 
      refine q_lload_n (pc := 25) rfl rfl ?_
      refine q_iload_n (pc := 26) rfl rfl ?_
      refine q_callS (pc := 27) _ (by decide) rfl rfl rfl rfl (Nat.le_of_ble_eq_true rfl) (by omega) _ rfl ?_
      refine c_bitN h7 ?_
      first | refine n_lor (pc := 30) rfl ?_ | refine q_lor (pc := 30) rfl ?_
      rw [← bset_t (wrn_t h22)]
      refine q_lstore_n (pc := 31) [_, _, _, _] rfl (Nat.le_of_ble_eq_true rfl) rfl ?_
      first | refine n_iinc (pc := 32) rfl [_, _, _, _] 1 (by decide) rfl rfl ?_ | refine q_iinc (pc := 32) [_, _, _, _] (1) rfl rfl (by decide) rfl ?_
      refine q_goto (pc := 35) rfl ?_
      exact c_wbitsL hd H hl hb hβ hk hq (c + 1) (by omega)
termination_by 36 - c
theorem c_wbits (hd : 1 ≤ d) (H : HR P h s) (hl : 51 ≤ P.1) (hb : isB b) (hβ : BT s b β) (hk : ∀ i, i < 72 → β i ≤ 9) (hq : Q (some (.long (lN (wbs β)))) h) : wc d 7 [.ref b] h Q := by
  refine wc.go [_, _, _, _] rfl ?_
  refine q_lconst (pc := 0) rfl (0) (by decide) ?_
  refine q_lstore_n (pc := 1) [_, _, _, _] rfl (Nat.le_of_ble_eq_true rfl) rfl ?_
  refine q_iconst (pc := 2) rfl (nI 0) (by decide) ?_
  refine q_istore_n (pc := 3) [_, _, _, _] rfl (Nat.le_of_ble_eq_true rfl) rfl ?_
  exact c_wbitsL hd H hl hb hβ hk hq 0 (by omega)
theorem c_firstWrongL (H : HR P h s) (hl : 51 ≤ P.1) (hb : isB b) (hβ : BT s b β) (hk : ∀ i, i < 72 → β i ≤ 9) (hq : Q (some (.int (oc (fsw β)))) h) (c : Nat) (hc : c ≤ 36) (hf : ∀ i, i < c → wrn β i = false) : wq d 8 2 [some (.ref b), some (.int (nI c))] [] h Q := by
  refine q_iload_n (pc := 2) rfl rfl ?_
  refine q_bipush (pc := 3) rfl (nI 36) (by decide) ?_
  first | refine n_icmpge (pc := 5) rfl (by omega) (by omega) (fun h5 => ?_) (fun h5 => ?_) | refine q_icmpge (pc := 5) rfl (fun h5 => ?_) (fun h5 => ?_)
  · obtain rfl : c = 36 := by omega
    refine q_iconst (pc := 31) rfl (-1) (by decide) ?_
    refine q_iret (pc := 32) rfl (rfl) ?_
    unfold fsw at hq
    first | (rw [fnd_no _ _ _ (fun i _ g => hf i (by omega))] at hq; exact hq) | (rw [fnd_eq _ 36 0 c (by omega) (by omega) (wrn_t h20) (fun i _ g => hf i g), oc, if_pos h5] at hq; exact hq)
  · have g1 := hk c (by omega)
    have g2 := hk (36 + c) (by omega)
    refine q_aload_n (pc := 8) rfl rfl rfl ?_
    refine q_getf (pc := 9) rfl (by exact HR.B H hl hb hβ) rfl rfl ?_
    refine q_iload_n (pc := 12) rfl rfl ?_
    refine n_ild (pc := 13) rfl (by first | exact HR.am H hl hb hβ | exact HR.ap H hl hb hβ) rfl (by omega) (by omega) ?_
    refine q_aload_n (pc := 14) rfl rfl rfl ?_
    refine q_getf (pc := 15) rfl (by exact HR.B H hl hb hβ) rfl rfl ?_
    refine q_iload_n (pc := 18) rfl rfl ?_
    refine n_ild (pc := 19) rfl (by first | exact HR.am H hl hb hβ | exact HR.ap H hl hb hβ) rfl (by omega) (by omega) ?_
    first | refine n_icmpeq (pc := 20) rfl (by omega) (by omega) (fun h20 => ?_) (fun h20 => ?_) | refine q_icmpeq (pc := 20) rfl (fun h20 => ?_) (fun h20 => ?_)
    · first | refine n_iinc (pc := 25) rfl [_, _] 1 (by decide) rfl rfl ?_ | refine q_iinc (pc := 25) [_, _] (1) rfl rfl (by decide) rfl ?_
      refine q_goto (pc := 28) rfl ?_
      exact c_firstWrongL H hl hb hβ hk hq (c + 1) (by omega) (lt_s hf (wrn_f h20))
    · refine q_iload_n (pc := 23) rfl rfl ?_
      refine q_iret (pc := 24) rfl (rfl) ?_
      unfold fsw at hq
      first | (rw [fnd_no _ _ _ (fun i _ g => hf i (by omega))] at hq; exact hq) | (rw [fnd_eq _ 36 0 c (by omega) (by omega) (wrn_t h20) (fun i _ g => hf i g), oc, if_pos h5] at hq; exact hq)
termination_by 36 - c
theorem c_firstWrong (H : HR P h s) (hl : 51 ≤ P.1) (hb : isB b) (hβ : BT s b β) (hk : ∀ i, i < 72 → β i ≤ 9) (hq : Q (some (.int (oc (fsw β)))) h) : wc d 8 [.ref b] h Q := by
  refine wc.go [_, _] rfl ?_
  refine q_iconst (pc := 0) rfl (nI 0) (by decide) ?_
  refine q_istore_n (pc := 1) [_, _] rfl (Nat.le_of_ble_eq_true rfl) rfl ?_
  exact c_firstWrongL H hl hb hβ hk hq 0 (by omega) (fun i hi => by omega)
theorem c_wrongBeside (H : HR P h s) (hl : 51 ≤ P.1) (hb : isB b) (hβ : BT s b β) (hk : ∀ i, i < 72 → β i ≤ 9) (hc : c < 36) (hq : Q (some (.int (nI (w4 β c)))) h) : wc d 9 [.ref b, .int (nI c)] h Q := by
  have g1 := fun (z : Nat) (hz : z < 72) => hk z hz
  have k1 := hk (c - 6) (by omega)
  have k2 := hk (36 + (c - 6)) (by omega)
  have k3 := hk (c - 1) (by omega)
  have k4 := hk (36 + (c - 1)) (by omega)
  have k5 := hk (c + 1) (by omega)
  have k7 := hk (c + 6) (by omega)
  have k8 : c < 30 → β (36 + (c + 6)) ≤ 9 := fun z => hk _ (by omega)
  have k9 : c < 35 → β (36 + (c + 1)) ≤ 9 := fun z => hk _ (by omega)
  have t4 : ∀ z n, z = (decide (c % 6 < 5) && wrn β (c + 1)).toNat → n = (decide (6 ≤ c) && wrn β (c - 6)).toNat + (decide (c < 30) && wrn β (c + 6)).toNat + (decide (0 < c % 6) && wrn β (c - 1)).toNat → wq d 9 146 [some (.ref b), some (.int (nI c)), some (.int (nI (c % 6))), some (.int (nI n))] [.int (nI z), .int (nI n)] h Q := by
    intro z n hz hn
    first | refine n_iadd (pc := 146) rfl ?_ | refine q_iadd (pc := 146) rfl ?_
    refine q_istore_n (pc := 147) [_, _, _, _] rfl (Nat.le_of_ble_eq_true rfl) rfl ?_
    refine q_iload_n (pc := 148) rfl rfl ?_
    refine q_iret (pc := 149) rfl (rfl) ?_
    rw [hz, hn]; exact hq
  have t3 : ∀ z n, z = (decide (0 < c % 6) && wrn β (c - 1)).toNat → n = (decide (6 ≤ c) && wrn β (c - 6)).toNat + (decide (c < 30) && wrn β (c + 6)).toNat → wq d 9 114 [some (.ref b), some (.int (nI c)), some (.int (nI (c % 6))), some (.int (nI n))] [.int (nI z), .int (nI n)] h Q := by
    intro z n hz hn
    first | refine n_iadd (pc := 114) rfl ?_ | refine q_iadd (pc := 114) rfl ?_
    refine q_istore_n (pc := 115) [_, _, _, _] rfl (Nat.le_of_ble_eq_true rfl) rfl ?_
    refine q_iload_n (pc := 116) rfl rfl ?_
    refine q_iload_n (pc := 117) rfl rfl ?_
    refine q_iconst (pc := 118) rfl (nI 5) (by decide) ?_
    first | refine n_icmpge (pc := 119) rfl (by omega) (by omega) (fun h119 => ?_) (fun h119 => ?_) | refine q_icmpge (pc := 119) rfl (fun h119 => ?_) (fun h119 => ?_)
    · refine q_iconst (pc := 145) rfl (nI 0) (by decide) ?_
      first | exact t4 _ _ (iw_1 (by omega) (by omega)) (by rw [hz, hn]) | exact t4 _ _ (iw_0 (fun _ _ => by omega)) (by rw [hz, hn])
    · have k9' := k9 (by omega)
      refine q_aload_n (pc := 122) rfl rfl rfl ?_
      refine q_getf (pc := 123) rfl (by exact HR.B H hl hb hβ) rfl rfl ?_
      refine q_iload_n (pc := 126) rfl rfl ?_
      refine q_iconst (pc := 127) rfl (nI 1) (by decide) ?_
      first | refine n_iadd (pc := 128) rfl ?_ | refine q_iadd (pc := 128) rfl ?_
      refine n_ild (pc := 129) rfl (by first | exact HR.am H hl hb hβ | exact HR.ap H hl hb hβ) rfl (by omega) (by omega) ?_
      refine q_aload_n (pc := 130) rfl rfl rfl ?_
      refine q_getf (pc := 131) rfl (by exact HR.B H hl hb hβ) rfl rfl ?_
      refine q_iload_n (pc := 134) rfl rfl ?_
      refine q_iconst (pc := 135) rfl (nI 1) (by decide) ?_
      first | refine n_iadd (pc := 136) rfl ?_ | refine q_iadd (pc := 136) rfl ?_
      refine n_ild (pc := 137) rfl (by first | exact HR.am H hl hb hβ | exact HR.ap H hl hb hβ) rfl (by omega) (by omega) ?_
      first | refine n_icmpeq (pc := 138) rfl (by omega) (by omega) (fun h138 => ?_) (fun h138 => ?_) | refine q_icmpeq (pc := 138) rfl (fun h138 => ?_) (fun h138 => ?_)
      · refine q_iconst (pc := 145) rfl (nI 0) (by decide) ?_
        first | exact t4 _ _ (iw_1 (by omega) (by omega)) (by rw [hz, hn]) | exact t4 _ _ (iw_0 (fun _ _ => by omega)) (by rw [hz, hn])
      · refine q_iconst (pc := 141) rfl (nI 1) (by decide) ?_
        refine q_goto (pc := 142) rfl ?_
        first | exact t4 _ _ (iw_1 (by omega) (by omega)) (by rw [hz, hn]) | exact t4 _ _ (iw_0 (fun _ _ => by omega)) (by rw [hz, hn])
  have t2 : ∀ z n, z = (decide (c < 30) && wrn β (c + 6)).toNat → n = (decide (6 ≤ c) && wrn β (c - 6)).toNat → wq d 9 83 [some (.ref b), some (.int (nI c)), some (.int (nI (c % 6))), some (.int (nI n))] [.int (nI z), .int (nI n)] h Q := by
    intro z n hz hn
    first | refine n_iadd (pc := 83) rfl ?_ | refine q_iadd (pc := 83) rfl ?_
    refine q_istore_n (pc := 84) [_, _, _, _] rfl (Nat.le_of_ble_eq_true rfl) rfl ?_
    refine q_iload_n (pc := 85) rfl rfl ?_
    refine q_iload_n (pc := 86) rfl rfl ?_
    first | refine n_ifle (pc := 87) rfl (by omega) (fun h87 => ?_) (fun h87 => ?_) | refine q_ifle (pc := 87) rfl (fun h87 => ?_) (fun h87 => ?_)
    · refine q_iconst (pc := 113) rfl (nI 0) (by decide) ?_
      first | exact t3 _ _ (iw_1 (by omega) (by omega)) (by rw [hz, hn]) | exact t3 _ _ (iw_0 (fun _ _ => by omega)) (by rw [hz, hn])
    · refine q_aload_n (pc := 90) rfl rfl rfl ?_
      refine q_getf (pc := 91) rfl (by exact HR.B H hl hb hβ) rfl rfl ?_
      refine q_iload_n (pc := 94) rfl rfl ?_
      refine q_iconst (pc := 95) rfl (nI 1) (by decide) ?_
      first | refine n_isub (pc := 96) rfl (by omega) ?_ | refine q_isub (pc := 96) rfl ?_
      refine n_ild (pc := 97) rfl (by first | exact HR.am H hl hb hβ | exact HR.ap H hl hb hβ) rfl (by omega) (by omega) ?_
      refine q_aload_n (pc := 98) rfl rfl rfl ?_
      refine q_getf (pc := 99) rfl (by exact HR.B H hl hb hβ) rfl rfl ?_
      refine q_iload_n (pc := 102) rfl rfl ?_
      refine q_iconst (pc := 103) rfl (nI 1) (by decide) ?_
      first | refine n_isub (pc := 104) rfl (by omega) ?_ | refine q_isub (pc := 104) rfl ?_
      refine n_ild (pc := 105) rfl (by first | exact HR.am H hl hb hβ | exact HR.ap H hl hb hβ) rfl (by omega) (by omega) ?_
      first | refine n_icmpeq (pc := 106) rfl (by omega) (by omega) (fun h106 => ?_) (fun h106 => ?_) | refine q_icmpeq (pc := 106) rfl (fun h106 => ?_) (fun h106 => ?_)
      · refine q_iconst (pc := 113) rfl (nI 0) (by decide) ?_
        first | exact t3 _ _ (iw_1 (by omega) (by omega)) (by rw [hz, hn]) | exact t3 _ _ (iw_0 (fun _ _ => by omega)) (by rw [hz, hn])
      · refine q_iconst (pc := 109) rfl (nI 1) (by decide) ?_
        refine q_goto (pc := 110) rfl ?_
        first | exact t3 _ _ (iw_1 (by omega) (by omega)) (by rw [hz, hn]) | exact t3 _ _ (iw_0 (fun _ _ => by omega)) (by rw [hz, hn])
  have t1 : ∀ z, z = (decide (6 ≤ c) && wrn β (c - 6)).toNat → wq d 9 49 [some (.ref b), some (.int (nI c)), some (.int (nI (c % 6))), none] [.int (nI z)] h Q := by
    intro z hz
    refine q_istore_n (pc := 49) [_, _, _, _] rfl (Nat.le_of_ble_eq_true rfl) rfl ?_
    refine q_iload_n (pc := 50) rfl rfl ?_
    refine q_iload_n (pc := 51) rfl rfl ?_
    refine q_bipush (pc := 52) rfl (nI 30) (by decide) ?_
    first | refine n_icmpge (pc := 54) rfl (by omega) (by omega) (fun h54 => ?_) (fun h54 => ?_) | refine q_icmpge (pc := 54) rfl (fun h54 => ?_) (fun h54 => ?_)
    · refine q_iconst (pc := 82) rfl (nI 0) (by decide) ?_
      first | exact t2 _ _ (iw_1 (by omega) (by omega)) hz | exact t2 _ _ (iw_0 (fun _ _ => by omega)) hz
    · have k8' := k8 (by omega)
      refine q_aload_n (pc := 57) rfl rfl rfl ?_
      refine q_getf (pc := 58) rfl (by exact HR.B H hl hb hβ) rfl rfl ?_
      refine q_iload_n (pc := 61) rfl rfl ?_
      refine q_bipush (pc := 62) rfl (nI 6) (by decide) ?_
      first | refine n_iadd (pc := 64) rfl ?_ | refine q_iadd (pc := 64) rfl ?_
      refine n_ild (pc := 65) rfl (by first | exact HR.am H hl hb hβ | exact HR.ap H hl hb hβ) rfl (by omega) (by omega) ?_
      refine q_aload_n (pc := 66) rfl rfl rfl ?_
      refine q_getf (pc := 67) rfl (by exact HR.B H hl hb hβ) rfl rfl ?_
      refine q_iload_n (pc := 70) rfl rfl ?_
      refine q_bipush (pc := 71) rfl (nI 6) (by decide) ?_
      first | refine n_iadd (pc := 73) rfl ?_ | refine q_iadd (pc := 73) rfl ?_
      refine n_ild (pc := 74) rfl (by first | exact HR.am H hl hb hβ | exact HR.ap H hl hb hβ) rfl (by omega) (by omega) ?_
      first | refine n_icmpeq (pc := 75) rfl (by omega) (by omega) (fun h75 => ?_) (fun h75 => ?_) | refine q_icmpeq (pc := 75) rfl (fun h75 => ?_) (fun h75 => ?_)
      · refine q_iconst (pc := 82) rfl (nI 0) (by decide) ?_
        first | exact t2 _ _ (iw_1 (by omega) (by omega)) hz | exact t2 _ _ (iw_0 (fun _ _ => by omega)) hz
      · refine q_iconst (pc := 78) rfl (nI 1) (by decide) ?_
        refine q_goto (pc := 79) rfl ?_
        first | exact t2 _ _ (iw_1 (by omega) (by omega)) hz | exact t2 _ _ (iw_0 (fun _ _ => by omega)) hz
  refine wc.go [_, _, _, _] rfl ?_
  refine q_iload_n (pc := 0) rfl rfl ?_
  refine q_iflt (pc := 1) rfl (fun h1 => ?_) (fun h1 => ?_)
  · first | (exfalso; omega) | exact absurd h1 (nI_pos (by omega)) | exact absurd (nI_pos' (by omega)) h1
  · refine q_iload_n (pc := 4) rfl rfl ?_
    refine q_bipush (pc := 5) rfl (nI 36) (by decide) ?_
    first | refine n_icmplt (pc := 7) rfl (by omega) (by omega) (fun h7 => ?_) (fun h7 => ?_) | refine q_icmplt (pc := 7) rfl (fun h7 => ?_) (fun h7 => ?_)
    · refine q_iload_n (pc := 12) rfl rfl ?_
      refine q_bipush (pc := 13) rfl (nI 6) (by decide) ?_
      first | refine n_irem (pc := 15) rfl (by omega) (by omega) (by omega) ?_ | refine q_irem (pc := 15) rfl (by decide) ?_
      refine q_istore_n (pc := 16) [_, _, _, _] rfl (Nat.le_of_ble_eq_true rfl) rfl ?_
      refine q_iload_n (pc := 17) rfl rfl ?_
      refine q_bipush (pc := 18) rfl (nI 6) (by decide) ?_
      first | refine n_icmplt (pc := 20) rfl (by omega) (by omega) (fun h20 => ?_) (fun h20 => ?_) | refine q_icmplt (pc := 20) rfl (fun h20 => ?_) (fun h20 => ?_)
      · refine q_iconst (pc := 48) rfl (nI 0) (by decide) ?_
        first | exact t1 _ (iw_1 (by omega) (by omega)) | exact t1 _ (iw_0 (fun _ _ => by omega))
      · refine q_aload_n (pc := 23) rfl rfl rfl ?_
        refine q_getf (pc := 24) rfl (by exact HR.B H hl hb hβ) rfl rfl ?_
        refine q_iload_n (pc := 27) rfl rfl ?_
        refine q_bipush (pc := 28) rfl (nI 6) (by decide) ?_
        first | refine n_isub (pc := 30) rfl (by omega) ?_ | refine q_isub (pc := 30) rfl ?_
        refine n_ild (pc := 31) rfl (by first | exact HR.am H hl hb hβ | exact HR.ap H hl hb hβ) rfl (by omega) (by omega) ?_
        refine q_aload_n (pc := 32) rfl rfl rfl ?_
        refine q_getf (pc := 33) rfl (by exact HR.B H hl hb hβ) rfl rfl ?_
        refine q_iload_n (pc := 36) rfl rfl ?_
        refine q_bipush (pc := 37) rfl (nI 6) (by decide) ?_
        first | refine n_isub (pc := 39) rfl (by omega) ?_ | refine q_isub (pc := 39) rfl ?_
        refine n_ild (pc := 40) rfl (by first | exact HR.am H hl hb hβ | exact HR.ap H hl hb hβ) rfl (by omega) (by omega) ?_
        first | refine n_icmpeq (pc := 41) rfl (by omega) (by omega) (fun h41 => ?_) (fun h41 => ?_) | refine q_icmpeq (pc := 41) rfl (fun h41 => ?_) (fun h41 => ?_)
        · refine q_iconst (pc := 48) rfl (nI 0) (by decide) ?_
          first | exact t1 _ (iw_1 (by omega) (by omega)) | exact t1 _ (iw_0 (fun _ _ => by omega))
        · refine q_iconst (pc := 44) rfl (nI 1) (by decide) ?_
          refine q_goto (pc := 45) rfl ?_
          first | exact t1 _ (iw_1 (by omega) (by omega)) | exact t1 _ (iw_0 (fun _ _ => by omega))
    · first | (exfalso; omega) | exact absurd h7 (nI_pos (by omega)) | exact absurd (nI_pos' (by omega)) h7
theorem c_member (H : HR P h s) (hl : 51 ≤ P.1) (hb : isB b) (hβ : BT s b β) (ht : ∀ j, j < 4 → j < β 88 → x = nI j → Q (some (.ref (b + 4 + j))) h) (hf : (x < 0 ∨ nI (β 88) ≤ x) → Q (some .null) h) (h4 : β 88 ≤ 4) : wc d 2 [.ref b, .int x] h Q := by
  refine wc.go [_, _] rfl ?_
  refine q_iload_n (pc := 0) rfl rfl ?_
  refine q_iflt (pc := 1) rfl (fun h1 => ?_) (fun h1 => ?_)
  · have g : x < 0 ∨ nI (β 88) ≤ x := Or.inl h1
    refine q_null (pc := 26) rfl ?_
    first | (refine q_aret (pc := 27) rfl rfl ?_; exact ht j (by omega) (by omega) rfl) | (refine q_aretN (pc := 27) rfl rfl ?_; exact hf g)
  · 
    refine q_iload_n (pc := 4) rfl rfl ?_
    refine q_aload_n (pc := 5) rfl rfl rfl ?_
    refine q_getf (pc := 6) rfl (by exact HR.B H hl hb hβ) rfl rfl ?_
    first | refine n_icmpge (pc := 9) rfl (by omega) (by omega) (fun h9 => ?_) (fun h9 => ?_) | refine q_icmpge (pc := 9) rfl (fun h9 => ?_) (fun h9 => ?_)
    · have g : x < 0 ∨ nI (β 88) ≤ x := Or.inr h9
      refine q_null (pc := 26) rfl ?_
      first | (refine q_aret (pc := 27) rfl rfl ?_; exact ht j (by omega) (by omega) rfl) | (refine q_aretN (pc := 27) rfl rfl ?_; exact hf g)
    · obtain ⟨j, hj, rfl⟩ := x_big (by omega) h1 h9
      refine q_iload_n (pc := 12) rfl rfl ?_
      refine q_iconst (pc := 13) rfl (nI 4) (by decide) ?_
      first | refine n_icmpge (pc := 14) rfl (by omega) (by omega) (fun h14 => ?_) (fun h14 => ?_) | refine q_icmpge (pc := 14) rfl (fun h14 => ?_) (fun h14 => ?_)
      · first | (exfalso; omega) | exact absurd h14 (nI_pos (by omega)) | exact absurd (nI_pos' (by omega)) h14
      · refine q_aload_n (pc := 17) rfl rfl rfl ?_
        refine q_getf (pc := 18) rfl (by exact HR.B H hl hb hβ) rfl rfl ?_
        refine q_iload_n (pc := 21) rfl rfl ?_
        refine q_aaload (pc := 22) rfl (by exact HR.ac H hl hb) (by decide) (by rcases hb with rfl | rfl | rfl <;> decide) (by exact x_vin (n := 4) (by omega) (by decide)) ?_
        rw [x_cl (by omega), if_pos (by omega)]
        refine q_goto (pc := 23) rfl ?_
        first | (refine q_aret (pc := 27) rfl rfl ?_; exact ht j (by omega) (by omega) rfl) | (refine q_aretN (pc := 27) rfl rfl ?_; exact hf g)
theorem c_takesBy (H : HR P h s) (hl : 51 ≤ P.1) (hb : isB b) (hβ : BT s b β) (hp : p < 4) (hk : bok β n) {v plan : Nat} (hv : v ≤ 99) (hpl : plan ≤ 9) (hq : Q (some (.int (nI (tkb (β (72 + 4 * p)) (β (72 + 4 * p + 1)) v plan)))) h) : wc d 16 [.ref (b + 4 + p), .int (nI v), .int (nI plan)] h Q := by
  obtain ⟨-, hk, -⟩ := hk
  obtain ⟨hk1, hk2, -⟩ := hk p hp
  have hO := HR.O H hl hb hβ hp
  unfold tkb at hq
  refine wc.go [_, _, _] rfl ?_
  refine q_aload_n (pc := 0) rfl rfl rfl ?_
  refine q_getf (pc := 1) rfl (by exact hO) rfl rfl ?_
  rcases k6 hk1 with e | e | e | e | e | e <;> rw [e] at hq hO ⊢
  · refine q_tsw (pc := 4) (t := 85) rfl (by decide) ?_
    refine q_iload_n (pc := 85) rfl rfl ?_
    refine q_iret (pc := 86) rfl (rfl) ?_
    first | exact hq | (revert hq; (repeat' split) <;> intro hq <;> first | exact hq | (exfalso; omega))
  · refine q_tsw (pc := 4) (t := 40) rfl (by decide) ?_
    refine q_iload_n (pc := 40) rfl rfl ?_
    refine q_iconst (pc := 41) rfl (nI 2) (by decide) ?_
    first | refine n_idiv (pc := 42) rfl (by omega) (by omega) (by omega) ?_ | refine q_idiv (pc := 42) rfl (by decide) ?_
    refine q_iret (pc := 43) rfl (rfl) ?_
    first | exact hq | (revert hq; (repeat' split) <;> intro hq <;> first | exact hq | (exfalso; omega))
  · refine q_tsw (pc := 4) (t := 44) rfl (by decide) ?_
    refine q_iconst (pc := 44) rfl (nI 2) (by decide) ?_
    refine q_iload_n (pc := 45) rfl rfl ?_
    first | refine n_imul (pc := 46) rfl ?_ | refine q_imul (pc := 46) rfl ?_
    refine q_iret (pc := 47) rfl (rfl) ?_
    first | exact hq | (revert hq; (repeat' split) <;> intro hq <;> first | exact hq | (exfalso; omega))
  · refine q_tsw (pc := 4) (t := 48) rfl (by decide) ?_
    refine q_iload_n (pc := 48) rfl rfl ?_
    first | refine n_ifne (pc := 49) rfl (by omega) (fun h49 => ?_) (fun h49 => ?_) | refine q_ifne (pc := 49) rfl (fun h49 => ?_) (fun h49 => ?_)
    · refine q_iload_n (pc := 60) rfl rfl ?_
      refine q_iconst (pc := 61) rfl (nI 2) (by decide) ?_
      first | refine n_idiv (pc := 62) rfl (by omega) (by omega) (by omega) ?_ | refine q_idiv (pc := 62) rfl (by decide) ?_
      refine q_iret (pc := 63) rfl (rfl) ?_
      first | exact hq | (revert hq; (repeat' split) <;> intro hq <;> first | exact hq | (exfalso; omega))
    · refine q_iload_n (pc := 52) rfl rfl ?_
      refine q_iconst (pc := 53) rfl (nI 2) (by decide) ?_
      first | refine n_idiv (pc := 54) rfl (by omega) (by omega) (by omega) ?_ | refine q_idiv (pc := 54) rfl (by decide) ?_
      refine q_iconst (pc := 55) rfl (nI 1) (by decide) ?_
      first | refine n_iadd (pc := 56) rfl ?_ | refine q_iadd (pc := 56) rfl ?_
      refine q_goto (pc := 57) rfl ?_
      refine q_iret (pc := 63) rfl (rfl) ?_
      first | exact hq | (revert hq; (repeat' split) <;> intro hq <;> first | exact hq | (exfalso; omega))
  · refine q_tsw (pc := 4) (t := 64) rfl (by decide) ?_
    refine q_iload_n (pc := 64) rfl rfl ?_
    refine q_bipush (pc := 65) rfl (nI 9) (by decide) ?_
    first | refine n_icmpne (pc := 67) rfl (by omega) (by omega) (fun h67 => ?_) (fun h67 => ?_) | refine q_icmpne (pc := 67) rfl (fun h67 => ?_) (fun h67 => ?_)
    · refine q_iconst (pc := 74) rfl (nI 2) (by decide) ?_
      refine q_iload_n (pc := 75) rfl rfl ?_
      first | refine n_imul (pc := 76) rfl ?_ | refine q_imul (pc := 76) rfl ?_
      refine q_iret (pc := 77) rfl (rfl) ?_
      first | exact hq | (revert hq; (repeat' split) <;> intro hq <;> first | exact hq | (exfalso; omega))
    · refine q_iconst (pc := 70) rfl (nI 1) (by decide) ?_
      refine q_goto (pc := 71) rfl ?_
      refine q_iret (pc := 77) rfl (rfl) ?_
      first | exact hq | (revert hq; (repeat' split) <;> intro hq <;> first | exact hq | (exfalso; omega))
  · refine q_tsw (pc := 4) (t := 78) rfl (by decide) ?_
    refine q_iload_n (pc := 78) rfl rfl ?_
    refine q_aload_n (pc := 79) rfl rfl rfl ?_
    refine q_getf (pc := 80) rfl (by exact hO) rfl rfl ?_
    first | refine n_iadd (pc := 83) rfl ?_ | refine q_iadd (pc := 83) rfl ?_
    refine q_iret (pc := 84) rfl (rfl) ?_
    first | exact hq | (revert hq; (repeat' split) <;> intro hq <;> first | exact hq | (exfalso; omega))
theorem c_laysBy (H : HR P h s) (hl : 51 ≤ P.1) (hb : isB b) (hβ : BT s b β) (hp : p < 4) (hk : bok β n) {v plan : Nat} (hv : v ≤ 9) (hpl : plan ≤ 9) (hc : c < 36) (hq : Q (some (.int (nI (lyb (β (72 + 4 * p)) (β (72 + 4 * p + 1)) v plan c)))) h) : wc d 17 [.ref (b + 4 + p), .int (nI v), .int (nI plan), .int (nI c)] h Q := by
  obtain ⟨-, hk, -⟩ := hk
  obtain ⟨hk1, hk2, -⟩ := hk p hp
  have hO := HR.O H hl hb hβ hp
  unfold lyb at hq
  have t : wq d 17 18 [some (.ref (b + 4 + p)), some (.int (nI v)), some (.int (nI plan)), some (.int (nI c)), none] [.int (nI (boyb v c))] h Q := by
    have hby : boyb v c ≤ 9 := by unfold boyb; split <;> (try split) <;> omega
    refine q_istore (pc := 18) [_, _, _, _, _] rfl (Nat.le_of_ble_eq_true rfl) rfl ?_
    refine q_aload_n (pc := 20) rfl rfl rfl ?_
    refine q_getf (pc := 21) rfl (by exact hO) rfl rfl ?_
    rcases k6 hk1 with e | e | e | e | e | e <;> rw [e] at hq hO ⊢
    · refine q_tsw (pc := 24) (t := 94) rfl (by decide) ?_
      refine q_iload_n (pc := 94) rfl rfl ?_
      refine q_iret (pc := 95) rfl (rfl) ?_
      first | exact hq | (revert hq; (repeat' split) <;> intro hq <;> first | exact hq | (exfalso; omega))
    · refine q_tsw (pc := 24) (t := 60) rfl (by decide) ?_
      refine q_iload (pc := 60) rfl rfl ?_
      refine q_iret (pc := 62) rfl (rfl) ?_
      first | exact hq | (revert hq; (repeat' split) <;> intro hq <;> first | exact hq | (exfalso; omega))
    · refine q_tsw (pc := 24) (t := 81) rfl (by decide) ?_
      refine q_iload_n (pc := 81) rfl rfl ?_
      refine q_iret (pc := 82) rfl (rfl) ?_
      first | exact hq | (revert hq; (repeat' split) <;> intro hq <;> first | exact hq | (exfalso; omega))
    · refine q_tsw (pc := 24) (t := 63) rfl (by decide) ?_
      refine q_iload_n (pc := 63) rfl rfl ?_
      refine q_bipush (pc := 64) rfl (nI 6) (by decide) ?_
      first | refine n_idiv (pc := 66) rfl (by omega) (by omega) (by omega) ?_ | refine q_idiv (pc := 66) rfl (by decide) ?_
      refine q_aload_n (pc := 67) rfl rfl rfl ?_
      refine q_getf (pc := 68) rfl (by exact hO) rfl rfl ?_
      first | refine n_icmpne (pc := 71) rfl (by omega) (by omega) (fun h71 => ?_) (fun h71 => ?_) | refine q_icmpne (pc := 71) rfl (fun h71 => ?_) (fun h71 => ?_)
      · refine q_iload (pc := 78) rfl rfl ?_
        refine q_iret (pc := 80) rfl (rfl) ?_
        first | exact hq | (revert hq; (repeat' split) <;> intro hq <;> first | exact hq | (exfalso; omega))
      · refine q_iconst (pc := 74) rfl (nI 0) (by decide) ?_
        refine q_goto (pc := 75) rfl ?_
        refine q_iret (pc := 80) rfl (rfl) ?_
        first | exact hq | (revert hq; (repeat' split) <;> intro hq <;> first | exact hq | (exfalso; omega))
    · refine q_tsw (pc := 24) (t := 81) rfl (by decide) ?_
      refine q_iload_n (pc := 81) rfl rfl ?_
      refine q_iret (pc := 82) rfl (rfl) ?_
      first | exact hq | (revert hq; (repeat' split) <;> intro hq <;> first | exact hq | (exfalso; omega))
    · refine q_tsw (pc := 24) (t := 83) rfl (by decide) ?_
      refine q_iload_n (pc := 83) rfl rfl ?_
      refine q_iload_n (pc := 84) rfl rfl ?_
      first | refine n_icmpne (pc := 85) rfl (by omega) (by omega) (fun h85 => ?_) (fun h85 => ?_) | refine q_icmpne (pc := 85) rfl (fun h85 => ?_) (fun h85 => ?_)
      · refine q_iconst (pc := 92) rfl (nI 0) (by decide) ?_
        refine q_iret (pc := 93) rfl (rfl) ?_
        first | exact hq | (revert hq; (repeat' split) <;> intro hq <;> first | exact hq | (exfalso; omega))
      · refine q_iload_n (pc := 88) rfl rfl ?_
        refine q_goto (pc := 89) rfl ?_
        refine q_iret (pc := 93) rfl (rfl) ?_
        first | exact hq | (revert hq; (repeat' split) <;> intro hq <;> first | exact hq | (exfalso; omega))
  unfold boyb at t
  refine wc.go [_, _, _, _, _] rfl ?_
  refine q_iload_n (pc := 0) rfl rfl ?_
  refine q_iconst (pc := 1) rfl (nI 2) (by decide) ?_
  first | refine n_irem (pc := 2) rfl (by omega) (by omega) (by omega) ?_ | refine q_irem (pc := 2) rfl (by decide) ?_
  first | refine n_ifeq (pc := 3) rfl (by omega) (fun h3 => ?_) (fun h3 => ?_) | refine q_ifeq (pc := 3) rfl (fun h3 => ?_) (fun h3 => ?_)
  · refine q_iload_n (pc := 17) rfl rfl ?_
    first | (rw [if_pos h3] at t; exact t) | (rw [if_neg h3] at t; exact t)
  · refine q_iload_n (pc := 6) rfl rfl ?_
    refine q_iconst (pc := 7) rfl (nI 1) (by decide) ?_
    first | refine n_iadd (pc := 8) rfl ?_ | refine q_iadd (pc := 8) rfl ?_
    refine q_bipush (pc := 9) rfl (nI 9) (by decide) ?_
    first | refine n_min (pc := 11) rfl rfl (by omega) (by omega) ?_ | refine q_min (pc := 11) rfl rfl ?_
    refine q_goto (pc := 14) rfl ?_
    first | (rw [if_pos h3] at t; exact t) | (rw [if_neg h3] at t; exact t)
end P20
