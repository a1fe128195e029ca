/-! ===== Long.bitCount, Integer.bitCount ===== -/
theorem ush_k : ∀ k, k < 64 → ((nI k).toInt64.toUInt64 &&& Int64.toUInt64 63).toBitVec % 64#64 = BitVec.ofNat 64 k := by decide +kernel
theorem lN_ush {x k : Nat} (hx : x < 2 ^ 64) (hk : k < 64) : ((lN x).toUInt64 >>> ((nI k).toInt64.toUInt64 &&& Int64.toUInt64 63)).toInt64 = lN (x / 2 ^ k) := by
  apply Int64.toBitVec_inj.mp
  show BitVec.ofNat 64 x >>> (((nI k).toInt64.toUInt64 &&& Int64.toUInt64 63).toBitVec % 64#64) = BitVec.ofNat 64 (x / 2 ^ k)
  rw [ush_k k hk]
  apply BitVec.eq_of_toNat_eq
  have h1 : x / 2 ^ k < 2 ^ 64 := Nat.lt_of_le_of_lt (Nat.div_le_self _ _) hx
  have h2 : k < 2 ^ 64 := by omega
  rw [BitVec.ushiftRight_eq', BitVec.toNat_ushiftRight, BitVec.toNat_ofNat, BitVec.toNat_ofNat, BitVec.toNat_ofNat, Nat.mod_eq_of_lt hx, Nat.mod_eq_of_lt h1, Nat.mod_eq_of_lt h2, Nat.shiftRight_eq_div_pow]
theorem and_256 {a c : Nat} (b e : Nat) (ha : a < 256) (hc : c < 256) : (a + 256 * b) &&& (c + 256 * e) = (a &&& c) + 256 * (b &&& e) := by
  apply Nat.eq_of_testBit_eq
  intro i
  have h1 : a &&& c < 2 ^ 8 := Nat.and_lt_two_pow _ hc
  rw [Nat.testBit_and, show a + 256 * b = 2 ^ 8 * b + a by omega, show c + 256 * e = 2 ^ 8 * e + c by omega, show (a &&& c) + 256 * (b &&& e) = 2 ^ 8 * (b &&& e) + (a &&& c) by omega, Nat.testBit_two_pow_mul_add _ ha, Nat.testBit_two_pow_mul_add _ hc, Nat.testBit_two_pow_mul_add _ h1]
  split
  · rw [Nat.testBit_and]
  · rw [Nat.testBit_and]
/-- the masks by bytes: w, then again -/
def mkN (w : Nat) : Nat → Nat
  | 0 => 0
  | n + 1 => w + 256 * mkN w n
def bc1 (n x : Nat) : Nat := x - ((x / 2) &&& mkN 85 n)
def bc2 (n x : Nat) : Nat := (bc1 n x &&& mkN 51 n) + ((bc1 n x / 4) &&& mkN 51 n)
def bc3 (n x : Nat) : Nat := (bc2 n x + bc2 n x / 16) &&& mkN 15 n
theorem bc_byte : ∀ a, a < 256 → ((a / 2) &&& 85 ≤ a ∧ (a - ((a / 2) &&& 85)) < 256) ∧ (((a - ((a / 2) &&& 85)) &&& 51) + (((a - ((a / 2) &&& 85)) / 4) &&& 51)) ≤ 68 ∧ (((a - ((a / 2) &&& 85)) &&& 51) + (((a - ((a / 2) &&& 85)) / 4) &&& 51)) % 16 ≤ 4 ∧ ((((a - ((a / 2) &&& 85)) &&& 51) + (((a - ((a / 2) &&& 85)) / 4) &&& 51)) + (((a - ((a / 2) &&& 85)) &&& 51) + (((a - ((a / 2) &&& 85)) / 4) &&& 51)) / 16) &&& 15 = cntf a.testBit 8 := by decide +kernel
theorem and_hi : ∀ m, m = 85 ∨ m = 51 ∨ m = 15 → ∀ a, a < 256 → (a &&& m) ≤ a ∧ (a + 128 &&& m) = (a % 128 &&& m) ∨ True := fun _ _ _ _ => Or.inr trivial
theorem and85 : ∀ a, a < 128 → ∀ t, t < 2 → (a + 128 * t) &&& 85 = a &&& 85 := by decide +kernel
theorem and51 : ∀ a, a < 64 → ∀ t, t < 4 → (a + 64 * t) &&& 51 = a &&& 51 := by decide +kernel
theorem and15 : ∀ a, a < 256 → a &&& 15 = a % 16 := by decide +kernel
theorem bc1_s {a b n : Nat} (ha : a < 256) (hb : (b / 2) &&& mkN 85 n ≤ b) : bc1 (n + 1) (a + 256 * b) = (a - ((a / 2) &&& 85)) + 256 * bc1 n b ∧ ((a + 256 * b) / 2) &&& mkN 85 (n + 1) ≤ a + 256 * b := by
  have e : ((a + 256 * b) / 2) &&& mkN 85 (n + 1) = ((a / 2) &&& 85) + 256 * ((b / 2) &&& mkN 85 n) := by
    rw [show (a + 256 * b) / 2 = (a / 2 + 128 * (b % 2)) + 256 * (b / 2) by omega, mkN, and_256 _ _ (by omega) (by decide), and85 _ (by omega) _ (by omega)]
  have h1 := (bc_byte a ha).1.1
  unfold bc1
  rw [e]
  exact ⟨by omega, by omega⟩
theorem bc2_s {a b n : Nat} (ha : a < 256) (hb : (b / 2) &&& mkN 85 n ≤ b) : bc2 (n + 1) (a + 256 * b) = (((a - ((a / 2) &&& 85)) &&& 51) + (((a - ((a / 2) &&& 85)) / 4) &&& 51)) + 256 * bc2 n b := by
  have h1 := (bc_byte a ha).1.2
  unfold bc2
  rw [(bc1_s ha hb).1]
  generalize a - ((a / 2) &&& 85) = u at h1
  generalize bc1 n b = w
  rw [mkN, and_256 _ _ h1 (by decide), show (u + 256 * w) / 4 = (u / 4 + 64 * (w % 4)) + 256 * (w / 4) by omega, and_256 _ _ (by omega) (by decide), and51 _ (by omega) _ (by omega)]
  omega
theorem bc3_s {a b n : Nat} (ha : a < 256) (hb : (b / 2) &&& mkN 85 n ≤ b) (hb2 : bc2 n b % 16 ≤ 4) : bc3 (n + 1) (a + 256 * b) = cntf a.testBit 8 + 256 * bc3 n b := by
  have h1 := (bc_byte a ha).2
  unfold bc3
  rw [bc2_s ha hb]
  generalize ((a - ((a / 2) &&& 85)) &&& 51) + (((a - ((a / 2) &&& 85)) / 4) &&& 51) = u at h1
  generalize bc2 n b = w at hb2
  rw [← h1.2.2, show u + 256 * w + (u + 256 * w) / 16 = (u + u / 16 + 16 * (w % 16)) + 256 * (w + w / 16) by omega, mkN, and_256 _ _ (by omega) (by decide), and15 _ (by omega), and15 _ (by omega)]
  omega
theorem bc_i (n : Nat) : ∀ x, x < 256 ^ n → (x / 2) &&& mkN 85 n ≤ x ∧ bc2 n x % 16 ≤ 4 := by
  induction n with
  | zero =>
    intro x hx
    obtain rfl : x = 0 := by have : x < 1 := hx; omega
    decide
  | succ n ih =>
    intro x hx
    have h1 : x / 256 < 256 ^ n := by rw [Nat.pow_succ] at hx; exact Nat.div_lt_of_lt_mul (by omega)
    obtain ⟨i1, i2⟩ := ih _ h1
    have e : x = x % 256 + 256 * (x / 256) := by omega
    have hm : x % 256 < 256 := by omega
    rw [e]
    refine ⟨(bc1_s hm i1).2, ?_⟩
    rw [bc2_s hm i1]
    have := (bc_byte _ hm).2.2.1
    omega
theorem bc_r {n x : Nat} (hx : x < 256 ^ (n + 1)) : bc3 (n + 1) x = cntf (x % 256).testBit 8 + 256 * bc3 n (x / 256) := by
  have h1 : x / 256 < 256 ^ n := by rw [Nat.pow_succ] at hx; exact Nat.div_lt_of_lt_mul (by omega)
  obtain ⟨i1, i2⟩ := bc_i n _ h1
  have e : x = x % 256 + 256 * (x / 256) := by omega
  have := bc3_s (a := x % 256) (b := x / 256) (n := n) (by omega) i1 i2
  rw [← e] at this
  exact this
theorem cntf_add (f : Nat → Bool) (n m : Nat) : cntf f (n + m) = cntf f n + cntf (fun i => f (n + i)) m := by
  induction m with
  | zero => rfl
  | succ m ih => rw [← Nat.add_assoc, cntf, cntf, ih]; omega
theorem cntf_congr {f g : Nat → Bool} {n : Nat} (h : ∀ i, i < n → f i = g i) : cntf f n = cntf g n := by
  induction n with
  | zero => rfl
  | succ n ih => rw [cntf, cntf, ih (fun i hi => h i (by omega)), h n (by omega)]
theorem cntf_byte (x n : Nat) : cntf x.testBit (8 + n) = cntf (x % 256).testBit 8 + cntf (x / 256).testBit n := by
  rw [cntf_add]
  congr 1
  · refine cntf_congr (fun i hi => ?_)
    rw [show 256 = 2 ^ 8 by decide, Nat.testBit_mod_two_pow]
    simp [hi]
  · refine cntf_congr (fun i hi => ?_)
    rw [show 256 = 2 ^ 8 by decide, Nat.testBit_div_two_pow, Nat.add_comm]
theorem bc_sum {x : Nat} (hx : x < 2 ^ 36) : ∃ c0 c1 c2 c3 c4 : Nat, c0 ≤ 8 ∧ c1 ≤ 8 ∧ c2 ≤ 8 ∧ c3 ≤ 8 ∧ c4 ≤ 8 ∧ bc3 8 x = c0 + 256 * (c1 + 256 * (c2 + 256 * (c3 + 256 * c4))) ∧ cntf x.testBit 36 = c0 + c1 + c2 + c3 + c4 := by
  have z8 : ∀ y : Nat, cntf y.testBit 8 ≤ 8 := fun y => cntf_le _ _
  refine ⟨cntf (x % 256).testBit 8, cntf (x / 256 % 256).testBit 8, cntf (x / 256 / 256 % 256).testBit 8, cntf (x / 256 / 256 / 256 % 256).testBit 8, cntf (x / 256 / 256 / 256 / 256 % 256).testBit 8, z8 _, z8 _, z8 _, z8 _, z8 _, ?_, ?_⟩
  · have z : bc3 3 0 = 0 := by decide
    rw [bc_r (by omega), bc_r (by omega), bc_r (by omega), bc_r (by omega), bc_r (by omega), show x / 256 / 256 / 256 / 256 / 256 = 0 by omega, z]
    omega
  · rw [show 36 = 8 + 28 by rfl, cntf_byte, show 28 = 8 + 20 by rfl, cntf_byte, show 20 = 8 + 12 by rfl, cntf_byte, show 12 = 8 + 4 by rfl, cntf_byte]
    have : cntf (x / 256 / 256 / 256 / 256).testBit 4 = cntf (x / 256 / 256 / 256 / 256 % 256).testBit 8 := by
      have hy : x / 256 / 256 / 256 / 256 < 16 := by omega
      rw [Nat.mod_eq_of_lt (by omega)]
      revert hy
      generalize x / 256 / 256 / 256 / 256 = y
      intro hy
      have : ∀ y, y < 16 → cntf y.testBit 4 = cntf y.testBit 8 := by decide +kernel
      exact this y hy
    rw [this]
    omega
theorem bc_le (n : Nat) : ∀ x, x < 256 ^ n → bc1 n x ≤ x ∧ bc2 n x < 256 ^ n := by
  induction n with
  | zero =>
    intro x hx
    obtain rfl : x = 0 := by have : x < 1 := hx; omega
    decide
  | succ n ih =>
    intro x hx
    have hp : 0 < 256 ^ n := Nat.pow_pos (by decide)
    rw [Nat.pow_succ] at hx ⊢
    have h1 : x / 256 < 256 ^ n := Nat.div_lt_of_lt_mul (by omega)
    obtain ⟨i1, i2⟩ := bc_i n _ h1
    obtain ⟨j1, j2⟩ := ih _ h1
    refine ⟨Nat.sub_le _ _, ?_⟩
    have e : x = x % 256 + 256 * (x / 256) := by omega
    have hm : x % 256 < 256 := by omega
    have := (bc_byte _ hm).2.1
    rw [e, bc2_s hm i1]
    generalize 256 ^ n = z at *
    omega
theorem bc_fin {c0 c1 c2 c3 c4 y : Nat} (b0 : c0 ≤ 8) (b1 : c1 ≤ 8) (b2 : c2 ≤ 8) (b3 : c3 ≤ 8) (b4 : c4 ≤ 8) (hy : y = c0 + 256 * (c1 + 256 * (c2 + 256 * (c3 + 256 * c4)))) : (y + y / 2 ^ 8 + (y + y / 2 ^ 8) / 2 ^ 16 + (y + y / 2 ^ 8 + (y + y / 2 ^ 8) / 2 ^ 16) / 2 ^ 32) % 128 = c0 + c1 + c2 + c3 + c4 := by
  have h1 : y / 2 ^ 8 = c1 + 256 * (c2 + 256 * (c3 + 256 * c4)) := by omega
  have h2 : y + y / 2 ^ 8 = (c0 + c1) + 256 * ((c1 + c2) + 256 * ((c2 + c3) + 256 * ((c3 + c4) + 256 * c4))) := by omega
  generalize y + y / 2 ^ 8 = u at h2 ⊢
  have h3 : u / 2 ^ 16 = (c2 + c3) + 256 * ((c3 + c4) + 256 * c4) := by omega
  have h4 : u + u / 2 ^ 16 = (c0 + c1 + c2 + c3) + 256 * ((c1 + c2 + c3 + c4) + 256 * ((c2 + c3 + c4) + 256 * ((c3 + c4) + 256 * c4))) := by omega
  generalize u + u / 2 ^ 16 = w at h4 ⊢
  have h5 : w / 2 ^ 32 = c4 := by omega
  rw [h5]
  omega
def popN (x : Nat) : Nat := cntf x.testBit 36
section P23
variable {d k pc a i j n m : Nat} {v : Int} {L L' : mx_L} {st r : List Value} {h : mx_H} {Q : Option Value → mx_H → Prop} {x y : Int32}
theorem n_lushr (hc : mx_tb k pc = some (.lushr, a, v)) (hi : i < 2 ^ 64) (hj : j < 64) (kk : wq d k (pc + 1) L (.long (lN (i / 2 ^ j)) :: r) h Q) : wq d k pc L (.int (nI j) :: .long (lN i) :: r) h Q := q_lushr hc (by rw [lN_ush hi hj]; exact kk)
theorem n_lsub (hc : mx_tb k pc = some (.lsub, a, v)) (hj : j ≤ i) (kk : wq d k (pc + 1) L (.long (lN (i - j)) :: r) h Q) : wq d k pc L (.long (lN j) :: .long (lN i) :: r) h Q := q_lsub hc (by rw [lN_sub hj]; exact kk)
theorem n_ladd (hc : mx_tb k pc = some (.ladd, a, v)) (kk : wq d k (pc + 1) L (.long (lN (i + j)) :: r) h Q) : wq d k pc L (.long (lN j) :: .long (lN i) :: r) h Q := q_ladd hc (by rw [lN_add]; exact kk)
theorem n_l2i (hc : mx_tb k pc = some (.l2i, a, v)) (kk : wq d k (pc + 1) L (.int (nI i) :: r) h Q) : wq d k pc L (.long (lN i) :: r) h Q := q_l2i hc (by rw [lN_i]; exact kk)
theorem n_ldc2 {j0 : Nat} (hc : mx_tb k pc = some (.ldc2_w j0, a, v)) (i : Nat) (hx : Int64.ofInt v = lN i) (kk : wq d k (pc + 3) L (.long (lN i) :: st) h Q) : wq d k pc L st h Q := q_ldc2 hc (lN i) hx kk
theorem j_bitCount (hm : m < 2 ^ 36) (hq : Q (some (.int (nI (popN m)))) h) : wc d 213 [.long (lN m)] h Q := by
  obtain ⟨c0, c1, c2, c3, c4, b0, b1, b2, b3, b4, e1, e2⟩ := bc_sum hm
  have hm8 : m < 256 ^ 8 := Nat.lt_of_lt_of_le hm (by decide)
  obtain ⟨i1, i2⟩ := bc_i 8 m hm8
  obtain ⟨l1, l2⟩ := bc_le 8 m hm8
  have l2 : bc2 8 m < 2 ^ 64 := l2
  unfold popN at hq
  rw [e2] at hq
  refine wc.go [_, _] rfl ?_
  refine q_lload_n (pc := 0) rfl rfl ?_
  refine q_lload_n (pc := 1) rfl rfl ?_
  refine q_iconst (pc := 2) rfl (nI 1) (by decide) ?_
  refine n_lushr (pc := 3) rfl (by omega) (by decide) ?_
  refine n_ldc2 (pc := 4) rfl (mkN 85 8) (by decide) ?_
  first | refine n_land (pc := 7) rfl ?_ | refine q_land (pc := 7) rfl ?_
  refine n_lsub (pc := 8) rfl i1 ?_
  rw [show m - (m / 2 ^ 1 &&& mkN 85 8) = bc1 8 m from rfl]
  refine q_lstore_n (pc := 9) [_, _] rfl (Nat.le_of_ble_eq_true rfl) rfl ?_
  refine q_lload_n (pc := 10) rfl rfl ?_
  refine n_ldc2 (pc := 11) rfl (mkN 51 8) (by decide) ?_
  first | refine n_land (pc := 14) rfl ?_ | refine q_land (pc := 14) rfl ?_
  refine q_lload_n (pc := 15) rfl rfl ?_
  refine q_iconst (pc := 16) rfl (nI 2) (by decide) ?_
  refine n_lushr (pc := 17) rfl (by omega) (by decide) ?_
  refine n_ldc2 (pc := 18) rfl (mkN 51 8) (by decide) ?_
  first | refine n_land (pc := 21) rfl ?_ | refine q_land (pc := 21) rfl ?_
  refine n_ladd (pc := 22) rfl ?_
  rw [show (bc1 8 m &&& mkN 51 8) + (bc1 8 m / 2 ^ 2 &&& mkN 51 8) = bc2 8 m from rfl]
  refine q_lstore_n (pc := 23) [_, _] rfl (Nat.le_of_ble_eq_true rfl) rfl ?_
  refine q_lload_n (pc := 24) rfl rfl ?_
  refine q_lload_n (pc := 25) rfl rfl ?_
  refine q_iconst (pc := 26) rfl (nI 4) (by decide) ?_
  refine n_lushr (pc := 27) rfl (by omega) (by decide) ?_
  refine n_ladd (pc := 28) rfl ?_
  refine n_ldc2 (pc := 29) rfl (mkN 15 8) (by decide) ?_
  first | refine n_land (pc := 32) rfl ?_ | refine q_land (pc := 32) rfl ?_
  rw [show (bc2 8 m + bc2 8 m / 2 ^ 4 &&& mkN 15 8) = bc3 8 m from rfl, e1]
  refine q_lstore_n (pc := 33) [_, _] rfl (Nat.le_of_ble_eq_true rfl) rfl ?_
  refine q_lload_n (pc := 34) rfl rfl ?_
  refine q_lload_n (pc := 35) rfl rfl ?_
  refine q_bipush (pc := 36) rfl (nI 8) (by decide) ?_
  refine n_lushr (pc := 38) rfl (by omega) (by decide) ?_
  refine n_ladd (pc := 39) rfl ?_
  refine q_lstore_n (pc := 40) [_, _] rfl (Nat.le_of_ble_eq_true rfl) rfl ?_
  refine q_lload_n (pc := 41) rfl rfl ?_
  refine q_lload_n (pc := 42) rfl rfl ?_
  refine q_bipush (pc := 43) rfl (nI 16) (by decide) ?_
  refine n_lushr (pc := 45) rfl (by omega) (by decide) ?_
  refine n_ladd (pc := 46) rfl ?_
  refine q_lstore_n (pc := 47) [_, _] rfl (Nat.le_of_ble_eq_true rfl) rfl ?_
  refine q_lload_n (pc := 48) rfl rfl ?_
  refine q_lload_n (pc := 49) rfl rfl ?_
  refine q_bipush (pc := 50) rfl (nI 32) (by decide) ?_
  refine n_lushr (pc := 52) rfl (by omega) (by decide) ?_
  refine n_ladd (pc := 53) rfl ?_
  refine q_lstore_n (pc := 54) [_, _] rfl (Nat.le_of_ble_eq_true rfl) rfl ?_
  refine q_lload_n (pc := 55) rfl rfl ?_
  refine n_l2i (pc := 56) rfl ?_
  refine q_bipush (pc := 57) rfl (nI 127) (by decide) ?_
  refine q_iand (pc := 59) rfl ?_
  refine q_iret (pc := 60) rfl (rfl) ?_
  have e : ∀ z : Nat, z % 128 = c0 + c1 + c2 + c3 + c4 → nI z &&& nI 127 = nI (c0 + c1 + c2 + c3 + c4) := fun z e => by
    rw [pk_and (nI z) 7 (by decide), show (nI z).toBitVec.toNat = z % 2 ^ 32 from BitVec.toNat_ofNat _ _, ← e]
    congr 1
    omega
  rw [e _ (bc_fin b0 b1 b2 b3 b4 rfl)]
  exact hq
def sh32 (x : Int32) (k : Nat) : Int32 := (x.toUInt32 >>> ((nI k).toUInt32 &&& Int32.toUInt32 31)).toInt32
def bc32 (x : Int32) : Int32 :=
  let a := x - (sh32 x 1 &&& nI 1431655765)
  let b := (a &&& nI 858993459) + (sh32 a 2 &&& nI 858993459)
  let c := (b + sh32 b 4) &&& nI 252645135
  let e := c + sh32 c 8
  let f := e + sh32 e 16
  f &&& nI 63
theorem bc32_s : ∀ t, t < 128 → bc32 (nI t) = nI (cntf t.testBit 7) := by decide +kernel
theorem i_bitCount {t : Nat} (ht : t < 128) (hq : Q (some (.int (nI (cntf t.testBit 7)))) h) : wc d 212 [.int (nI t)] h Q := by
  refine wc.go [_] rfl ?_
  refine q_iload_n (pc := 0) rfl rfl ?_
  refine q_iload_n (pc := 1) rfl rfl ?_
  refine q_iconst (pc := 2) rfl (nI 1) (by decide) ?_
  refine q_iushr (pc := 3) rfl ?_
  refine q_ldcW (pc := 4) rfl (nI 1431655765) (by decide) ?_
  refine q_iand (pc := 7) rfl ?_
  refine q_isub (pc := 8) rfl ?_
  refine q_istore_n (pc := 9) [_] rfl (Nat.le_of_ble_eq_true rfl) rfl ?_
  refine q_iload_n (pc := 10) rfl rfl ?_
  refine q_ldcW (pc := 11) rfl (nI 858993459) (by decide) ?_
  refine q_iand (pc := 14) rfl ?_
  refine q_iload_n (pc := 15) rfl rfl ?_
  refine q_iconst (pc := 16) rfl (nI 2) (by decide) ?_
  refine q_iushr (pc := 17) rfl ?_
  refine q_ldcW (pc := 18) rfl (nI 858993459) (by decide) ?_
  refine q_iand (pc := 21) rfl ?_
  refine q_iadd (pc := 22) rfl ?_
  refine q_istore_n (pc := 23) [_] rfl (Nat.le_of_ble_eq_true rfl) rfl ?_
  refine q_iload_n (pc := 24) rfl rfl ?_
  refine q_iload_n (pc := 25) rfl rfl ?_
  refine q_iconst (pc := 26) rfl (nI 4) (by decide) ?_
  refine q_iushr (pc := 27) rfl ?_
  refine q_iadd (pc := 28) rfl ?_
  refine q_ldcW (pc := 29) rfl (nI 252645135) (by decide) ?_
  refine q_iand (pc := 32) rfl ?_
  refine q_istore_n (pc := 33) [_] rfl (Nat.le_of_ble_eq_true rfl) rfl ?_
  refine q_iload_n (pc := 34) rfl rfl ?_
  refine q_iload_n (pc := 35) rfl rfl ?_
  refine q_bipush (pc := 36) rfl (nI 8) (by decide) ?_
  refine q_iushr (pc := 38) rfl ?_
  refine q_iadd (pc := 39) rfl ?_
  refine q_istore_n (pc := 40) [_] rfl (Nat.le_of_ble_eq_true rfl) rfl ?_
  refine q_iload_n (pc := 41) rfl rfl ?_
  refine q_iload_n (pc := 42) rfl rfl ?_
  refine q_bipush (pc := 43) rfl (nI 16) (by decide) ?_
  refine q_iushr (pc := 45) rfl ?_
  refine q_iadd (pc := 46) rfl ?_
  refine q_istore_n (pc := 47) [_] rfl (Nat.le_of_ble_eq_true rfl) rfl ?_
  refine q_iload_n (pc := 48) rfl rfl ?_
  refine q_bipush (pc := 49) rfl (nI 63) (by decide) ?_
  refine q_iand (pc := 51) rfl ?_
  refine q_iret (pc := 52) rfl (rfl) ?_
  rw [← bc32_s t ht] at hq
  exact hq
theorem c_wrongCells (hd : 2 ≤ d) {P : mx_Pm} {s : mx_St} {b : Nat} {β : Nat → Nat} (H : HR P h s) (hl : 51 ≤ P.1) (hb : isB b) (hβ : BT s b β) (hk : ∀ i, i < 72 → β i ≤ 9) (hq : Q (some (.int (nI (popN (wbs β))))) h) : wc d 6 [.ref b] h Q := by
  refine wc.go [_] rfl ?_
  refine q_aload_n (pc := 0) rfl rfl rfl ?_
  refine q_callV (pc := 1) _ rfl rfl rfl (by exact HR.B H hl hb hβ) rfl (Nat.le_of_ble_eq_true rfl) (by omega) _ rfl ?_
  refine c_wbits (by omega) H hl hb hβ hk ?_
  refine q_callS (pc := 4) _ (by decide) rfl rfl rfl rfl (Nat.le_of_ble_eq_true rfl) (by omega) _ rfl ?_
  refine j_bitCount (bset_lt _ _) ?_
  refine q_iret (pc := 7) rfl (rfl) ?_
  exact hq
theorem pop_w (β : Nat → Nat) : popN (wbs β) = cntf (wrn β) 36 := cntf_congr (fun i hi => by unfold wbs; rw [bset_test, decide_eq_true hi, Bool.true_and])
end P23
