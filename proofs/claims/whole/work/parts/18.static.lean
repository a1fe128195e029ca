/-! ===== small static methods of both ===== -/
section P18
variable {d : Nat} {h : mx_H} {Q : Option Value → mx_H → Prop} {x y z : Int32}
theorem c_isCell (ht : ∀ j, j < 36 → x = nI j → Q (some (.int 1)) h) (hf : (x < 0 ∨ nI 36 ≤ x) → Q (some (.int 0)) h) : wc d 126 [.int x] h Q := by
  refine wc.go [_] rfl ?_
  refine q_iload_n (pc := 0) rfl rfl ?_
  refine q_iflt (pc := 1) rfl (fun h1 => ?_) (fun h1 => ?_)
  · have g : x < 0 ∨ nI 36 ≤ x := Or.inl h1
    refine q_iconst (pc := 14) rfl (0) (by decide) ?_
    refine q_iret (pc := 15) rfl (rfl) ?_
    first | exact hf g | exact ht j hj hx
  · refine q_iload_n (pc := 4) rfl rfl ?_
    refine q_bipush (pc := 5) rfl (36) (by decide) ?_
    refine q_icmpge (pc := 7) rfl (fun h7 => ?_) (fun h7 => ?_)
    · have g : x < 0 ∨ nI 36 ≤ x := Or.inr h7
      refine q_iconst (pc := 14) rfl (0) (by decide) ?_
      refine q_iret (pc := 15) rfl (rfl) ?_
      first | exact hf g | exact ht j hj hx
    · obtain ⟨j, hj, hx⟩ := x_big (by decide) h1 h7
      refine q_iconst (pc := 10) rfl (1) (by decide) ?_
      refine q_goto (pc := 11) rfl ?_
      refine q_iret (pc := 15) rfl (rfl) ?_
      first | exact hf g | exact ht j hj hx
theorem c_isIn (ht : y ≤ x → x ≤ z → Q (some (.int 1)) h) (hf : ¬ (y ≤ x ∧ x ≤ z) → Q (some (.int 0)) h) : wc d 132 [.int x, .int y, .int z] h Q := by
  refine wc.go [_, _, _] rfl ?_
  refine q_iload_n (pc := 0) rfl rfl ?_
  refine q_iload_n (pc := 1) rfl rfl ?_
  refine q_icmplt (pc := 2) rfl (fun h2 => ?_) (fun h2 => ?_)
  · refine q_iconst (pc := 14) rfl (0) (by decide) ?_
    refine q_iret (pc := 15) rfl (rfl) ?_
    first | exact ht (Int32.not_lt.mp h2) (Int32.not_lt.mp h7) | exact hf (fun g => absurd h2 (Int32.not_lt.mpr g.1)) | exact hf (fun g => absurd h7 (Int32.not_lt.mpr g.2))
  · refine q_iload_n (pc := 5) rfl rfl ?_
    refine q_iload_n (pc := 6) rfl rfl ?_
    refine q_icmpgt (pc := 7) rfl (fun h7 => ?_) (fun h7 => ?_)
    · refine q_iconst (pc := 14) rfl (0) (by decide) ?_
      refine q_iret (pc := 15) rfl (rfl) ?_
      first | exact ht (Int32.not_lt.mp h2) (Int32.not_lt.mp h7) | exact hf (fun g => absurd h2 (Int32.not_lt.mpr g.1)) | exact hf (fun g => absurd h7 (Int32.not_lt.mpr g.2))
    · refine q_iconst (pc := 10) rfl (1) (by decide) ?_
      refine q_goto (pc := 11) rfl ?_
      refine q_iret (pc := 15) rfl (rfl) ?_
      first | exact ht (Int32.not_lt.mp h2) (Int32.not_lt.mp h7) | exact hf (fun g => absurd h2 (Int32.not_lt.mpr g.1)) | exact hf (fun g => absurd h7 (Int32.not_lt.mpr g.2))
def mn32 (x y : Int32) : Int32 := if y < x then y else x
def mxx32 (x y : Int32) : Int32 := if x < y then y else x
theorem c_bound (hq : Q (some (.int (mxx32 y (mn32 x z)))) h) : wc d 130 [.int x, .int y, .int z] h Q := by
  refine wc.go [_, _, _] rfl ?_
  refine q_iload_n (pc := 0) rfl rfl ?_
  refine q_iload_n (pc := 1) rfl rfl ?_
  refine q_iload_n (pc := 2) rfl rfl ?_
  refine q_min (pc := 3) rfl rfl ?_
  refine q_max (pc := 6) rfl rfl ?_
  refine q_iret (pc := 9) rfl (rfl) ?_
  exact hq
theorem m_bound (hq : Q (some (.int (mxx32 y (mn32 z x)))) h) : wc d 133 [.int x, .int y, .int z] h Q := by
  refine wc.go [_, _, _] rfl ?_
  refine q_iload_n (pc := 0) rfl rfl ?_
  refine q_iload_n (pc := 1) rfl rfl ?_
  refine q_iload_n (pc := 2) rfl rfl ?_
  refine q_min (pc := 3) rfl rfl ?_
  refine q_max (pc := 6) rfl rfl ?_
  refine q_iret (pc := 9) rfl (rfl) ?_
  exact hq
theorem c_apart {a b : Nat} (ha : a < 36) (hb : b < 36) (hq : Q (some (.int (nI (apN a b)))) h) : wc d 127 [.int (nI a), .int (nI b)] h Q := by
  refine wc.go [_, _] rfl ?_
  refine q_iload_n (pc := 0) rfl rfl ?_
  refine q_bipush (pc := 1) rfl (6) (by decide) ?_
  refine q_irem (pc := 3) rfl (by decide) ?_
  refine q_iload_n (pc := 4) rfl rfl ?_
  refine q_bipush (pc := 5) rfl (6) (by decide) ?_
  refine q_irem (pc := 7) rfl (by decide) ?_
  refine q_isub (pc := 8) rfl ?_
  refine q_abs (pc := 9) rfl rfl ?_
  refine q_iload_n (pc := 12) rfl rfl ?_
  refine q_bipush (pc := 13) rfl (6) (by decide) ?_
  refine q_idiv (pc := 15) rfl (by decide) ?_
  refine q_iload_n (pc := 16) rfl rfl ?_
  refine q_bipush (pc := 17) rfl (6) (by decide) ?_
  refine q_idiv (pc := 19) rfl (by decide) ?_
  refine q_isub (pc := 20) rfl ?_
  refine q_abs (pc := 21) rfl rfl ?_
  refine q_iadd (pc := 24) rfl ?_
  refine q_iret (pc := 25) rfl (rfl) ?_
  have e : ab32 (nI a - nI a / 6 * 6 - (nI b - nI b / 6 * 6)) + ab32 (nI a / 6 - nI b / 6) = nI (apN a b) := by
    rw [x_rem6 (by omega), x_rem6 (by omega), x_div6 (by omega), x_div6 (by omega), x_dif (by omega) (by omega), x_dif (by omega) (by omega), nI_add]
    rfl
  rw [← e] at hq
  exact hq
theorem m_apart {a b : Nat} (ha : a < 36) (hb : b < 36) (hq : Q (some (.int (nI (apN a b)))) h) : wc d 140 [.int (nI a), .int (nI b)] h Q := by
  refine wc.go [_, _] rfl ?_
  refine q_iload_n (pc := 0) rfl rfl ?_
  refine q_bipush (pc := 1) rfl (6) (by decide) ?_
  refine q_idiv (pc := 3) rfl (by decide) ?_
  refine q_iload_n (pc := 4) rfl rfl ?_
  refine q_bipush (pc := 5) rfl (6) (by decide) ?_
  refine q_idiv (pc := 7) rfl (by decide) ?_
  refine q_isub (pc := 8) rfl ?_
  refine q_abs (pc := 9) rfl rfl ?_
  refine q_iload_n (pc := 12) rfl rfl ?_
  refine q_bipush (pc := 13) rfl (6) (by decide) ?_
  refine q_irem (pc := 15) rfl (by decide) ?_
  refine q_iload_n (pc := 16) rfl rfl ?_
  refine q_bipush (pc := 17) rfl (6) (by decide) ?_
  refine q_irem (pc := 19) rfl (by decide) ?_
  refine q_isub (pc := 20) rfl ?_
  refine q_abs (pc := 21) rfl rfl ?_
  refine q_iadd (pc := 24) rfl ?_
  refine q_iret (pc := 25) rfl (rfl) ?_
  have e : ab32 (nI a / 6 - nI b / 6) + ab32 (nI a - nI a / 6 * 6 - (nI b - nI b / 6 * 6)) = nI (apN a b) := by
    rw [x_rem6 (by omega), x_rem6 (by omega), x_div6 (by omega), x_div6 (by omega), x_dif (by omega) (by omega), x_dif (by omega) (by omega), nI_add, Nat.add_comm]
    rfl
  rw [← e] at hq
  exact hq
theorem m_in {n : Nat} (hn : n < 2 ^ 31) (ht : ∀ j, j ≤ n → x = nI j → Q (some (.int 1)) h) (hf : (x < 0 ∨ nI n < x) → Q (some (.int 0)) h) : wc d 132 [.int x, .int 0, .int (nI n)] h Q := by
  refine c_isIn (fun h1 h2 => ?_) (fun h1 => ?_)
  · obtain ⟨j, hj, hx⟩ := x_upto hn (Int32.not_lt.mpr h1) h2
    exact ht j hj hx
  · by_cases g : x < 0
    · exact hf (Or.inl g)
    · by_cases g2 : nI n < x
      · exact hf (Or.inr g2)
      · exact absurd ⟨Int32.not_lt.mp g, Int32.not_lt.mp g2⟩ h1
theorem x_lt_le {x : Int32} {n : Nat} (hn : n + 1 < 2 ^ 31) (g : x < 0 ∨ nI n < x) : x < 0 ∨ nI (n + 1) ≤ x := by
  refine g.imp id (fun z => ?_)
  by_cases z2 : x < 0
  · exact absurd (Int32.lt_trans z z2) (nI_pos (by omega))
  · obtain ⟨j, hj, rfl⟩ := x_of z2
    exact nI_le (by have := x_lt z (by omega) hj; omega) hj
theorem m_isCell (hd : 1 ≤ d) (ht : ∀ j, j < 36 → x = nI j → Q (some (.int 1)) h) (hf : (x < 0 ∨ nI 36 ≤ x) → Q (some (.int 0)) h) : wc d 138 [.int x] h Q := by
  refine wc.go [_] rfl ?_
  refine q_iload_n (pc := 0) rfl rfl ?_
  refine q_iconst (pc := 1) rfl (0) (by decide) ?_
  refine q_bipush (pc := 2) rfl (35) (by decide) ?_
  refine q_callS (pc := 4) _ (by decide) rfl rfl rfl rfl (Nat.le_of_ble_eq_true rfl) (by omega) _ rfl ?_
  refine m_in (n := 35) (by decide) (fun j hj hx => ?_) (fun g => ?_)
  · refine q_iret (pc := 7) rfl (rfl) ?_
    first | exact ht j (by omega) hx | exact hf (x_lt_le (by decide) g)
  · refine q_iret (pc := 7) rfl (rfl) ?_
    first | exact ht j (by omega) hx | exact hf (x_lt_le (by decide) g)
theorem m_isSheet (hd : 1 ≤ d) (ht : ∀ j, j < 4 → x = nI j → Q (some (.int 1)) h) (hf : (x < 0 ∨ nI 4 ≤ x) → Q (some (.int 0)) h) : wc d 196 [.int x] h Q := by
  refine wc.go [_] rfl ?_
  refine q_iload_n (pc := 0) rfl rfl ?_
  refine q_iconst (pc := 1) rfl (0) (by decide) ?_
  refine q_iconst (pc := 2) rfl (3) (by decide) ?_
  refine q_callS (pc := 3) _ (by decide) rfl rfl rfl rfl (Nat.le_of_ble_eq_true rfl) (by omega) _ rfl ?_
  refine m_in (n := 3) (by decide) (fun j hj hx => ?_) (fun g => ?_)
  · refine q_iret (pc := 6) rfl (rfl) ?_
    first | exact ht j (by omega) hx | exact hf (x_lt_le (by decide) g)
  · refine q_iret (pc := 6) rfl (rfl) ?_
    first | exact ht j (by omega) hx | exact hf (x_lt_le (by decide) g)
theorem c_bit {c : Nat} (hq : Q (some (.long ((1 : Int64) <<< ((nI c).toInt64 &&& 63)))) h) : wc d 128 [.int (nI c)] h Q := by
  refine wc.go [_] rfl ?_
  refine q_lconst (pc := 0) rfl (1) (by decide) ?_
  refine q_iload_n (pc := 1) rfl rfl ?_
  refine q_lshl (pc := 2) rfl ?_
  refine q_lret (pc := 3) rfl rfl ?_
  exact hq
theorem m_yes0 (hq : Q (some (.int 0)) h) : wc d 164 [.int 0] h Q := by
  refine wc.go [_] rfl ?_
  refine q_iload_n (pc := 0) rfl rfl ?_
  refine q_ifeq (pc := 1) rfl (fun h1 => ?_) (fun h1 => ?_)
  · refine q_iconst (pc := 8) rfl (0) (by decide) ?_
    refine q_iret (pc := 9) rfl (rfl) ?_
    first | exact hq | exact absurd rfl h1
  · refine q_iconst (pc := 4) rfl (1) (by decide) ?_
    refine q_goto (pc := 5) rfl ?_
    refine q_iret (pc := 9) rfl (rfl) ?_
    first | exact hq | exact absurd rfl h1
theorem m_yes1 (hq : Q (some (.int 1)) h) : wc d 164 [.int 1] h Q := by
  refine wc.go [_] rfl ?_
  refine q_iload_n (pc := 0) rfl rfl ?_
  refine q_ifeq (pc := 1) rfl (fun h1 => ?_) (fun h1 => ?_)
  · refine q_iconst (pc := 8) rfl (0) (by decide) ?_
    refine q_iret (pc := 9) rfl (rfl) ?_
    first | exact hq | exact absurd h1 (by decide)
  · refine q_iconst (pc := 4) rfl (1) (by decide) ?_
    refine q_goto (pc := 5) rfl ?_
    refine q_iret (pc := 9) rfl (rfl) ?_
    first | exact hq | exact absurd h1 (by decide)
end P18
