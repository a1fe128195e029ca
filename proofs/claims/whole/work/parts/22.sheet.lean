/-! ===== sheets; what is laid as a sheet says ===== -/
theorem HR.S2 {P : mx_Pm} {h : mx_H} {s : mx_St} {q n : Nat} (H : HR P h s) (hl : 51 ≤ P.1) (hq : isS q) (hn : s q 2 = nI n) : h.2.2 q = .inr (5, [.ref (q + 1), .int (s q 1), .int (nI n)]) := by rw [H.S hl hq, hn]
def narS (σ y : Int32) : Int32 := if σ = 0 then y.toInt8.toInt32 else if σ = 1 then y.toInt16.toInt32 else y
def bdN (lo hi : Nat) (x : Int32) : Nat := if x < 0 then lo else max lo (min x.toNatClampNeg hi)
theorem bdN_n {lo hi v : Nat} (hv : v < 2 ^ 31) : bdN lo hi (nI v) = max lo (min v hi) := by unfold bdN; rw [if_neg (nI_pos hv), nI_clamp hv]
theorem bdN_le {lo hi : Nat} {x : Int32} (h : lo ≤ hi) : lo ≤ bdN lo hi x ∧ bdN lo hi x ≤ hi := by unfold bdN; split <;> omega
theorem bd_eq {lo hi : Nat} {x : Int32} (h : lo ≤ hi) (hh : hi < 2 ^ 30) : mxx32 (nI lo) (mn32 x (nI hi)) = nI (bdN lo hi x) := by
  unfold bdN
  by_cases hx : x < 0
  · rw [if_pos hx]
    have h0 : x < nI hi := Int32.lt_of_lt_of_le hx (nI_pos' (by omega))
    have h1 : ¬ nI hi < x := Int32.not_lt.mpr (Int32.le_of_lt h0)
    unfold mxx32 mn32
    rw [if_neg h1, if_neg (Int32.not_lt.mpr (Int32.le_of_lt (Int32.lt_of_lt_of_le hx (nI_pos' (by omega)))))]
  · obtain ⟨j, hj, rfl⟩ := x_of hx
    rw [if_neg hx, nI_clamp hj]
    unfold mxx32 mn32
    by_cases g : hi < j
    · rw [if_pos (nI_lt g hj)]
      by_cases g2 : lo < hi
      · rw [if_pos (nI_lt g2 (by omega))]; congr 1; omega
      · rw [if_neg (nI_nlt (show hi ≤ lo by omega) (by omega))]; congr 1; omega
    · rw [if_neg (nI_nlt (show j ≤ hi by omega) (by omega))]
      by_cases g2 : lo < j
      · rw [if_pos (nI_lt g2 (by omega))]; congr 1; omega
      · rw [if_neg (nI_nlt (show j ≤ lo by omega) (by omega))]; congr 1; omega
theorem mn_comm (x y : Int32) : mn32 x y = mn32 y x := by
  unfold mn32
  by_cases h : y < x
  · rw [if_pos h, if_neg (Int32.not_lt.mpr (Int32.le_of_lt h))]
  · by_cases h2 : x < y
    · rw [if_neg h, if_pos h2]
    · rw [if_neg h, if_neg h2]; exact Int32.le_antisymm (Int32.not_lt.mp h) (Int32.not_lt.mp h2)
section P22
variable {d k pc a i j c p b q n m : Nat} {v : Int} {L L' : mx_L} {st r : List Value} {P : mx_Pm} {h : mx_H} {s : mx_St} {Q : Option Value → mx_H → Prop} {x y : Int32} {β : Nat → Nat}
theorem c_boundX {lo hi : Nat} (h1 : lo ≤ hi) (h2 : hi < 2 ^ 30) (hq : Q (some (.int (nI (bdN lo hi x)))) h) : wc d 130 [.int x, .int (nI lo), .int (nI hi)] h Q := c_bound (by rw [bd_eq h1 h2]; exact hq)
theorem m_boundX {lo hi : Nat} (h1 : lo ≤ hi) (h2 : hi < 2 ^ 30) (hq : Q (some (.int (nI (bdN lo hi x)))) h) : wc d 133 [.int x, .int (nI lo), .int (nI hi)] h Q := m_bound (by rw [mn_comm, bd_eq h1 h2]; exact hq)
theorem c_isThere (H : HR P h s) (hl : 51 ≤ P.1) (hq : isS q) (ht : s q 1 ≠ -1 → Q (some (.int 1)) h) (hf : s q 1 = -1 → Q (some (.int 0)) h) : wc d 57 [.ref q] h Q := by
  refine wc.go [_] rfl ?_
  refine q_aload_n (pc := 0) rfl rfl rfl ?_
  refine q_getf (pc := 1) rfl (by exact HR.S H hl hq) rfl rfl ?_
  refine q_iconst (pc := 4) rfl (-1) (by decide) ?_
  first | refine n_icmpeq (pc := 5) rfl (by omega) (by omega) (fun h5 => ?_) (fun h5 => ?_) | refine q_icmpeq (pc := 5) rfl (fun h5 => ?_) (fun h5 => ?_)
  · refine q_iconst (pc := 12) rfl (nI 0) (by decide) ?_
    refine q_iret (pc := 13) rfl (rfl) ?_
    first | exact ht h5 | exact hf h5
  · refine q_iconst (pc := 8) rfl (nI 1) (by decide) ?_
    refine q_goto (pc := 9) rfl ?_
    refine q_iret (pc := 13) rfl (rfl) ?_
    first | exact ht h5 | exact hf h5
theorem c_item (H : HR P h s) (hl : 51 ≤ P.1) (hq : isS q) (hn : s q 2 = nI n) (hn40 : n ≤ 40) (hj : j < n) (hQ : Q (some (.int (s (q + 1) j))) h) : wc d 59 [.ref q, .int (nI j)] h Q := by
  refine wc.go [_, _] rfl ?_
  refine q_iload_n (pc := 0) rfl rfl ?_
  refine q_iflt (pc := 1) rfl (fun h1 => ?_) (fun h1 => ?_)
  · first | (exfalso; omega) | exact absurd h1 (nI_pos (by omega)) | exact absurd (nI_pos' (by omega)) h1
  · refine q_iload_n (pc := 4) rfl rfl ?_
    refine q_aload_n (pc := 5) rfl rfl rfl ?_
    refine q_getf (pc := 6) rfl (by exact HR.S2 H hl hq hn) rfl rfl ?_
    first | refine n_icmpge (pc := 9) rfl (by omega) (by omega) (fun h9 => ?_) (fun h9 => ?_) | refine q_icmpge (pc := 9) rfl (fun h9 => ?_) (fun h9 => ?_)
    · first | (exfalso; omega) | exact absurd h9 (nI_pos (by omega)) | exact absurd (nI_pos' (by omega)) h9
    · refine q_iload_n (pc := 12) rfl rfl ?_
      refine q_bipush (pc := 13) rfl (nI 40) (by decide) ?_
      first | refine n_icmpge (pc := 15) rfl (by omega) (by omega) (fun h15 => ?_) (fun h15 => ?_) | refine q_icmpge (pc := 15) rfl (fun h15 => ?_) (fun h15 => ?_)
      · first | (exfalso; omega) | exact absurd h15 (nI_pos (by omega)) | exact absurd (nI_pos' (by omega)) h15
      · refine q_aload_n (pc := 18) rfl rfl rfl ?_
        refine q_getf (pc := 19) rfl (by exact HR.S2 H hl hq hn) rfl rfl ?_
        refine q_iload_n (pc := 22) rfl rfl ?_
        refine n_ild (pc := 23) rfl (by exact HR.ait H hl hq) rfl (by omega) (by omega) ?_
        refine q_goto (pc := 24) rfl ?_
        refine q_iret (pc := 28) rfl (rfl) ?_
        exact hQ
theorem c_itemX (H : HR P h s) (hl : 51 ≤ P.1) (hq : isS q) (hn : s q 2 = nI n) (hn40 : n ≤ 40) (ht : ∀ j, j < n → x = nI j → Q (some (.int (s (q + 1) j))) h) (hf : (x < 0 ∨ nI n ≤ x) → Q (some (.int 0)) h) : wc d 59 [.ref q, .int x] h Q := by
  refine wc.go [_, _] rfl ?_
  refine q_iload_n (pc := 0) rfl rfl ?_
  refine q_iflt (pc := 1) rfl (fun h1 => ?_) (fun h1 => ?_)
  · refine q_iconst (pc := 27) rfl (nI 0) (by decide) ?_
    refine q_iret (pc := 28) rfl (rfl) ?_
    first | exact ht j hj rfl | exact hf (Or.inl h1) | exact hf (Or.inr h9)
  · refine q_iload_n (pc := 4) rfl rfl ?_
    refine q_aload_n (pc := 5) rfl rfl rfl ?_
    refine q_getf (pc := 6) rfl (by exact HR.S2 H hl hq hn) rfl rfl ?_
    first | refine n_icmpge (pc := 9) rfl (by omega) (by omega) (fun h9 => ?_) (fun h9 => ?_) | refine q_icmpge (pc := 9) rfl (fun h9 => ?_) (fun h9 => ?_)
    · refine q_iconst (pc := 27) rfl (nI 0) (by decide) ?_
      refine q_iret (pc := 28) rfl (rfl) ?_
      first | exact ht j hj rfl | exact hf (Or.inl h1) | exact hf (Or.inr h9)
    · obtain ⟨j, hj, rfl⟩ := x_big (by omega) h1 h9
      refine q_iload_n (pc := 12) rfl rfl ?_
      refine q_bipush (pc := 13) rfl (nI 40) (by decide) ?_
      first | refine n_icmpge (pc := 15) rfl (by omega) (by omega) (fun h15 => ?_) (fun h15 => ?_) | refine q_icmpge (pc := 15) rfl (fun h15 => ?_) (fun h15 => ?_)
      · first | (exfalso; omega) | exact absurd h15 (nI_pos (by omega)) | exact absurd (nI_pos' (by omega)) h15
      · refine q_aload_n (pc := 18) rfl rfl rfl ?_
        refine q_getf (pc := 19) rfl (by exact HR.S2 H hl hq hn) rfl rfl ?_
        refine q_iload_n (pc := 22) rfl rfl ?_
        refine n_ild (pc := 23) rfl (by exact HR.ait H hl hq) rfl (by omega) (by omega) ?_
        refine q_goto (pc := 24) rfl ?_
        refine q_iret (pc := 28) rfl (rfl) ?_
        first | exact ht j hj rfl | exact hf (Or.inl h1) | exact hf (Or.inr h9)
theorem c_put (H : HR P h s) (hl : 51 ≤ P.1) (hq : isS q) (hn : s q 2 = nI n) (hn40 : n ≤ 40) (hj : j < n) (kk : ∀ h', HR P h' (stv s (q + 1) j (narS (s q 1) y)) → Q none h') : wc d 60 [.ref q, .int (nI j), .int y] h Q := by
  unfold narS at kk
  refine wc.go [_, _, _] rfl ?_
  refine q_iload_n (pc := 0) rfl rfl ?_
  refine q_iflt (pc := 1) rfl (fun h1 => ?_) (fun h1 => ?_)
  · first | (exfalso; omega) | exact absurd h1 (nI_pos (by omega)) | exact absurd (nI_pos' (by omega)) h1
  · refine q_iload_n (pc := 4) rfl rfl ?_
    refine q_aload_n (pc := 5) rfl rfl rfl ?_
    refine q_getf (pc := 6) rfl (by exact HR.S2 H hl hq hn) rfl rfl ?_
    first | refine n_icmpge (pc := 9) rfl (by omega) (by omega) (fun h9 => ?_) (fun h9 => ?_) | refine q_icmpge (pc := 9) rfl (fun h9 => ?_) (fun h9 => ?_)
    · first | (exfalso; omega) | exact absurd h9 (nI_pos (by omega)) | exact absurd (nI_pos' (by omega)) h9
    · refine q_iload_n (pc := 12) rfl rfl ?_
      refine q_bipush (pc := 13) rfl (nI 40) (by decide) ?_
      first | refine n_icmpge (pc := 15) rfl (by omega) (by omega) (fun h15 => ?_) (fun h15 => ?_) | refine q_icmpge (pc := 15) rfl (fun h15 => ?_) (fun h15 => ?_)
      · first | (exfalso; omega) | exact absurd h15 (nI_pos (by omega)) | exact absurd (nI_pos' (by omega)) h15
      · refine q_aload_n (pc := 18) rfl rfl rfl ?_
        refine q_getf (pc := 19) rfl (by exact HR.S2 H hl hq hn) rfl rfl ?_
        refine q_iload_n (pc := 22) rfl rfl ?_
        refine q_aload_n (pc := 23) rfl rfl rfl ?_
        refine q_getf (pc := 24) rfl (by exact HR.S2 H hl hq hn) rfl rfl ?_
        first | refine n_ifne (pc := 27) rfl (by omega) (fun h27 => ?_) (fun h27 => ?_) | refine q_ifne (pc := 27) rfl (fun h27 => ?_) (fun h27 => ?_)
        · refine q_aload_n (pc := 35) rfl rfl rfl ?_
          refine q_getf (pc := 36) rfl (by exact HR.S2 H hl hq hn) rfl rfl ?_
          refine q_iconst (pc := 39) rfl (nI 1) (by decide) ?_
          first | refine n_icmpne (pc := 40) rfl (by omega) (by omega) (fun h40 => ?_) (fun h40 => ?_) | refine q_icmpne (pc := 40) rfl (fun h40 => ?_) (fun h40 => ?_)
          · refine q_iload_n (pc := 48) rfl rfl ?_
            refine r_ist2 (pc := 49) rfl H hl (okS1 hq) (ecS1 hq) rfl (by omega) (by omega) ?_
            intro h H
            refine q_vret (pc := 50) rfl rfl ?_
            first | (rw [if_pos h27] at kk; exact kk _ H) | (rw [if_neg h27, if_pos (show s q 1 = 1 from h40)] at kk; exact kk _ H) | (rw [if_neg h27, if_neg (show ¬ s q 1 = 1 from h40)] at kk; exact kk _ H)
          · refine q_iload_n (pc := 43) rfl rfl ?_
            refine q_i2s (pc := 44) rfl ?_
            refine q_goto (pc := 45) rfl ?_
            refine r_ist2 (pc := 49) rfl H hl (okS1 hq) (ecS1 hq) rfl (by omega) (by omega) ?_
            intro h H
            refine q_vret (pc := 50) rfl rfl ?_
            first | (rw [if_pos h27] at kk; exact kk _ H) | (rw [if_neg h27, if_pos (show s q 1 = 1 from h40)] at kk; exact kk _ H) | (rw [if_neg h27, if_neg (show ¬ s q 1 = 1 from h40)] at kk; exact kk _ H)
        · refine q_iload_n (pc := 30) rfl rfl ?_
          refine q_i2b (pc := 31) rfl ?_
          refine q_goto (pc := 32) rfl ?_
          refine r_ist2 (pc := 49) rfl H hl (okS1 hq) (ecS1 hq) rfl (by omega) (by omega) ?_
          intro h H
          refine q_vret (pc := 50) rfl rfl ?_
          first | (rw [if_pos h27] at kk; exact kk _ H) | (rw [if_neg h27, if_pos (show s q 1 = 1 from h40)] at kk; exact kk _ H) | (rw [if_neg h27, if_neg (show ¬ s q 1 = 1 from h40)] at kk; exact kk _ H)
theorem c_cleanL (hl : 51 ≤ P.1) (hq : isS q) {s0 : mx_St} {x y : Int32} (kk : ∀ h' s', HR P h' s' → sf s0 s' (fun i => i = q + 1) → (∀ i, i < 40 → s' (q + 1) i = 0) → Q none h') (i : Nat) (hi : i ≤ 40) (h : mx_H) (s : mx_St) (H : HR P h s) (hs : sf s0 s (fun i => i = q + 1)) (h0 : ∀ j, j < i → s (q + 1) j = 0) : wq d 58 18 [some (.ref q), some (.int x), some (.int y), some (.int (nI i))] [] h Q := by
  refine q_iload_n (pc := 18) rfl rfl ?_
  refine q_bipush (pc := 19) rfl (nI 40) (by decide) ?_
  first | refine n_icmpge (pc := 21) rfl (by omega) (by omega) (fun h21 => ?_) (fun h21 => ?_) | refine q_icmpge (pc := 21) rfl (fun h21 => ?_) (fun h21 => ?_)
  · refine q_vret (pc := 37) rfl rfl ?_
    exact kk _ _ H hs (fun j hj => h0 j (by omega))
  · refine q_aload_n (pc := 24) rfl rfl rfl ?_
    refine q_getf (pc := 25) rfl (by exact HR.S H hl hq) rfl rfl ?_
    refine q_iload_n (pc := 28) rfl rfl ?_
    refine q_iconst (pc := 29) rfl (nI 0) (by decide) ?_
    refine r_ist2 (pc := 30) rfl H hl (okS1 hq) (ecS1 hq) rfl (by omega) (by omega) ?_
    intro h H
    first | refine n_iinc (pc := 31) rfl [_, _, _, _] 1 (by decide) rfl rfl ?_ | refine q_iinc (pc := 31) [_, _, _, _] (1) rfl rfl (by decide) rfl ?_
    refine q_goto (pc := 34) rfl ?_
    refine c_cleanL hl hq kk (i + 1) (by omega) h _ H (hs.st rfl) (lt_s (fun j hj => ?_) stv_a)
    rw [stv_o (by omega)]
    exact h0 j hj
termination_by 40 - i
theorem c_sbecome (hd : 1 ≤ d) (H : HR P h s) (hl : 51 ≤ P.1) (hq : isS q) (hn : n ≤ 40) (kk : ∀ h' s', HR P h' s' → sf s s' (fun i => q ≤ i ∧ i < q + 2) → s' q 1 = x → s' q 2 = nI n → (∀ i, i < 40 → s' (q + 1) i = 0) → Q none h') : wc d 58 [.ref q, .int x, .int (nI n)] h Q := by
  refine wc.go [_, _, _, _] rfl ?_
  refine q_aload_n (pc := 0) rfl rfl rfl ?_
  refine q_iload_n (pc := 1) rfl rfl ?_
  refine r_pf2 (pc := 2) (i := 1) rfl H hl (okS hq) (ecS hq _) rfl rfl (Nat.le_of_ble_eq_true rfl) rfl (ecS hq _) ?_
  intro h H
  refine q_aload_n (pc := 5) rfl rfl rfl ?_
  refine q_iload_n (pc := 6) rfl rfl ?_
  refine q_iconst (pc := 7) rfl (nI 0) (by decide) ?_
  refine q_bipush (pc := 8) rfl (nI 40) (by decide) ?_
  refine q_callS (pc := 10) _ (by decide) rfl rfl rfl rfl (Nat.le_of_ble_eq_true rfl) (by omega) _ rfl ?_
  refine c_boundX (by omega) (by omega) ?_
  rw [bdN_n (by omega), show max 0 (min n 40) = n by omega]
  refine r_pf2 (pc := 13) (i := 2) rfl H hl (okS hq) (ecS hq _) rfl rfl (Nat.le_of_ble_eq_true rfl) rfl (ecS hq _) ?_
  intro h H
  refine q_iconst (pc := 16) rfl (nI 0) (by decide) ?_
  refine q_istore_n (pc := 17) [_, _, _, _] rfl (Nat.le_of_ble_eq_true rfl) rfl ?_
  refine c_cleanL hl hq (fun h' s' H' k1 k2 => kk h' s' H' (((sf.rf.st (by omega)).st (by omega)).tr (k1.mono (fun i g => by omega))) ?_ ?_ k2) 0 (by omega) h _ H sf.rf (fun j hj => by omega)
  · rw [k1 q (by omega), stv_o (by decide), stv_a]
  · rw [k1 q (by omega), stv_a]
theorem c_liesL (hd : 1 ≤ d) (H : HR P h s) (hl : 51 ≤ P.1) (hq : isS q) (hn : s q 2 = nI n) (hn40 : n ≤ 40) (hb : isB b) (hβ : BT s b β) (ht : (∀ c, c < n → c < 36 → nI (β c) = s (q + 1) c) → Q (some (.int 1)) h) (hf : (¬ ∀ c, c < n → c < 36 → nI (β c) = s (q + 1) c) → Q (some (.int 0)) h) (c : Nat) (hc : c ≤ 36 ∧ c ≤ n) (hi : ∀ j, j < c → nI (β j) = s (q + 1) j) : wq d 11 2 [some (.ref b), some (.ref q), some (.int (nI c))] [] h Q := by
  refine q_iload_n (pc := 2) rfl rfl ?_
  refine q_aload_n (pc := 3) rfl rfl rfl ?_
  refine q_getf (pc := 4) rfl (by first | exact HR.S2 H hl hq hn | exact HR.B H hl hb hβ) rfl rfl ?_
  first | refine n_icmpge (pc := 7) rfl (by omega) (by omega) (fun h7 => ?_) (fun h7 => ?_) | refine q_icmpge (pc := 7) rfl (fun h7 => ?_) (fun h7 => ?_)
  · refine q_iconst (pc := 38) rfl (nI 1) (by decide) ?_
    refine q_iret (pc := 39) rfl (rfl) ?_
    first | exact ht (fun j g1 g2 => hi j (by omega)) | exact hf (fun z => h27 (z c (by omega) (by omega)))
  · refine q_iload_n (pc := 10) rfl rfl ?_
    refine q_bipush (pc := 11) rfl (nI 36) (by decide) ?_
    first | refine n_icmpge (pc := 13) rfl (by omega) (by omega) (fun h13 => ?_) (fun h13 => ?_) | refine q_icmpge (pc := 13) rfl (fun h13 => ?_) (fun h13 => ?_)
    · refine q_iconst (pc := 38) rfl (nI 1) (by decide) ?_
      refine q_iret (pc := 39) rfl (rfl) ?_
      first | exact ht (fun j g1 g2 => hi j (by omega)) | exact hf (fun z => h27 (z c (by omega) (by omega)))
    · refine q_aload_n (pc := 16) rfl rfl rfl ?_
      refine q_getf (pc := 17) rfl (by first | exact HR.S2 H hl hq hn | exact HR.B H hl hb hβ) rfl rfl ?_
      refine q_iload_n (pc := 20) rfl rfl ?_
      refine n_ild (pc := 21) rfl (by exact HR.am H hl hb hβ) rfl (by omega) (by omega) ?_
      refine q_aload_n (pc := 22) rfl rfl rfl ?_
      refine q_iload_n (pc := 23) rfl rfl ?_
      refine q_callV (pc := 24) _ rfl rfl rfl (by first | exact HR.S2 H hl hq hn | exact HR.B H hl hb hβ) rfl (Nat.le_of_ble_eq_true rfl) (by omega) _ rfl ?_
      refine c_item H hl hq hn hn40 h7 ?_
      refine q_icmpeq (pc := 27) rfl (fun h27 => ?_) (fun h27 => ?_)
      · first | refine n_iinc (pc := 32) rfl [_, _, _] 1 (by decide) rfl rfl ?_ | refine q_iinc (pc := 32) [_, _, _] (1) rfl rfl (by decide) rfl ?_
        refine q_goto (pc := 35) rfl ?_
        exact c_liesL hd H hl hq hn hn40 hb hβ ht hf (c + 1) (by omega) (lt_s hi h27)
      · refine q_iconst (pc := 30) rfl (nI 0) (by decide) ?_
        refine q_iret (pc := 31) rfl (rfl) ?_
        first | exact ht (fun j g1 g2 => hi j (by omega)) | exact hf (fun z => h27 (z c (by omega) (by omega)))
termination_by 36 - c
theorem c_liesAs (hd : 1 ≤ d) (H : HR P h s) (hl : 51 ≤ P.1) (hq : isS q) (hn : s q 2 = nI n) (hn40 : n ≤ 40) (hb : isB b) (hβ : BT s b β) (ht : (∀ c, c < n → c < 36 → nI (β c) = s (q + 1) c) → Q (some (.int 1)) h) (hf : (¬ ∀ c, c < n → c < 36 → nI (β c) = s (q + 1) c) → Q (some (.int 0)) h) : wc d 11 [.ref b, .ref q] h Q := by
  refine wc.go [_, _, _] rfl ?_
  refine q_iconst (pc := 0) rfl (nI 0) (by decide) ?_
  refine q_istore_n (pc := 1) [_, _, _] rfl (Nat.le_of_ble_eq_true rfl) rfl ?_
  exact c_liesL hd H hl hq hn hn40 hb hβ ht hf 0 (by omega) (fun j hj => by omega)
/-- of its items so many are cells, no two alike -/
def onceN (F : Nat → Int32) (n : Nat) : Prop := (∀ i, i < n → ∃ c, c < 36 ∧ F i = nI c) ∧ ∀ i j, i < j → j < n → F i ≠ F j
theorem c_onceL (hd : 2 ≤ d) (H : HR P h s) (hl : 51 ≤ P.1) (hq : isS q) (hn : s q 2 = nI n) (hn40 : n ≤ 40) (ht : onceN (s (q + 1)) n → Q (some (.int 1)) h) (hf : ¬ onceN (s (q + 1)) n → Q (some (.int 0)) h) (i : Nat) (hi : i ≤ n) (w : Nat) (hw : w < 2 ^ 36) (hwi : ∀ c, c < 36 → (w.testBit c = true ↔ ∃ j, j < i ∧ s (q + 1) j = nI c)) (h1 : onceN (s (q + 1)) i) (z : Option Value) : wq d 61 4 [some (.ref q), some (.long (lN w)), none, some (.int (nI i)), z] [] h Q := by
  refine q_iload_n (pc := 4) rfl rfl ?_
  refine q_aload_n (pc := 5) rfl rfl rfl ?_
  refine q_getf (pc := 6) rfl (by exact HR.S2 H hl hq hn) rfl rfl ?_
  first | refine n_icmpge (pc := 9) rfl (by omega) (by omega) (fun h9 => ?_) (fun h9 => ?_) | refine q_icmpge (pc := 9) rfl (fun h9 => ?_) (fun h9 => ?_)
  · refine q_iconst (pc := 52) rfl (nI 1) (by decide) ?_
    refine q_iret (pc := 53) rfl (rfl) ?_
    obtain rfl : i = n := by omega
    exact ht h1
  · refine q_aload_n (pc := 12) rfl rfl rfl ?_
    refine q_iload_n (pc := 13) rfl rfl ?_
    refine q_callV (pc := 14) _ rfl rfl rfl (by exact HR.S2 H hl hq hn) rfl (Nat.le_of_ble_eq_true rfl) (by omega) _ rfl ?_
    refine c_item H hl hq hn hn40 h9 ?_
    refine q_istore (pc := 17) [_, _, _, _, _] rfl (Nat.le_of_ble_eq_true rfl) rfl ?_
    refine q_iload (pc := 19) rfl rfl ?_
    refine q_callS (pc := 21) _ (by decide) rfl rfl rfl rfl (Nat.le_of_ble_eq_true rfl) (by omega) _ rfl ?_
    refine c_isCell (fun c0 hc0 hx0 => ?_) (fun g => ?_)
    · rw [hx0]
      refine q_ifeq (pc := 24) rfl (fun z => absurd z (by decide)) (fun _ => ?_)
      refine q_lload_n (pc := 27) rfl rfl ?_
      refine q_iload (pc := 28) rfl rfl ?_
      refine q_callS (pc := 30) _ (by decide) rfl rfl rfl rfl (Nat.le_of_ble_eq_true rfl) (by omega) _ rfl ?_
      refine c_hasT (by omega) hc0 hw (fun g => ?_) (fun g => ?_)
      · refine q_ifeq (pc := 33) rfl (fun z => absurd z (by decide)) (fun _ => ?_)
        refine q_iconst (pc := 36) rfl (nI 0) (by decide) ?_
        refine q_iret (pc := 37) rfl (rfl) ?_
        first | exact hf (fun z => by
          obtain ⟨j, hj, e⟩ := (hwi c0 hc0).mp g
          exact z.2 j i hj h9 (e.trans hx0.symm)) | exact hf (fun z => by
          obtain ⟨c, hc, e⟩ := z.1 i h9
          rw [e] at g
          rcases g with g | g
          · exact absurd g (nI_pos (by omega))
          · exact absurd (x_le g (by omega) (by omega)) (by omega))
      · refine q_ifeq (pc := 33) rfl (fun _ => ?_) (fun z => absurd (by decide) z)
        refine q_lload_n (pc := 38) rfl rfl ?_
        refine q_iload (pc := 39) rfl rfl ?_
        refine q_callS (pc := 41) _ (by decide) rfl rfl rfl rfl (Nat.le_of_ble_eq_true rfl) (by omega) _ rfl ?_
        refine c_bitN hc0 ?_
        first | refine n_lor (pc := 44) rfl ?_ | refine q_lor (pc := 44) rfl ?_
        refine q_lstore_n (pc := 45) [_, _, _, _, _] rfl (Nat.le_of_ble_eq_true rfl) rfl ?_
        first | refine n_iinc (pc := 46) rfl [_, _, _, _, _] 1 (by decide) rfl rfl ?_ | refine q_iinc (pc := 46) [_, _, _, _, _] (1) rfl rfl (by decide) rfl ?_
        refine q_goto (pc := 49) rfl ?_
        refine c_onceL hd H hl hq hn hn40 ht hf (i + 1) (by omega) _ (Nat.or_lt_two_pow hw (Nat.pow_lt_pow_right (by decide) hc0)) (fun c hc => ?_) ⟨lt_s h1.1 ⟨c0, hc0, hx0⟩, fun j1 j2 g1 g2 => ?_⟩ _
        · rw [Nat.testBit_or, Nat.testBit_two_pow, Bool.or_eq_true, hwi c hc]
          constructor
          · rintro (⟨j, hj, e⟩ | e)
            · exact ⟨j, by omega, e⟩
            · exact ⟨i, by omega, by rw [hx0, of_decide_eq_true e]⟩
          · rintro ⟨j, hj, e⟩
            by_cases g : j < i
            · exact Or.inl ⟨j, g, e⟩
            · obtain rfl : j = i := by omega
              exact Or.inr (decide_eq_true (x_eq (hx0.symm.trans e) (by omega) (by omega)))
        · by_cases g3 : j2 < i
          · exact h1.2 j1 j2 g1 g3
          · obtain rfl : j2 = i := by omega
            intro e
            have := (hwi c0 hc0).mpr ⟨j1, g1, e.trans hx0⟩
            rw [g] at this
            cases this
    · refine q_ifeq (pc := 24) rfl (fun _ => ?_) (fun z => absurd (by decide) z)
      refine q_iconst (pc := 36) rfl (nI 0) (by decide) ?_
      refine q_iret (pc := 37) rfl (rfl) ?_
      first | exact hf (fun z => by
        obtain ⟨j, hj, e⟩ := (hwi c0 hc0).mp g
        exact z.2 j i hj h9 (e.trans hx0.symm)) | exact hf (fun z => by
        obtain ⟨c, hc, e⟩ := z.1 i h9
        rw [e] at g
        rcases g with g | g
        · exact absurd g (nI_pos (by omega))
        · exact absurd (x_le g (by omega) (by omega)) (by omega))
termination_by n - i
theorem c_once (hd : 2 ≤ d) (H : HR P h s) (hl : 51 ≤ P.1) (hq : isS q) (hn : s q 2 = nI n) (hn40 : n ≤ 40) (ht : onceN (s (q + 1)) n → Q (some (.int 1)) h) (hf : ¬ onceN (s (q + 1)) n → Q (some (.int 0)) h) : wc d 61 [.ref q] h Q := by
  refine wc.go [_, _, _, _, _] rfl ?_
  refine q_lconst (pc := 0) rfl (0) (by decide) ?_
  refine q_lstore_n (pc := 1) [_, _, _, _, _] rfl (Nat.le_of_ble_eq_true rfl) rfl ?_
  refine q_iconst (pc := 2) rfl (nI 0) (by decide) ?_
  refine q_istore_n (pc := 3) [_, _, _, _, _] rfl (Nat.le_of_ble_eq_true rfl) rfl ?_
  exact c_onceL hd H hl hq hn hn40 ht hf 0 (by omega) 0 (by decide) (fun c hc => ⟨fun z => (by rw [Nat.zero_testBit] at z; cases z), fun ⟨j, hj, _⟩ => by omega⟩) ⟨fun i hi => by omega, fun i j g1 g2 => by omega⟩ _
end P22
