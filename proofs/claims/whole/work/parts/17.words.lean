/-! ===== words for the pure contracts: naturals in ints, arrays, frames ===== -/
theorem x_le {a b : Nat} (h : nI a ≤ nI b) (ha : a < 2 ^ 31) (hb : b < 2 ^ 31) : a ≤ b := (nI_leI ha hb).mp h
theorem x_nle {a b : Nat} (h : ¬ nI a ≤ nI b) (ha : a < 2 ^ 31) (hb : b < 2 ^ 31) : b < a := Nat.not_le.mp fun z => h ((nI_leI ha hb).mpr z)
theorem x_lt {a b : Nat} (h : nI a < nI b) (ha : a < 2 ^ 31) (hb : b < 2 ^ 31) : a < b := (nI_ltI ha hb).mp h
theorem x_nlt {a b : Nat} (h : ¬ nI a < nI b) (ha : a < 2 ^ 31) (hb : b < 2 ^ 31) : b ≤ a := Nat.not_lt.mp fun z => h ((nI_ltI ha hb).mpr z)
theorem x_eq {a b : Nat} (h : nI a = nI b) (ha : a < 2 ^ 31) (hb : b < 2 ^ 31) : a = b := (nI_eq ha hb).mp h
theorem x_ne {a b : Nat} (h : ¬ nI a = nI b) : a ≠ b := fun z => h (by rw [z])
theorem x_neg {a : Nat} (ha : a < 2 ^ 31) : ¬ nI a < 0 := nI_pos ha
theorem x_of {x : Int32} (h : ¬ x < 0) : ∃ j : Nat, j < 2 ^ 31 ∧ x = nI j := nI_of h
theorem x_sub {a b : Nat} (h : b ≤ a) : nI a - nI b = nI (a - b) := pk_sub h
theorem x_big {x : Int32} {n : Nat} (hn : n < 2 ^ 31) (h1 : ¬ x < 0) (h2 : ¬ nI n ≤ x) : ∃ j : Nat, j < n ∧ x = nI j := by
  obtain ⟨j, hj, rfl⟩ := nI_of h1
  exact ⟨j, x_nle h2 hn hj, rfl⟩
theorem x_upto {x : Int32} {n : Nat} (hn : n < 2 ^ 31) (h1 : ¬ x < 0) (h2 : x ≤ nI n) : ∃ j : Nat, j ≤ n ∧ x = nI j := by
  obtain ⟨j, hj, rfl⟩ := nI_of h1
  exact ⟨j, x_le h2 hj hn, rfl⟩
theorem x_vin {j n : Nat} (h : j < n) (hn : n < 2 ^ 31) : mx_vin (nI j) n = true := by
  unfold mx_vin
  exact decide_eq_true (vp_in_nI h hn)
theorem x_cl {j : Nat} (h : j < 2 ^ 31) : (nI j).toNatClampNeg = j := nI_clamp h
def dif (a b : Nat) : Nat := (a - b) + (b - a)
def ab32 (x : Int32) : Int32 := if 0 ≤ x then x else 0 - x
theorem x_dif {a b : Nat} (ha : a < 2 ^ 30) (hb : b < 2 ^ 30) : ab32 (nI a - nI b) = nI (dif a b) := by
  unfold ab32 dif
  by_cases h : b ≤ a
  · rw [x_sub h, if_pos (nI_pos' (by omega)), show b - a = 0 by omega, Nat.add_zero]
  · have hneg := pk_sneg hb (show a < b by omega)
    rw [if_neg (Int32.not_le.mpr hneg), show a - b = 0 by omega, Nat.zero_add]
    rw [Int32.zero_sub, Int32.neg_sub]
    exact x_sub (by omega)
theorem x_div6 {a : Nat} (ha : a < 2 ^ 31) : nI a / 6 = nI (a / 6) := pk_div ha (by decide) (by decide)
theorem x_rem6 {a : Nat} (ha : a < 2 ^ 31) : nI a - nI a / 6 * 6 = nI (a % 6) := pk_rem ha (by decide) (by decide)
/-- how far cells are apart -/
def apN (a b : Nat) : Nat := dif (a % 6) (b % 6) + dif (a / 6) (b / 6)
theorem apN_le {a b : Nat} (ha : a < 36) (hb : b < 36) : apN a b ≤ 10 := by
  unfold apN dif
  omega
/-- nothing else has changed -/
def fr (h h' : mx_H) (S : Nat → Prop) : Prop := h'.1 = h.1 ∧ h'.2.1 = h.2.1 ∧ ∀ i, ¬ S i → h'.2.2 i = h.2.2 i
theorem fr.rf {h : mx_H} {S : Nat → Prop} : fr h h S := ⟨rfl, rfl, fun _ _ => rfl⟩
theorem fr.tr {h h1 h2 : mx_H} {S : Nat → Prop} (a : fr h h1 S) (b : fr h1 h2 S) : fr h h2 S := ⟨b.1.trans a.1, b.2.1.trans a.2.1, fun i hi => (b.2.2 i hi).trans (a.2.2 i hi)⟩
theorem fr.mono {h h1 : mx_H} {S S' : Nat → Prop} (a : fr h h1 S) (hs : ∀ i, S i → S' i) : fr h h1 S' := ⟨a.1, a.2.1, fun i hi => a.2.2 i (fun z => hi (hs i z))⟩
/-- an array of ints -/
def ia (h : mx_H) (b n : Nat) (F : Nat → Int32) : Prop := ∃ f, h.2.2 b = .inl (0, n, .inl f) ∧ ∀ j, j < n → f j = F j
theorem ia.fr {h h' : mx_H} {b n : Nat} {F : Nat → Int32} {S : Nat → Prop} (a : ia h b n F) (f : fr h h' S) (hs : ¬ S b) : ia h' b n F := by
  obtain ⟨g, h1, h2⟩ := a
  exact ⟨g, (f.2.2 b hs).trans h1, h2⟩
theorem ia.to {h : mx_H} {b n : Nat} {F G : Nat → Int32} (a : ia h b n F) (e : ∀ j, j < n → F j = G j) : ia h b n G := by
  obtain ⟨g, h1, h2⟩ := a
  exact ⟨g, h1, fun j hj => (h2 j hj).trans (e j hj)⟩
/-- an object -/
theorem ob.fr {h h' : mx_H} {b : Nat} {e : mx_E} {S : Nat → Prop} (a : h.2.2 b = e) (f : fr h h' S) (hs : ¬ S b) : h'.2.2 b = e := (f.2.2 b hs).trans a
theorem fr_set (h : mx_H) (b : Nat) (e : mx_E) : fr h (mx_set h b e) (fun i => i = b) := ⟨rfl, rfl, fun i hi => by simp [mx_set, hi]⟩
theorem set_at (h : mx_H) (b : Nat) (e : mx_E) : (mx_set h b e).2.2 b = e := by simp [mx_set]
section WR
variable {d k pc a : Nat} {v : Int} {L L' : mx_L} {st r : List Value} {h : mx_H} {Q : Option Value → mx_H → Prop} {x y : Int32}
theorem r_ild {b n : Nat} {F : Nat → Int32} (hc : mx_tb k pc = some (.iaload, a, v)) (A : ia h b n F) (j : Nat) (hx : x = nI j) (hj : j < n) (hn : n < 2 ^ 31) (kk : wq d k (pc + 1) L (.int (F j) :: r) h Q) : wq d k pc L (.int x :: .ref b :: r) h Q := by
  obtain ⟨f, h1, h2⟩ := A
  subst hx
  refine q_iaload hc h1 (x_vin hj hn) ?_
  rw [x_cl (by omega), h2 j hj]
  exact kk
theorem r_ist {b n : Nat} {F : Nat → Int32} (hc : mx_tb k pc = some (.iastore, a, v)) (A : ia h b n F) (hb : b < mx_big) (j : Nat) (hx : x = nI j) (hj : j < n) (hn : n < 2 ^ 31) (kk : ∀ h', ia h' b n (upd F j y) → fr h h' (fun i => i = b) → wq d k (pc + 1) L r h' Q) : wq d k pc L (.int y :: .int x :: .ref b :: r) h Q := by
  obtain ⟨f, h1, h2⟩ := A
  subst hx
  refine q_iastore hc h1 hb (x_vin hj hn) ?_
  rw [x_cl (by omega)]
  refine kk _ ⟨upd f j y, set_at _ _ _, fun i hi => ?_⟩ (fr_set _ _ _)
  unfold upd
  split
  · rfl
  · exact h2 i hi
theorem r_pf {j b ci : Nat} {fs fs' : List Value} {va : Value} (hc : mx_tb k pc = some (.putfield j, a, v)) (hh : h.2.2 b = .inr (ci, fs)) (hi : ci = a / 100) (hl : a % 100 < fs.length) (hf : mx_fit (mx_tyf a) va = true) (hs : fs.set (a % 100) va = fs') (kk : ∀ h', h'.2.2 b = .inr (ci, fs') → fr h h' (fun i => i = b) → wq d k (pc + 3) L r h' Q) : wq d k pc L (va :: .ref b :: r) h Q :=
  q_putf hc hh hi hl hf hs (kk _ (set_at _ _ _) (fr_set _ _ _))
end WR
