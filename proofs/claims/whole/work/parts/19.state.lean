def hr_el : List ((Nat → Int32) → mx_E) := [
  fun F => .inr (8, [.ref 1, .ref 9, .ref 17, .int (F 3), .ref 25, .ref 31, .ref 36, .ref 37, .ref 42]),
  fun F => .inr (0, [.ref 2, .ref 3, .ref 4, .int (F 3), .int (F 4), .int (F 5)]),
  fun F => .inl (0, 36, .inl F),
  fun F => .inl (0, 36, .inl F),
  fun _ => .inl (3, 4, .inr (fun p => if p < 4 then some (5 + p) else none)),
  fun F => .inr (2, [.int (F 0), .int (F 1), .int (F 2), .int (F 3)]),
  fun F => .inr (2, [.int (F 0), .int (F 1), .int (F 2), .int (F 3)]),
  fun F => .inr (2, [.int (F 0), .int (F 1), .int (F 2), .int (F 3)]),
  fun F => .inr (2, [.int (F 0), .int (F 1), .int (F 2), .int (F 3)]),
  fun F => .inr (0, [.ref 10, .ref 11, .ref 12, .int (F 3), .int (F 4), .int (F 5)]),
  fun F => .inl (0, 36, .inl F),
  fun F => .inl (0, 36, .inl F),
  fun _ => .inl (3, 4, .inr (fun p => if p < 4 then some (13 + p) else none)),
  fun F => .inr (2, [.int (F 0), .int (F 1), .int (F 2), .int (F 3)]),
  fun F => .inr (2, [.int (F 0), .int (F 1), .int (F 2), .int (F 3)]),
  fun F => .inr (2, [.int (F 0), .int (F 1), .int (F 2), .int (F 3)]),
  fun F => .inr (2, [.int (F 0), .int (F 1), .int (F 2), .int (F 3)]),
  fun F => .inr (0, [.ref 18, .ref 19, .ref 20, .int (F 3), .int (F 4), .int (F 5)]),
  fun F => .inl (0, 36, .inl F),
  fun F => .inl (0, 36, .inl F),
  fun _ => .inl (3, 4, .inr (fun p => if p < 4 then some (21 + p) else none)),
  fun F => .inr (2, [.int (F 0), .int (F 1), .int (F 2), .int (F 3)]),
  fun F => .inr (2, [.int (F 0), .int (F 1), .int (F 2), .int (F 3)]),
  fun F => .inr (2, [.int (F 0), .int (F 1), .int (F 2), .int (F 3)]),
  fun F => .inr (2, [.int (F 0), .int (F 1), .int (F 2), .int (F 3)]),
  fun F => .inr (3, [.ref 26, .int (F 1), .ref 27, .ref 28, .int (F 4), .int (F 5), .ref 29, .int (F 7), .ref 30, .int (F 9)]),
  fun F => .inl (0, 160, .inl F),
  fun F => .inl (0, 161, .inl F),
  fun F => .inl (0, 161, .inl F),
  fun F => .inl (0, 160, .inl F),
  fun F => .inl (0, 3, .inl F),
  fun F => .inr (4, [.ref 32, .int (F 1), .ref 33, .ref 34, .ref 35]),
  fun _ => mx_nil,
  fun F => .inl (0, 6, .inl F),
  fun F => .inl (0, 160, .inl F),
  fun F => .inl (0, 36, .inl F),
  fun F => .inr (1, [.int (F 0), .int (F 1)]),
  fun F => .inr (7, [.ref 38, .int (F 1), .ref 39, .ref 40, .ref 41, .int (F 5), .int (F 6)]),
  fun F => .inl (0, 7, .inl F),
  fun F => .inl (0, 896, .inl F),
  fun F => .inl (0, 28, .inl F),
  fun F => .inl (0, 4, .inl F),
  fun _ => .inl (5, 4, .inr (fun p => if p < 4 then some (43 + 2 * p) else none)),
  fun F => .inr (5, [.ref 44, .int (F 1), .int (F 2)]),
  fun F => .inl (0, 40, .inl F),
  fun F => .inr (5, [.ref 46, .int (F 1), .int (F 2)]),
  fun F => .inl (0, 40, .inl F),
  fun F => .inr (5, [.ref 48, .int (F 1), .int (F 2)]),
  fun F => .inl (0, 40, .inl F),
  fun F => .inr (5, [.ref 50, .int (F 1), .int (F 2)]),
  fun F => .inl (0, 40, .inl F),
  fun _ => mx_nil,
  fun _ => mx_nil,
  fun _ => mx_nil,
  fun F => .inr (9, [.ref 55, .ref 56, .ref 57, .int (F 3), .ref 58, .int (F 5), .int (F 6), .int (F 7), .int (F 8), .int (F 9), .ref 59, .ref 60, .int (F 12), .int (F 13), .ref 61, .ref 62, .int (F 16), .ref 63, .int (F 18), .int (F 19), .int (F 20), .ref 64, .ref 65, .int (F 23), .ref 66, .ref 67, .int (F 26), .int (F 27), .int (F 28), .ref 68, .ref 69, .ref 70, .ref 71, .ref 72, .ref 73, .ref 74]),
  fun F => .inl (0, 91, .inl F),
  fun F => .inl (0, 91, .inl F),
  fun F => .inl (0, 91, .inl F),
  fun F => .inl (0, 160, .inl F),
  fun F => .inl (0, 960, .inl F),
  fun F => .inl (0, 18, .inl F),
  fun F => .inl (2, 72, .inl F),
  fun F => .inl (0, 160, .inl F),
  fun F => .inl (0, 160, .inl F),
  fun F => .inl (0, 36, .inl F),
  fun F => .inl (1, 36, .inl F),
  fun F => .inl (0, 7, .inl F),
  fun F => .inl (0, 28, .inl F),
  fun F => .inl (0, 4, .inl F),
  fun F => .inl (0, 4, .inl F),
  fun F => .inl (0, 4, .inl F),
  fun F => .inl (0, 4, .inl F),
  fun F => .inl (0, 160, .inl F),
  fun F => .inl (0, 40, .inl F),
  fun F => .inl (0, 6, .inl F)]
def hr_c (b : Nat) (F : Nat → Int32) : mx_E := (hr_el.getD b (fun _ => mx_nil)) F
abbrev mx_St : Type := Nat → Nat → Int32
/-- how far it is laid, how many texts, cells, slots, the texts' lengths, the script's length, the script -/
abbrev mx_Pm : Type := Nat × Nat × Nat × Nat × (Nat → Nat) × Nat × (Nat → Int32)
def okc (n b : Nat) : Bool := Nat.blt b n && (Nat.blt b 32 || Nat.blt 32 b) && (Nat.blt b 51 || Nat.blt 53 b)
def tid (t : Nat) : Nat := if t = 0 then 51 else 72 + 3 * t
def hr_t (h : mx_H) (s : mx_St) (ln : Nat → Nat) (t : Nat) : Prop := h.2.2 (tid t) = .inl (0, ln t, .inl (s (tid t))) ∧ h.2.2 (tid t + 1) = .inr (6, [.ref (tid t), .ref (tid t + 2)]) ∧ h.2.2 (tid t + 2) = .inl (0, 3, .inl (s (tid t + 2)))
def hr_g (n : Nat) : Nat → Option Nat := fun t => if t < n then some (tid t + 1) else none
/-- the heap holds s -/
def HR (P : mx_Pm) (h : mx_H) (s : mx_St) : Prop := (P.1 ≤ 75 ∧ P.2.1 ≤ 6) ∧ h.1 = P.2.2.1 ∧ h.2.1 = P.2.2.2.1 ∧ (∀ b, okc P.1 b = true → h.2.2 b = hr_c b (s b)) ∧ h.2.2 32 = .inl (4, 6, .inr (hr_g P.2.1)) ∧ (∀ t, t < P.2.1 → hr_t h s P.2.2.2.2.1 t) ∧ h.2.2 mx_big = .inl (0, P.2.2.2.2.2.1, .inl P.2.2.2.2.2.2)
def stF (s : mx_St) (b : Nat) (F : Nat → Int32) : mx_St := fun i => if i = b then F else s i
def stv (s : mx_St) (b j : Nat) (v : Int32) : mx_St := stF s b (upd (s b) j v)
theorem okc_spec {n b : Nat} (h : okc n b = true) : b < n ∧ b ≠ 32 ∧ (b < 51 ∨ 53 < b) := by
  unfold okc at h
  simp only [Bool.and_eq_true, Bool.or_eq_true, Bool.not_eq_true', Nat.blt_eq] at h
  exact ⟨h.1.1, by have := h.1.2; omega, h.2⟩
theorem okc_of {n b : Nat} (h1 : b < n) (h2 : b ≠ 32) (h3 : b < 51 ∨ 53 < b) : okc n b = true := by
  unfold okc
  simp only [Bool.and_eq_true, Bool.or_eq_true, Bool.not_eq_true', Nat.blt_eq]
  exact ⟨⟨h1, by omega⟩, h3⟩
theorem okc_mono {n m b : Nat} (h : okc n b = true) (hm : n ≤ m) : okc m b = true := by
  obtain ⟨h1, h2, h3⟩ := okc_spec h
  exact okc_of (by omega) h2 h3
theorem tid_spec (t : Nat) : (tid t = 51 ∧ t = 0) ∨ (tid t = 72 + 3 * t ∧ 0 < t) := by
  unfold tid
  split
  · exact Or.inl ⟨rfl, by assumption⟩
  · exact Or.inr ⟨rfl, by omega⟩
theorem stF_s (s : mx_St) (b : Nat) (F : Nat → Int32) : stF s b F b = F := by simp [stF]
theorem stF_n (s : mx_St) {b i : Nat} (F : Nat → Int32) (h : i ≠ b) : stF s b F i = s i := by simp [stF, h]
theorem HR.c {P : mx_Pm} {h : mx_H} {s : mx_St} {n : Nat} (H : HR P h s) (hl : n ≤ P.1) (b : Nat) (hok : okc n b = true) : h.2.2 b = hr_c b (s b) := H.2.2.2.1 b (okc_mono hok hl)
theorem HR.set {P : mx_Pm} {h : mx_H} {s : mx_St} {n b : Nat} {e : mx_E} {F : Nat → Int32} (H : HR P h s) (hl : n ≤ P.1) (hok : okc n b = true) (he : hr_c b F = e) : HR P (mx_set h b e) (stF s b F) := by
  obtain ⟨⟨h0, h00⟩, h1, h2, h3, h4, h5, h6⟩ := H
  obtain ⟨o1, o2, o3⟩ := okc_spec (okc_mono hok hl)
  have hs : ∀ i, i ≠ b → (mx_set h b e).2.2 i = h.2.2 i := fun i hi => by simp [mx_set, hi]
  refine ⟨⟨h0, h00⟩, h1, h2, fun i hi => ?_, (hs 32 (by omega)).trans h4, fun t ht => ?_, (hs mx_big (by show (1000000 : Nat) ≠ b; omega)).trans h6⟩
  · by_cases e1 : i = b
    · subst e1
      rw [stF_s, he]
      simp [mx_set]
    · rw [stF_n _ _ e1, hs i e1]
      exact h3 i hi
  · obtain ⟨q1, q2, q3⟩ := h5 t ht
    have := tid_spec t
    refine ⟨?_, ?_, ?_⟩
    · rw [stF_n _ _ (by omega), hs _ (by omega)]; exact q1
    · rw [hs _ (by omega)]; exact q2
    · rw [stF_n _ _ (by omega), hs _ (by omega)]; exact q3
/-- the three beaches, the staff, the sheets -/
def isB (b : Nat) : Prop := b = 1 ∨ b = 9 ∨ b = 17
def isS (q : Nat) : Prop := q = 43 ∨ q = 45 ∨ q = 47 ∨ q = 49
theorem isB1 : isB 1 := Or.inl rfl
theorem isB9 : isB 9 := Or.inr (Or.inl rfl)
theorem isB17 : isB 17 := Or.inr (Or.inr rfl)
theorem isS_of {p : Nat} (hp : p < 4) : isS (43 + 2 * p) := by unfold isS; omega
section LY
variable {b q p n : Nat} {F : Nat → Int32}
theorem okB (hb : isB b) : okc 51 b = true := by rcases hb with rfl | rfl | rfl <;> rfl
theorem okB1 (hb : isB b) : okc 51 (b + 1) = true := by rcases hb with rfl | rfl | rfl <;> rfl
theorem okB2 (hb : isB b) : okc 51 (b + 2) = true := by rcases hb with rfl | rfl | rfl <;> rfl
theorem okB3 (hb : isB b) : okc 51 (b + 3) = true := by rcases hb with rfl | rfl | rfl <;> rfl
theorem okO (hb : isB b) (hp : p < 4) : okc 51 (b + 4 + p) = true := okc_of (by unfold isB at hb; omega) (by unfold isB at hb; omega) (by unfold isB at hb; omega)
theorem okS (hq : isS q) : okc 51 q = true := by rcases hq with rfl | rfl | rfl | rfl <;> rfl
theorem okS1 (hq : isS q) : okc 51 (q + 1) = true := by rcases hq with rfl | rfl | rfl | rfl <;> rfl
theorem ecB (hb : isB b) (F : Nat → Int32) : hr_c b F = .inr (0, [.ref (b + 1), .ref (b + 2), .ref (b + 3), .int (F 3), .int (F 4), .int (F 5)]) := by rcases hb with rfl | rfl | rfl <;> rfl
theorem ecB1 (hb : isB b) (F : Nat → Int32) : hr_c (b + 1) F = .inl (0, 36, .inl F) := by rcases hb with rfl | rfl | rfl <;> rfl
theorem ecB2 (hb : isB b) (F : Nat → Int32) : hr_c (b + 2) F = .inl (0, 36, .inl F) := by rcases hb with rfl | rfl | rfl <;> rfl
theorem ecB3 (hb : isB b) (F : Nat → Int32) : hr_c (b + 3) F = .inl (3, 4, .inr (fun p => if p < 4 then some (b + 4 + p) else none)) := by rcases hb with rfl | rfl | rfl <;> rfl
theorem p4 {p : Nat} (h : p < 4) : p = 0 ∨ p = 1 ∨ p = 2 ∨ p = 3 := by omega
theorem ecO (hb : isB b) (hp : p < 4) (F : Nat → Int32) : hr_c (b + 4 + p) F = .inr (2, [.int (F 0), .int (F 1), .int (F 2), .int (F 3)]) := by
  rcases hb with rfl | rfl | rfl <;> rcases p4 hp with rfl | rfl | rfl | rfl <;> rfl
theorem ecS (hq : isS q) (F : Nat → Int32) : hr_c q F = .inr (5, [.ref (q + 1), .int (F 1), .int (F 2)]) := by rcases hq with rfl | rfl | rfl | rfl <;> rfl
theorem ecS1 (hq : isS q) (F : Nat → Int32) : hr_c (q + 1) F = .inl (0, 40, .inl F) := by rcases hq with rfl | rfl | rfl | rfl <;> rfl
end LY
section RW
variable {d k pc a i j b ci n m : Nat} {v : Int} {L L' : mx_L} {st r : List Value} {P : mx_Pm} {h : mx_H} {s : mx_St} {Q : Option Value → mx_H → Prop} {x y : Int32} {fs : List Value}
theorem r_pf2 (hc : mx_tb k pc = some (.putfield j, a, v)) (H : HR P h s) (hl : n ≤ P.1) (hok : okc n b = true) (he : hr_c b (s b) = .inr (ci, fs)) (hi : ci = a / 100) (hai : a % 100 = i) (hlen : i < fs.length) (hf : mx_fit (mx_tyf a) (.int x) = true) (hs : hr_c b (upd (s b) i x) = .inr (ci, fs.set i (.int x))) (kk : ∀ h', HR P h' (stv s b i x) → wq d k (pc + 3) L r h' Q) : wq d k pc L (.int x :: .ref b :: r) h Q := by
  subst hai
  exact q_putf hc ((H.c hl b hok).trans he) hi hlen hf rfl (kk _ (H.set hl hok hs))
theorem n_ild {F : Nat → Int32} {i : Nat} (hc : mx_tb k pc = some (.iaload, a, v)) (A : ia h b n F) (hx : x = nI i) (hj : i < n) (hn : n < 2 ^ 31) (kk : wq d k (pc + 1) L (.int (F i) :: r) h Q) : wq d k pc L (.int x :: .ref b :: r) h Q := by
  obtain ⟨f, h1, h2⟩ := A
  subst hx
  refine q_iaload hc h1 (x_vin hj hn) ?_
  rw [x_cl (by omega), h2 i hj]
  exact kk
theorem r_ist2 {i : Nat} (hc : mx_tb k pc = some (.iastore, a, v)) (H : HR P h s) (hl : n ≤ P.1) (hok : okc n b = true) (he : ∀ F, hr_c b F = .inl (0, m, .inl F)) (hx : x = nI i) (hj : i < m) (hm : m < 2 ^ 31) (kk : ∀ h', HR P h' (stv s b i y) → wq d k (pc + 1) L r h' Q) : wq d k pc L (.int y :: .int x :: .ref b :: r) h Q := by
  subst hx
  obtain ⟨o1, o2, o3⟩ := okc_spec hok
  refine q_iastore hc ((H.c hl b hok).trans (he _)) (by have := H.1.1; show b < 1000000; omega) (x_vin hj hm) ?_
  rw [x_cl (by omega)]
  exact kk _ (H.set hl hok (he _))
theorem HR.la {F : Nat → Int32} (H : HR P h s) (hl : n ≤ P.1) (hok : okc n b = true) (he : hr_c b (s b) = .inl (0, m, .inl (s b))) (hF : ∀ i, i < m → s b i = F i) : ia h b m F := ⟨s b, (H.c hl b hok).trans he, hF⟩
theorem HR.la0 (H : HR P h s) (hl : n ≤ P.1) (hok : okc n b = true) (he : hr_c b (s b) = .inl (0, m, .inl (s b))) : ia h b m (s b) := H.la hl hok he (fun _ _ => rfl)
/-! naturals on the stack -/
theorem n_iadd (hc : mx_tb k pc = some (.iadd, a, v)) (kk : wq d k (pc + 1) L (.int (nI (i + j)) :: r) h Q) : wq d k pc L (.int (nI j) :: .int (nI i) :: r) h Q := q_iadd hc (by rw [nI_add]; exact kk)
theorem n_imul (hc : mx_tb k pc = some (.imul, a, v)) (kk : wq d k (pc + 1) L (.int (nI (i * j)) :: r) h Q) : wq d k pc L (.int (nI j) :: .int (nI i) :: r) h Q := q_imul hc (by rw [pk_mul]; exact kk)
theorem n_isub (hc : mx_tb k pc = some (.isub, a, v)) (hj : j ≤ i) (kk : wq d k (pc + 1) L (.int (nI (i - j)) :: r) h Q) : wq d k pc L (.int (nI j) :: .int (nI i) :: r) h Q := q_isub hc (by rw [x_sub hj]; exact kk)
theorem n_idiv (hc : mx_tb k pc = some (.idiv, a, v)) (hi : i < 2 ^ 31) (h0 : 0 < j) (hj : j < 2 ^ 31) (kk : wq d k (pc + 1) L (.int (nI (i / j)) :: r) h Q) : wq d k pc L (.int (nI j) :: .int (nI i) :: r) h Q := q_idiv hc (nI_ne0 h0 hj) (by rw [pk_div hi h0 hj]; exact kk)
theorem n_irem (hc : mx_tb k pc = some (.irem, a, v)) (hi : i < 2 ^ 31) (h0 : 0 < j) (hj : j < 2 ^ 31) (kk : wq d k (pc + 1) L (.int (nI (i % j)) :: r) h Q) : wq d k pc L (.int (nI j) :: .int (nI i) :: r) h Q := q_irem hc (nI_ne0 h0 hj) (by rw [pk_rem hi h0 hj]; exact kk)
theorem n_iinc {n : Int} (hc : mx_tb k pc = some (.iinc i n, a, v)) (L' : mx_L) (z : Nat) (hz : Int32.ofInt n = nI z) (hl : L[i]? = some (some (.int (nI j)))) (hL : mx_store L i (.int (nI (j + z))) = L') (kk : wq d k (pc + 3) L' st h Q) : wq d k pc L st h Q := q_iinc L' (nI z) hc hl hz (by rw [nI_add]; exact hL) kk
theorem n_icmpeq {o : Int} (hc : mx_tb k pc = some (.if_icmp .eq o, a, v)) (hi : i < 2 ^ 31) (hj : j < 2 ^ 31) (kt : i = j → wq d k a L r h Q) (kf : i ≠ j → wq d k (pc + 3) L r h Q) : wq d k pc L (.int (nI j) :: .int (nI i) :: r) h Q := q_icmpeq hc (fun z => kt (x_eq z hi hj)) (fun z => kf (x_ne z))
theorem n_icmpne {o : Int} (hc : mx_tb k pc = some (.if_icmp .ne o, a, v)) (hi : i < 2 ^ 31) (hj : j < 2 ^ 31) (kt : i ≠ j → wq d k a L r h Q) (kf : i = j → wq d k (pc + 3) L r h Q) : wq d k pc L (.int (nI j) :: .int (nI i) :: r) h Q := q_icmpne hc (fun z => kt (x_ne z)) (fun z => kf (x_eq z hi hj))
theorem n_icmplt {o : Int} (hc : mx_tb k pc = some (.if_icmp .lt o, a, v)) (hi : i < 2 ^ 31) (hj : j < 2 ^ 31) (kt : i < j → wq d k a L r h Q) (kf : j ≤ i → wq d k (pc + 3) L r h Q) : wq d k pc L (.int (nI j) :: .int (nI i) :: r) h Q := q_icmplt hc (fun z => kt (x_lt z hi hj)) (fun z => kf (x_nlt z hi hj))
theorem n_icmpge {o : Int} (hc : mx_tb k pc = some (.if_icmp .ge o, a, v)) (hi : i < 2 ^ 31) (hj : j < 2 ^ 31) (kt : j ≤ i → wq d k a L r h Q) (kf : i < j → wq d k (pc + 3) L r h Q) : wq d k pc L (.int (nI j) :: .int (nI i) :: r) h Q := q_icmpge hc (fun z => kt (x_le z hj hi)) (fun z => kf (x_nle z hj hi))
theorem n_icmpgt {o : Int} (hc : mx_tb k pc = some (.if_icmp .gt o, a, v)) (hi : i < 2 ^ 31) (hj : j < 2 ^ 31) (kt : j < i → wq d k a L r h Q) (kf : i ≤ j → wq d k (pc + 3) L r h Q) : wq d k pc L (.int (nI j) :: .int (nI i) :: r) h Q := q_icmpgt hc (fun z => kt (x_lt z hj hi)) (fun z => kf (x_nlt z hj hi))
theorem n_icmple {o : Int} (hc : mx_tb k pc = some (.if_icmp .le o, a, v)) (hi : i < 2 ^ 31) (hj : j < 2 ^ 31) (kt : i ≤ j → wq d k a L r h Q) (kf : j < i → wq d k (pc + 3) L r h Q) : wq d k pc L (.int (nI j) :: .int (nI i) :: r) h Q := q_icmple hc (fun z => kt (x_le z hi hj)) (fun z => kf (x_nle z hi hj))
theorem n_ifeq {o : Int} (hc : mx_tb k pc = some (.ifCond .eq o, a, v)) (hi : i < 2 ^ 31) (kt : i = 0 → wq d k a L r h Q) (kf : i ≠ 0 → wq d k (pc + 3) L r h Q) : wq d k pc L (.int (nI i) :: r) h Q := q_ifeq hc (fun z => kt ((nI_eq (b := 0) hi (by decide)).mp z)) (fun z => kf (fun e => z (by rw [e]; rfl)))
theorem n_ifne {o : Int} (hc : mx_tb k pc = some (.ifCond .ne o, a, v)) (hi : i < 2 ^ 31) (kt : i ≠ 0 → wq d k a L r h Q) (kf : i = 0 → wq d k (pc + 3) L r h Q) : wq d k pc L (.int (nI i) :: r) h Q := q_ifne hc (fun z => kt (fun e => z (by rw [e]; rfl))) (fun z => kf ((nI_eq (b := 0) hi (by decide)).mp z))
theorem n_ifle {o : Int} (hc : mx_tb k pc = some (.ifCond .le o, a, v)) (hi : i < 2 ^ 31) (kt : i = 0 → wq d k a L r h Q) (kf : 0 < i → wq d k (pc + 3) L r h Q) : wq d k pc L (.int (nI i) :: r) h Q := q_ifle hc (fun z => kt (Nat.le_zero.mp ((nI_leI (b := 0) hi (by decide)).mp z))) (fun z => kf (Nat.pos_of_ne_zero (fun e => z (by rw [e]; decide))))
theorem n_ifgt {o : Int} (hc : mx_tb k pc = some (.ifCond .gt o, a, v)) (hi : i < 2 ^ 31) (kt : 0 < i → wq d k a L r h Q) (kf : i = 0 → wq d k (pc + 3) L r h Q) : wq d k pc L (.int (nI i) :: r) h Q := q_ifgt hc (fun z => kt (Nat.pos_of_ne_zero (fun e => absurd z (by rw [e]; decide)))) (fun z => kf (Classical.byContradiction fun e => z ((nI_ltI (a := 0) (by decide) hi).mpr (Nat.pos_of_ne_zero e))))
end RW
/-! ===== a beach as numbers: 36 marks, 36 plans, four of the staff by four, how many, the tide, the rule ===== -/
def BT (s : mx_St) (b : Nat) (β : Nat → Nat) : Prop := (∀ i, i < 36 → s (b + 1) i = nI (β i)) ∧ (∀ i, i < 36 → s (b + 2) i = nI (β (36 + i))) ∧ (∀ p, p < 4 → ∀ i, i < 4 → s (b + 4 + p) i = nI (β (72 + 4 * p + i))) ∧ s b 3 = nI (β 88) ∧ s b 4 = nI (β 89) ∧ s b 5 = nI (β 90)
def bok (β : Nat → Nat) (n : Nat) : Prop := (∀ i, i < 72 → β i ≤ 9) ∧ (∀ p, p < 4 → β (72 + 4 * p) ≤ 5 ∧ β (72 + 4 * p + 1) ≤ 9 ∧ β (72 + 4 * p + 2) < 36 ∧ β (72 + 4 * p + 3) ≤ 9999) ∧ β 88 ≤ 4 ∧ β 89 ≤ 1000 ∧ β 90 < n
def upN (β : Nat → Nat) (j v : Nat) : Nat → Nat := fun i => if i = j then v else β i
/-- only there it has changed -/
def sf (s s' : mx_St) (S : Nat → Prop) : Prop := ∀ i, ¬ S i → s' i = s i
theorem sf.rf {s : mx_St} {S : Nat → Prop} : sf s s S := fun _ _ => rfl
theorem sf.tr {s s1 s2 : mx_St} {S : Nat → Prop} (a : sf s s1 S) (b : sf s1 s2 S) : sf s s2 S := fun i hi => (b i hi).trans (a i hi)
theorem sf.mono {s s1 : mx_St} {S S' : Nat → Prop} (a : sf s s1 S) (hs : ∀ i, S i → S' i) : sf s s1 S' := fun i hi => a i (fun z => hi (hs i z))
theorem sf.st {s s1 : mx_St} {S : Nat → Prop} {b j : Nat} {v : Int32} (a : sf s s1 S) (hb : S b) : sf s (stv s1 b j v) S := fun i hi => by
  unfold stv
  rw [stF_n _ _ (fun e => hi (by rw [e]; exact hb))]
  exact a i hi
theorem stv_s {s : mx_St} {b j : Nat} {v : Int32} : stv s b j v b = upd (s b) j v := stF_s _ _ _
theorem stv_n {s : mx_St} {b j i : Nat} {v : Int32} (h : i ≠ b) : stv s b j v i = s i := stF_n _ _ h
theorem stv_a {s : mx_St} {b j : Nat} {v : Int32} : stv s b j v b j = v := by rw [stv_s]; exact pk_us
theorem stv_o {s : mx_St} {b j i : Nat} {v : Int32} (h : i ≠ j) : stv s b j v b i = s b i := by rw [stv_s]; exact pk_un h
section BT
variable {P : mx_Pm} {h : mx_H} {s s' : mx_St} {b p n v : Nat} {β : Nat → Nat}
theorem HR.B (H : HR P h s) (hl : 51 ≤ P.1) (hb : isB b) (hβ : BT s b β) : h.2.2 b = .inr (0, [.ref (b + 1), .ref (b + 2), .ref (b + 3), .int (nI (β 88)), .int (nI (β 89)), .int (nI (β 90))]) := by
  rw [H.c hl b (okB hb), ecB hb, hβ.2.2.2.1, hβ.2.2.2.2.1, hβ.2.2.2.2.2]
theorem HR.B' (H : HR P h s) (hl : 51 ≤ P.1) (hb : isB b) : h.2.2 b = .inr (0, [.ref (b + 1), .ref (b + 2), .ref (b + 3), .int (s b 3), .int (s b 4), .int (s b 5)]) := by
  rw [H.c hl b (okB hb), ecB hb]
theorem HR.O (H : HR P h s) (hl : 51 ≤ P.1) (hb : isB b) (hβ : BT s b β) (hp : p < 4) : h.2.2 (b + 4 + p) = .inr (2, [.int (nI (β (72 + 4 * p))), .int (nI (β (72 + 4 * p + 1))), .int (nI (β (72 + 4 * p + 2))), .int (nI (β (72 + 4 * p + 3)))]) := by
  rw [H.c hl _ (okO hb hp), ecO hb hp, hβ.2.2.1 p hp 0 (by decide), hβ.2.2.1 p hp 1 (by decide), hβ.2.2.1 p hp 2 (by decide), hβ.2.2.1 p hp 3 (by decide)]
  rfl
theorem HR.O' (H : HR P h s) (hl : 51 ≤ P.1) (hb : isB b) (hp : p < 4) : h.2.2 (b + 4 + p) = .inr (2, [.int (s (b + 4 + p) 0), .int (s (b + 4 + p) 1), .int (s (b + 4 + p) 2), .int (s (b + 4 + p) 3)]) := by
  rw [H.c hl _ (okO hb hp), ecO hb hp]
theorem HR.S (H : HR P h s) (hl : 51 ≤ P.1) {q : Nat} (hq : isS q) : h.2.2 q = .inr (5, [.ref (q + 1), .int (s q 1), .int (s q 2)]) := by
  rw [H.c hl q (okS hq), ecS hq]
theorem HR.am (H : HR P h s) (hl : 51 ≤ P.1) (hb : isB b) (hβ : BT s b β) : ia h (b + 1) 36 (fun i => nI (β i)) := H.la hl (okB1 hb) (ecB1 hb _) hβ.1
theorem HR.ap (H : HR P h s) (hl : 51 ≤ P.1) (hb : isB b) (hβ : BT s b β) : ia h (b + 2) 36 (fun i => nI (β (36 + i))) := H.la hl (okB2 hb) (ecB2 hb _) hβ.2.1
theorem HR.ac (H : HR P h s) (hl : 51 ≤ P.1) (hb : isB b) : h.2.2 (b + 3) = .inl (3, 4, .inr (fun p => if p < 4 then some (b + 4 + p) else none)) := (H.c hl _ (okB3 hb)).trans (ecB3 hb _)
theorem HR.ait (H : HR P h s) (hl : 51 ≤ P.1) {q : Nat} (hq : isS q) : ia h (q + 1) 40 (s (q + 1)) := H.la0 hl (okS1 hq) (ecS1 hq _)
theorem upN_s {j : Nat} : upN β j v j = v := by simp [upN]
theorem upN_n {i j : Nat} (h : i ≠ j) : upN β j v i = β i := by simp [upN, h]
theorem isB_lt (hb : isB b) : b = 1 ∨ b = 9 ∨ b = 17 := hb
theorem BT.fr {S : Nat → Prop} (hβ : BT s b β) (f : sf s s' S) (hs : ∀ i, b ≤ i → i < b + 8 → ¬ S i) : BT s' b β := by
  obtain ⟨h1, h2, h3, h4, h5, h6⟩ := hβ
  have e : ∀ i, b ≤ i → i < b + 8 → s' i = s i := fun i a c => f i (hs i a c)
  refine ⟨fun i hi => ?_, fun i hi => ?_, fun p hp i hi => ?_, ?_, ?_, ?_⟩
  · rw [e _ (by omega) (by omega)]; exact h1 i hi
  · rw [e _ (by omega) (by omega)]; exact h2 i hi
  · rw [e _ (by omega) (by omega)]; exact h3 p hp i hi
  · rw [e _ (by omega) (by omega)]; exact h4
  · rw [e _ (by omega) (by omega)]; exact h5
  · rw [e _ (by omega) (by omega)]; exact h6
/-- one number of a beach is put -/
theorem BT.pt {c j i : Nat} (hβ : BT s b β) (hj : (c = b + 1 ∧ i < 36 ∧ j = i) ∨ (c = b + 2 ∧ i < 36 ∧ j = 36 + i) ∨ (∃ p, p < 4 ∧ c = b + 4 + p ∧ i < 4 ∧ j = 72 + 4 * p + i) ∨ (c = b ∧ 3 ≤ i ∧ i < 6 ∧ j = 85 + i)) : BT (stv s c i (nI v)) b (upN β j v) := by
  obtain ⟨h1, h2, h3, h4, h5, h6⟩ := hβ
  have key : ∀ c' i' j', s c' i' = nI (β j') → ((c' = c ∧ i' = i) ↔ j' = j) → stv s c i (nI v) c' i' = nI (upN β j v j') := by
    intro c' i' j' e e2
    by_cases z : j' = j
    · obtain ⟨r1, r2⟩ := e2.mpr z
      subst r1; subst r2; subst z
      rw [stv_a, upN_s]
    · rw [upN_n z, ← e]
      by_cases z1 : c' = c
      · subst z1
        exact stv_o (fun z2 => z (e2.mp ⟨rfl, z2⟩))
      · rw [stv_n z1]
  refine ⟨fun i' hi => key _ _ _ (h1 i' hi) ?_, fun i' hi => key _ _ _ (h2 i' hi) ?_, fun p' hp i' hi => key _ _ _ (h3 p' hp i' hi) ?_, key _ _ _ h4 ?_, key _ _ _ h5 ?_, key _ _ _ h6 ?_⟩ <;>
  · rcases hj with ⟨a1, a2, a3⟩ | ⟨a1, a2, a3⟩ | ⟨p, a0, a1, a2, a3⟩ | ⟨a1, a2, a3, a4⟩ <;> omega
end BT
