/-! ===== what all the calls keep ===== -/
def rg (n : Nat) (x : Int32) : Nat := if x < 0 ∨ nI n ≤ x then n else x.toNatClampNeg
theorem rg_in {n j : Nat} (hj : j < n) (hn : n < 2 ^ 31) : rg n (nI j) = j := by
  unfold rg
  rw [if_neg (fun g => x_out hj hn g), x_cl (by omega)]
theorem rg_out {n : Nat} {x : Int32} (g : x < 0 ∨ nI n ≤ x) : rg n x = n := by
  unfold rg
  rw [if_pos g]
/-- hidden from omega -/
def Hd (p : Prop) : Prop := p
theorem Hd.out {p : Prop} (h : Hd p) : p := h
theorem rgc (n : Nat) (hn : n < 2 ^ 31) (x : Int32) : (∃ j, j < n ∧ x = nI j ∧ Hd (rg n x = j)) ∨ ((x < 0 ∨ nI n ≤ x) ∧ Hd (rg n x = n)) := by
  by_cases g : x < 0 ∨ nI n ≤ x
  · exact Or.inr ⟨g, rg_out g⟩
  · obtain ⟨j, hj, rfl⟩ := x_big hn (fun z => g (Or.inl z)) (fun z => g (Or.inr z))
    exact Or.inl ⟨j, hj, rfl, rg_in hj hn⟩
theorem rg_no {n j : Nat} {x : Int32} (g : x < 0 ∨ nI n ≤ x) (e : x = nI j) (hj : j < n ∧ n < 2 ^ 31) : False := by
  subst e
  exact x_out hj.1 hj.2 g
theorem eqQ {Q : Option Value → mx_H → Prop} {h : mx_H} {v v' : Int32} (e : v' = v) (q : Q (some (.int v')) h) : Q (some (.int v)) h := e ▸ q
theorem eqL {Q : Option Value → mx_H → Prop} {h : mx_H} {v v' : Int64} (e : v' = v) (q : Q (some (.long v')) h) : Q (some (.long v)) h := e ▸ q
/-- the class's cells hold it: now, the image, is there one, the tape, its size, the texts, the sheets -/
def CA (P : mx_Pm) (s : mx_St) (β κ : Nat → Nat) (ik : Nat) (tp : Nat → Nat) (tz : Nat) (C : Nat → Nat → Int32) (E : Nat → Nat → Nat) (σ : Nat → Int32) (sz : Nat → Nat) (cl : Nat → Nat → Int32) : Prop :=
  BT s 1 β ∧ BT s 17 κ ∧ s 0 3 = nI ik ∧ (∀ i, i < tz → s 26 i = nI (tp i)) ∧ s 25 1 = nI tz ∧ TB P s C E ∧ ∀ q, q < 4 → s (43 + 2 * q) 1 = σ q ∧ s (43 + 2 * q) 2 = nI (sz q) ∧ ∀ i, i < 40 → s (43 + 2 * q + 1) i = cl q i
def isσ (x : Int32) : Prop := x = -1 ∨ x = 0 ∨ x = 1 ∨ x = 2
def AOK (n : Nat) (β κ : Nat → Nat) (ik : Nat) (tp : Nat → Nat) (tz : Nat) (σ : Nat → Int32) (sz : Nat → Nat) : Prop :=
  bok β n ∧ β 89 ≤ 999 ∧ bok κ n ∧ κ 89 ≤ 999 ∧ ik ≤ 1 ∧ tz ≤ 160 ∧ (∀ i, i < tz → tp i ≤ 255) ∧ ∀ q, q < 4 → sz q ≤ 40 ∧ isσ (σ q)
/-- what a call of the class's may touch besides -/
def cS (i : Nat) : Prop := i < 54 ∨ 75 ≤ i
theorem CA.fr {P : mx_Pm} {s s' : mx_St} {β κ : Nat → Nat} {ik : Nat} {tp : Nat → Nat} {tz : Nat} {C : Nat → Nat → Int32} {E : Nat → Nat → Nat} {σ : Nat → Int32} {sz : Nat → Nat} {cl : Nat → Nat → Int32} {S : Nat → Prop} (A : CA P s β κ ik tp tz C E σ sz cl) (f : sf s s' S) (hS : ∀ i, S i → (9 ≤ i ∧ i < 17) ∨ (27 ≤ i ∧ i < 31) ∨ (33 ≤ i ∧ i < 42) ∨ (54 ≤ i ∧ i < 75)) : CA P s' β κ ik tp tz C E σ sz cl := by
  obtain ⟨h1, h2, h3, h4, h5, h6, h7⟩ := A
  have e : ∀ i, ¬ ((9 ≤ i ∧ i < 17) ∨ (27 ≤ i ∧ i < 31) ∨ (33 ≤ i ∧ i < 42) ∨ (54 ≤ i ∧ i < 75)) → s' i = s i := fun i hi => f i (fun z => hi (hS i z))
  refine ⟨h1.fr f (fun i g1 g2 z => by have := hS i z; omega), h2.fr f (fun i g1 g2 z => by have := hS i z; omega), (congrFun (e 0 (by omega)) 3).trans h3, fun i hi => (congrFun (e 26 (by omega)) i).trans (h4 i hi), (congrFun (e 25 (by omega)) 1).trans h5, h6.fr f (fun i z => by have := hS i z; omega), fun q hq => ?_⟩
  obtain ⟨g1, g2, g3⟩ := h7 q hq
  exact ⟨(congrFun (e _ (by omega)) _).trans g1, (congrFun (e _ (by omega)) _).trans g2, fun i hi => (congrFun (e _ (by omega)) _).trans (g3 i hi)⟩
theorem HR.X {P : mx_Pm} {h : mx_H} {s : mx_St} {ik : Nat} (H : HR P h s) (hl : 51 ≤ P.1) (hk : s 0 3 = nI ik) : h.2.2 0 = .inr (8, [.ref 1, .ref 9, .ref 17, .int (nI ik), .ref 25, .ref 31, .ref 36, .ref 37, .ref 42]) := by
  rw [H.c hl 0 rfl, show hr_c 0 (s 0) = .inr (8, [.ref 1, .ref 9, .ref 17, .int (s 0 3), .ref 25, .ref 31, .ref 36, .ref 37, .ref 42]) from rfl, hk]
theorem HR.X' {P : mx_Pm} {h : mx_H} {s : mx_St} (H : HR P h s) (hl : 51 ≤ P.1) : h.2.2 0 = .inr (8, [.ref 1, .ref 9, .ref 17, .int (s 0 3), .ref 25, .ref 31, .ref 36, .ref 37, .ref 42]) := H.c hl 0 rfl
/-- a beach is changed, the rest stays -/
theorem CA.now {P : mx_Pm} {s s' : mx_St} {β β' κ : Nat → Nat} {ik : Nat} {tp : Nat → Nat} {tz : Nat} {C : Nat → Nat → Int32} {E : Nat → Nat → Nat} {σ : Nat → Int32} {sz : Nat → Nat} {cl : Nat → Nat → Int32} {S : Nat → Prop} (A : CA P s β κ ik tp tz C E σ sz cl) (f : sf s s' S) (hS : ∀ i, S i → (1 ≤ i ∧ i < 17) ∨ (27 ≤ i ∧ i < 31) ∨ (33 ≤ i ∧ i < 42)) (hb : BT s' 1 β') : CA P s' β' κ ik tp tz C E σ sz cl := by
  obtain ⟨h1, h2, h3, h4, h5, h6, h7⟩ := A
  have e : ∀ i, ¬ ((1 ≤ i ∧ i < 17) ∨ (27 ≤ i ∧ i < 31) ∨ (33 ≤ i ∧ i < 42)) → s' i = s i := fun i hi => f i (fun z => hi (hS i z))
  refine ⟨hb, h2.fr f (fun i g1 g2 z => by have := hS i z; omega), (congrFun (e 0 (by omega)) 3).trans h3, fun i hi => (congrFun (e 26 (by omega)) i).trans (h4 i hi), (congrFun (e 25 (by omega)) 1).trans h5, h6.fr f (fun i z => by have := hS i z; omega), fun q hq => ?_⟩
  obtain ⟨g1, g2, g3⟩ := h7 q hq
  exact ⟨(congrFun (e _ (by omega)) _).trans g1, (congrFun (e _ (by omega)) _).trans g2, fun i hi => (congrFun (e _ (by omega)) _).trans (g3 i hi)⟩
