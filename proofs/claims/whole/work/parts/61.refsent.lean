/-! ===== the reference: all are sent ===== -/
section P61
variable {d k pc a i j c p b t n m part q : Nat} {v : Int} {L L' : mx_L} {st r : List Value} {P : mx_Pm} {h : mx_H} {s : mx_St} {Q : Option Value → mx_H → Prop} {x y w z u : Int32} {β κ : Nat → Nat} {C : Nat → Nat → Int32} {E : Nat → Nat → Nat} {ik tz : Nat} {tp : Nat → Nat} {σ : Nat → Int32} {sz : Nat → Nat} {cl : Nat → Nat → Int32}
theorem cn7 : ∀ m, m < 8 → ∀ t, t < 2 ^ m → cntf t.testBit 7 = cntf t.testBit m := by decide +kernel
theorem mnF_cs {f : Nat → Bool} {c : Nat → Nat} {z n : Nat} : mnF f c z n = z ∨ ∃ i, i < n ∧ f i = true ∧ mnF f c z n = c i := by
  induction n with
  | zero => exact Or.inl rfl
  | succ n ih =>
    rw [mnF]
    split
    · rename_i e
      rcases Nat.le_total (mnF f c z n) (c n) with q | q
      · rw [Nat.min_eq_left q]
        rcases ih with g | ⟨i, hi, h1, h2⟩
        · exact Or.inl g
        · exact Or.inr ⟨i, by omega, h1, h2⟩
      · rw [Nat.min_eq_right q]
        exact Or.inr ⟨n, by omega, e, rfl⟩
    · rcases ih with g | ⟨i, hi, h1, h2⟩
      · exact Or.inl g
      · exact Or.inr ⟨i, by omega, h1, h2⟩
theorem nb_f {t i : Nat} (h : nbt t i = true) : t.testBit i = false := by
  unfold nbt at h
  cases z : t.testBit i
  · rfl
  · rw [z] at h
    exact absurd h (by decide)
theorem sdN_inf {Kc : Nat → Nat → Nat} {m z : Nat} (hm : m < 8) : ∀ n o t, t < 2 ^ m → z < cntf t.testBit m → sdN Kc m z n o t = 1000000 := by
  intro n
  induction n with
  | zero =>
    intro o t ht hz
    unfold sdN
    rw [cn7 m hm t ht, if_neg (by omega)]
  | succ n ih =>
    intro o t ht hz
    have h1 := sdN_le Kc m z (n + 1) o t
    have h0 := ih (o + 1) t ht hz
    rw [sdN] at h1 ⊢
    rcases mnF_cs (f := nbt t) (c := fun i => Kc o i + sdN Kc m z n (o + 1) (t ||| 2 ^ i)) (z := sdN Kc m z n (o + 1) t) (n := m) with e | ⟨i, hi, e1, e2⟩
    · rw [e, h0]
    · have o1 := st_or m hm t ht i hi (nb_f e1)
      have h2 := ih (o + 1) (t ||| 2 ^ i) o1.1 (by omega)
      have e3 : mnF (nbt t) (fun i => Kc o i + sdN Kc m z n (o + 1) (t ||| 2 ^ i)) (sdN Kc m z n (o + 1) t) m = Kc o i + sdN Kc m z n (o + 1) (t ||| 2 ^ i) := e2
      omega
theorem sdN_fe {Kc : Nat → Nat → Nat} {m z N : Nat} (hK : ∀ q i, q < N → i < m → Kc q i ≤ 109) : ∀ n o t, o + n = N → sdN Kc m z n o t < 1000000 → sdN Kc m z n o t ≤ 109 * n := by
  intro n
  induction n with
  | zero =>
    intro o t _ h
    unfold sdN at h ⊢
    split at h
    · rename_i e
      rw [if_pos e]
      omega
    · omega
  | succ n ih =>
    intro o t ho h
    rw [sdN] at h ⊢
    rcases mnF_cs (f := nbt t) (c := fun i => Kc o i + sdN Kc m z n (o + 1) (t ||| 2 ^ i)) (z := sdN Kc m z n (o + 1) t) (n := m) with e | ⟨i, hi, e1, e2⟩
    · rw [e] at h ⊢
      have := ih (o + 1) t (by omega) h
      omega
    · have e3 : mnF (nbt t) (fun i => Kc o i + sdN Kc m z n (o + 1) (t ||| 2 ^ i)) (sdN Kc m z n (o + 1) t) m = Kc o i + sdN Kc m z n (o + 1) (t ||| 2 ^ i) := e2
      have h2 := ih (o + 1) (t ||| 2 ^ i) (by omega) (by omega)
      have h3 := hK o i (by omega) hi
      omega
def upG (X : Nat × (Nat → Int32)) (v : Nat) (G : Nat → Int32) : Nat × (Nat → Int32) := if v < X.1 then (v, G) else X
def ups (S : Nat → Int32) (o : Nat) (v : Int32) : Nat → Int32 := fun q => if q = o then v else S q
def gfN (Kc : Nat → Nat → Nat) (m z : Nat) (g : Nat → Nat) (n o t : Nat) (S : Nat → Int32) : Nat → Int32 := fun q => if q < o then S q else if fgL Kc m z n o t q = 9 then -1 else nI (g (fgL Kc m z n o t q))
def resN (Kc : Nat → Nat → Nat) (m z : Nat) (g : Nat → Nat) (n o t oo : Nat) (S : Nat → Int32) (X : Nat × (Nat → Int32)) : Nat × (Nat → Int32) := if sdN Kc m z n o t < 1000000 then upG X (oo + sdN Kc m z n o t) (gfN Kc m z g n o t S) else X
theorem gf_pk {Kc : Nat → Nat → Nat} {m z n o t a : Nat} {g : Nat → Nat} {S : Nat → Int32} (hm : m < 8) (h : pkN Kc m z n o t = a) (ha : a < m) : gfN Kc m z g (n + 1) o t S = gfN Kc m z g n (o + 1) (t ||| 2 ^ a) (ups S o (nI (g a))) := by
  funext q
  unfold gfN ups
  rcases Nat.lt_trichotomy q o with e | e | e
  · rw [if_pos e, if_pos (show q < o + 1 by omega), if_neg (show ¬ q = o by omega)]
  · subst e
    rw [if_neg (show ¬ q < q by omega), if_pos (show q < q + 1 by omega), if_pos (show q = q from rfl), show fgL Kc m z (n + 1) q t q = a from by rw [fgL, if_pos rfl, h, if_pos ha], if_neg (show ¬ a = 9 by omega)]
  · rw [if_neg (show ¬ q < o by omega), if_neg (show ¬ q < o + 1 by omega), show fgL Kc m z (n + 1) o t q = fgL Kc m z n (o + 1) (t ||| 2 ^ a) q from by rw [fgL, if_neg (show ¬ q = o by omega), h, if_pos ha]]
theorem gf_no {Kc : Nat → Nat → Nat} {m z n o t : Nat} {g : Nat → Nat} {S : Nat → Int32} (h : ¬ pkN Kc m z n o t < m) : gfN Kc m z g (n + 1) o t S = gfN Kc m z g n (o + 1) t (ups S o (-1)) := by
  funext q
  unfold gfN ups
  rcases Nat.lt_trichotomy q o with e | e | e
  · rw [if_pos e, if_pos (show q < o + 1 by omega), if_neg (show ¬ q = o by omega)]
  · subst e
    rw [if_neg (show ¬ q < q by omega), if_pos (show q < q + 1 by omega), if_pos (show q = q from rfl), show fgL Kc m z (n + 1) q t q = 9 from by rw [fgL, if_pos rfl, if_neg h], if_pos rfl]
  · rw [if_neg (show ¬ q < o by omega), if_neg (show ¬ q < o + 1 by omega), show fgL Kc m z (n + 1) o t q = fgL Kc m z n (o + 1) t q from by rw [fgL, if_neg (show ¬ q = o by omega), if_neg h]]
def LPs (fe : Nat → Prop) (c : Nat → Nat) (G : Nat → Nat → Int32) (oo : Nat) (L : Nat × (Nat → Int32)) (i : Nat) (X : Nat × (Nat → Int32)) : Prop := (X = L ∧ ∀ j, j < i → fe j → L.1 ≤ oo + c j) ∨ (∃ a, a < i ∧ fe a ∧ X = (oo + c a, G a) ∧ oo + c a < L.1 ∧ (∀ j, j < i → fe j → c a ≤ c j) ∧ (∀ j, j < a → fe j → c a < c j))
theorem LPs_no {fe : Nat → Prop} {c : Nat → Nat} {G : Nat → Nat → Int32} {oo i : Nat} {L X : Nat × (Nat → Int32)} (h : LPs fe c G oo L i X) (hn : ¬ fe i) : LPs fe c G oo L (i + 1) X := by
  rcases h with ⟨h1, h2⟩ | ⟨a, h1, h2, h3, h4, h5, h6⟩
  · refine Or.inl ⟨h1, fun j hj q => ?_⟩
    rcases Nat.lt_succ_iff_lt_or_eq.mp hj with e | e
    · exact h2 j e q
    · subst e
      exact absurd q hn
  · refine Or.inr ⟨a, by omega, h2, h3, h4, fun j hj q => ?_, h6⟩
    rcases Nat.lt_succ_iff_lt_or_eq.mp hj with e | e
    · exact h5 j e q
    · subst e
      exact absurd q hn
theorem LPs_up {fe : Nat → Prop} {c : Nat → Nat} {G : Nat → Nat → Int32} {oo i : Nat} {L X : Nat × (Nat → Int32)} (h : LPs fe c G oo L i X) (hn : fe i) : LPs fe c G oo L (i + 1) (upG X (oo + c i) (G i)) := by
  unfold upG
  rcases h with ⟨h1, h2⟩ | ⟨a, h1, h2, h3, h4, h5, h6⟩
  · rw [h1]
    by_cases g : oo + c i < L.1
    · rw [if_pos g]
      refine Or.inr ⟨i, by omega, hn, rfl, g, fun j hj q => ?_, fun j hj q => ?_⟩
      · rcases Nat.lt_succ_iff_lt_or_eq.mp hj with e | e
        · have := h2 j e q
          omega
        · subst e
          exact Nat.le_refl _
      · have := h2 j hj q
        omega
    · rw [if_neg g]
      refine Or.inl ⟨rfl, fun j hj q => ?_⟩
      rcases Nat.lt_succ_iff_lt_or_eq.mp hj with e | e
      · exact h2 j e q
      · subst e
        omega
  · rw [h3]
    by_cases g : oo + c i < oo + c a
    · rw [if_pos g]
      refine Or.inr ⟨i, by omega, hn, rfl, by omega, fun j hj q => ?_, fun j hj q => ?_⟩
      · rcases Nat.lt_succ_iff_lt_or_eq.mp hj with e | e
        · have := h5 j e q
          omega
        · subst e
          exact Nat.le_refl _
      · have := h5 j hj q
        omega
    · rw [if_neg g]
      refine Or.inr ⟨a, by omega, h2, rfl, h4, fun j hj q => ?_, h6⟩
      rcases Nat.lt_succ_iff_lt_or_eq.mp hj with e | e
      · exact h5 j e q
      · subst e
        omega
/-- what the search leaves -/
theorem res_s {Kc : Nat → Nat → Nat} {m z N n o t oo : Nat} {g : Nat → Nat} {S : Nat → Int32} {L X : Nat × (Nat → Int32)} (hm : m < 8) (ho : o + (n + 1) = N) (hN : N ≤ 4) (hK : ∀ q i, q < N → i < m → Kc q i ≤ 109) (h : LPs (fun i => nbt t i = true ∧ sdN Kc m z n (o + 1) (t ||| 2 ^ i) < 1000000) (fun i => Kc o i + sdN Kc m z n (o + 1) (t ||| 2 ^ i)) (fun i => gfN Kc m z g n (o + 1) (t ||| 2 ^ i) (ups S o (nI (g i)))) oo L m X) : resN Kc m z g n (o + 1) t oo (ups S o (-1)) X = resN Kc m z g (n + 1) o t oo S L := by
  have hW1 : sdN Kc m z (n + 1) o t ≤ sdN Kc m z n (o + 1) t := mnF_le _ _ _ _
  have hW2 : ∀ j, j < m → nbt t j = true → sdN Kc m z (n + 1) o t ≤ Kc o j + sdN Kc m z n (o + 1) (t ||| 2 ^ j) := fun j hj e => mn_some (c := fun i => Kc o i + sdN Kc m z n (o + 1) (t ||| 2 ^ i)) hj e
  have hW3 : sdN Kc m z (n + 1) o t = sdN Kc m z n (o + 1) t ∨ ∃ j, j < m ∧ nbt t j = true ∧ sdN Kc m z (n + 1) o t = Kc o j + sdN Kc m z n (o + 1) (t ||| 2 ^ j) := mnF_cs (c := fun i => Kc o i + sdN Kc m z n (o + 1) (t ||| 2 ^ i))
  have hV : ∀ j, sdN Kc m z n (o + 1) (t ||| 2 ^ j) < 1000000 → sdN Kc m z n (o + 1) (t ||| 2 ^ j) ≤ 109 * n := fun j e => sdN_fe hK n (o + 1) _ (by omega) e
  have hpb : ∀ j, pkB Kc m z n o t j = true ↔ nbt t j = true ∧ Kc o j + sdN Kc m z n (o + 1) (t ||| 2 ^ j) = sdN Kc m z (n + 1) o t := fun j => by
    unfold pkB
    rw [Bool.and_eq_true, decide_eq_true_eq]
  generalize hw : sdN Kc m z (n + 1) o t = w at *
  generalize hv0 : sdN Kc m z n (o + 1) t = v0 at *
  have hskip : v0 = w → (∀ j, j < m → nbt t j = true → w < Kc o j + sdN Kc m z n (o + 1) (t ||| 2 ^ j)) → gfN Kc m z g (n + 1) o t S = gfN Kc m z g n (o + 1) t (ups S o (-1)) := fun e hj => by
    refine gf_no ?_
    unfold pkN
    rw [fnd_no _ m 0 (fun i _ hi => by
      rcases Bool.eq_false_or_eq_true (pkB Kc m z n o t i) with e | e
      · have := (hpb i).mp e
        have := hj i (by omega) this.1
        omega
      · exact e)]
    omega
  unfold resN
  rw [hw, hv0]
  rcases h with ⟨h1, h2⟩ | ⟨a, h1, ⟨ha1, ha2⟩, h3, h4, h5, h6⟩
  · rw [h1]
    by_cases e0 : v0 < 1000000
    · rw [if_pos e0]
      by_cases e1 : oo + v0 < L.1
      · have hg : ∀ j, j < m → nbt t j = true → v0 < Kc o j + sdN Kc m z n (o + 1) (t ||| 2 ^ j) := fun j hj e => by
          by_cases q : sdN Kc m z n (o + 1) (t ||| 2 ^ j) < 1000000
          · have h2 : L.1 ≤ oo + (Kc o j + sdN Kc m z n (o + 1) (t ||| 2 ^ j)) := h2 j hj ⟨e, q⟩
            omega
          · omega
        have ew : v0 = w := by
          rcases hW3 with e | ⟨j, hj, e, e2⟩
          · exact e.symm
          · have := hg j hj e
            omega
        rw [if_pos (by omega), hskip ew (by rw [← ew]; exact hg), ew]
      · unfold upG
        rw [if_neg e1]
        by_cases q : w < 1000000
        · rw [if_pos q, if_neg]
          rcases hW3 with e | ⟨j, hj, e, e2⟩
          · omega
          · have h2 : L.1 ≤ oo + (Kc o j + sdN Kc m z n (o + 1) (t ||| 2 ^ j)) := h2 j hj ⟨e, by show sdN Kc m z n (o + 1) (t ||| 2 ^ j) < 1000000; omega⟩
            omega
        · rw [if_neg q]
    · rw [if_neg e0]
      by_cases q : w < 1000000
      · unfold upG
        rw [if_pos q, if_neg]
        rcases hW3 with e | ⟨j, hj, e, e2⟩
        · omega
        · have h2 : L.1 ≤ oo + (Kc o j + sdN Kc m z n (o + 1) (t ||| 2 ^ j)) := h2 j hj ⟨e, by show sdN Kc m z n (o + 1) (t ||| 2 ^ j) < 1000000; omega⟩
          omega
      · rw [if_neg q]
  · have ha3 := hV a ha2
    have ha4 := hK o a (by omega) h1
    have h4 : oo + (Kc o a + sdN Kc m z n (o + 1) (t ||| 2 ^ a)) < L.1 := h4
    have h5 : ∀ j, j < m → nbt t j = true → Kc o a + sdN Kc m z n (o + 1) (t ||| 2 ^ a) ≤ Kc o j + sdN Kc m z n (o + 1) (t ||| 2 ^ j) := fun j hj e => by
      by_cases q : sdN Kc m z n (o + 1) (t ||| 2 ^ j) < 1000000
      · exact h5 j hj ⟨e, q⟩
      · omega
    have h6 : ∀ j, j < a → nbt t j = true → Kc o a + sdN Kc m z n (o + 1) (t ||| 2 ^ a) < Kc o j + sdN Kc m z n (o + 1) (t ||| 2 ^ j) := fun j hj e => by
      by_cases q : sdN Kc m z n (o + 1) (t ||| 2 ^ j) < 1000000
      · exact h6 j hj ⟨e, q⟩
      · omega
    rw [h3]
    have hA := hW2 a h1 ha1
    have hw6 : w < 1000000 := by omega
    rw [if_pos hw6]
    by_cases e0 : v0 < Kc o a + sdN Kc m z n (o + 1) (t ||| 2 ^ a)
    · have hg : ∀ j, j < m → nbt t j = true → v0 < Kc o j + sdN Kc m z n (o + 1) (t ||| 2 ^ j) := fun j hj e => by
        have := h5 j hj e
        omega
      have ew : v0 = w := by
        rcases hW3 with e | ⟨j, hj, e, e2⟩
        · exact e.symm
        · have := hg j hj e
          omega
      unfold upG
      rw [if_pos (by omega), if_pos (by show oo + v0 < oo + (Kc o a + sdN Kc m z n (o + 1) (t ||| 2 ^ a)); omega), if_pos (by omega), hskip ew (by rw [← ew]; exact hg), ew]
    · have ew : w = Kc o a + sdN Kc m z n (o + 1) (t ||| 2 ^ a) := by
        rcases hW3 with e | ⟨j, hj, e, e2⟩
        · omega
        · have := h5 j hj e
          omega
      have epk : pkN Kc m z n o t = a := fnd_eq _ m 0 a (Nat.zero_le _) (by omega) ((hpb a).mpr ⟨ha1, ew.symm⟩) (fun j _ hj => by
        rcases Bool.eq_false_or_eq_true (pkB Kc m z n o t j) with e | e
        · have q1 := (hpb j).mp e
          have := h6 j hj q1.1
          omega
        · exact e)
      have eX : upG (oo + (Kc o a + sdN Kc m z n (o + 1) (t ||| 2 ^ a)), gfN Kc m z g n (o + 1) (t ||| 2 ^ a) (ups S o (nI (g a)))) (oo + v0) (gfN Kc m z g n (o + 1) t (ups S o (-1))) = (oo + (Kc o a + sdN Kc m z n (o + 1) (t ||| 2 ^ a)), gfN Kc m z g n (o + 1) (t ||| 2 ^ a) (ups S o (nI (g a)))) := if_neg (by show ¬ oo + v0 < oo + (Kc o a + sdN Kc m z n (o + 1) (t ||| 2 ^ a)); omega)
      have eR : upG L (oo + w) (gfN Kc m z g (n + 1) o t S) = (oo + (Kc o a + sdN Kc m z n (o + 1) (t ||| 2 ^ a)), gfN Kc m z g n (o + 1) (t ||| 2 ^ a) (ups S o (nI (g a)))) := by
        unfold upG
        rw [if_pos (by omega), gf_pk hm epk h1, ew]
      rw [eR]
      split
      · exact eX
      · rfl
end P61
