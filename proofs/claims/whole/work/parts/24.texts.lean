/-! ===== texts as they are told on a row of numbers ===== -/
def jn (w x y : Int32) : Int32 := if w = -7 then (if x ≠ 0 ∨ y ≠ 0 then 1 else 0) else if w = -8 then (if x ≠ 0 ∧ y ≠ 0 then 1 else 0) else if w = -9 then (if x = 0 then 1 else 0) else if w = -10 then (if x < y then 1 else 0) else if w = -11 then (if x = y then 1 else 0) else if w = -12 then x + y else if w = -13 then x - y else if w = -14 then x * y else -x
def rpo (sd : Nat → Int32) (w : Int32) (st : List Int32) : Option (List Int32) :=
  if w < -15 then none else if w < -6 then (if w = -9 ∨ w = -15 then (match st with | x :: r => some (jn w x 0 :: r) | _ => none) else (match st with | y :: x :: r => some (jn w x y :: r) | _ => none)) else if w < 0 then some (sd (-1 - w).toNatClampNeg :: st) else some (w :: st)
def rpn (sd : Nat → Int32) (C : Nat → Int32) : Nat → Nat → List Int32 → Option (List Int32)
  | 0, _, st => some st
  | n + 1, i, st => (rpo sd (C i) st).bind (rpn sd C n (i + 1))
/-- what a part of a text tells -/
def tvl (sd : Nat → Int32) (C : Nat → Int32) (u v : Nat) : Int32 := match rpn sd C (v - u) u [] with
  | some (x :: _) => x
  | _ => 0
def wfp (C : Nat → Int32) (u v : Nat) : Prop := ∀ sd, ∃ x, rpn sd C (v - u) u [] = some [x]
/-- where a part begins -/
def pst (E : Nat → Nat) (part : Nat) : Nat := if part = 0 then 0 else E (part - 1)
def txok (C : Nat → Int32) (E : Nat → Nat) : Prop := (E 0 ≤ E 1 ∧ E 1 ≤ E 2 ∧ E 2 ≤ 160) ∧ ∀ part, part < 3 → wfp C (pst E part) (E part)
def TB (P : mx_Pm) (s : mx_St) (C : Nat → Nat → Int32) (E : Nat → Nat → Nat) : Prop := s 31 1 = nI P.2.1 ∧ P.2.1 ≤ 6 ∧ ∀ t, t < P.2.1 → (∀ i, i < E t 2 → s (tid t) i = C t i) ∧ P.2.2.2.2.1 t = E t 2 ∧ (∀ i, i < 3 → s (tid t + 2) i = nI (E t i)) ∧ txok (C t) (E t)
theorem TB.fr {P : mx_Pm} {s s' : mx_St} {C : Nat → Nat → Int32} {E : Nat → Nat → Nat} {S : Nat → Prop} (T : TB P s C E) (f : sf s s' S) (hS : ∀ i, S i → i ≠ 31 ∧ (i < 51 ∨ (53 < i ∧ i < 75))) : TB P s' C E := by
  obtain ⟨h1, h2, h3⟩ := T
  refine ⟨(congrFun (f 31 (fun z => (hS _ z).1 rfl)) 1).trans h1, h2, fun t ht => ?_⟩
  obtain ⟨g1, g2, g3, g4⟩ := h3 t ht
  have := tid_spec t
  exact ⟨fun i hi => (congrFun (f _ (fun z => by have := hS _ z; omega)) i).trans (g1 i hi), g2, fun i hi => (congrFun (f _ (fun z => by have := hS _ z; omega)) i).trans (g3 i hi), g4⟩
def stk (S : Nat → Int32) : List Int32 → Prop
  | [] => True
  | x :: r => S r.length = x ∧ stk S r
theorem stk_up {S : Nat → Int32} {j : Nat} {v : Int32} : ∀ {r : List Int32}, r.length ≤ j → stk S r → stk (upd S j v) r
  | [], _, _ => trivial
  | x :: r, hj, ⟨h1, h2⟩ => ⟨(pk_un (by simp only [List.length_cons] at hj; omega)).trans h1, stk_up (by simp only [List.length_cons] at hj; omega) h2⟩
theorem i32_le {x y : Int32} : x < y ∨ y ≤ x := by
  by_cases h : x < y
  · exact Or.inl h
  · exact Or.inr (Int32.not_lt.mp h)
theorem i32_rng {w lo hi : Int32} (h1 : lo ≤ w) (h2 : w < hi) : lo.toInt ≤ w.toInt ∧ w.toInt < hi.toInt := ⟨Int32.le_iff_toInt_le.mp h1, Int32.lt_iff_toInt_lt.mp h2⟩
theorem i32_is {w : Int32} (z : Int32) (h : w.toInt = z.toInt) : w = z := Int32.toInt_inj.mp h
theorem w_name {w : Int32} (h1 : ¬ w < -6) (h2 : w < 0) : w = -1 ∨ w = -2 ∨ w = -3 ∨ w = -4 ∨ w = -5 ∨ w = -6 := by
  obtain ⟨a, b⟩ := i32_rng (Int32.not_lt.mp h1) h2
  rw [show (-6 : Int32).toInt = -6 by decide] at a
  rw [show (0 : Int32).toInt = 0 by decide] at b
  have h : w.toInt = -1 ∨ w.toInt = -2 ∨ w.toInt = -3 ∨ w.toInt = -4 ∨ w.toInt = -5 ∨ w.toInt = -6 := by omega
  rcases h with e | e | e | e | e | e
  · exact Or.inl (i32_is _ e)
  · exact Or.inr (Or.inl (i32_is _ e))
  · exact Or.inr (Or.inr (Or.inl (i32_is _ e)))
  · exact Or.inr (Or.inr (Or.inr (Or.inl (i32_is _ e))))
  · exact Or.inr (Or.inr (Or.inr (Or.inr (Or.inl (i32_is _ e)))))
  · exact Or.inr (Or.inr (Or.inr (Or.inr (Or.inr (i32_is _ e)))))
theorem w_nameN {w : Int32} (h1 : ¬ w < -6) (h2 : w < 0) : ∃ k, k < 6 ∧ -1 - w = nI k := by
  rcases w_name h1 h2 with rfl | rfl | rfl | rfl | rfl | rfl
  · exact ⟨0, by decide, by decide⟩
  · exact ⟨1, by decide, by decide⟩
  · exact ⟨2, by decide, by decide⟩
  · exact ⟨3, by decide, by decide⟩
  · exact ⟨4, by decide, by decide⟩
  · exact ⟨5, by decide, by decide⟩
theorem w_sign {w : Int32} (h1 : ¬ w < -15) (h2 : w < -6) : w = -7 ∨ w = -8 ∨ w = -9 ∨ w = -10 ∨ w = -11 ∨ w = -12 ∨ w = -13 ∨ w = -14 ∨ w = -15 := by
  obtain ⟨a, b⟩ := i32_rng (Int32.not_lt.mp h1) h2
  rw [show (-15 : Int32).toInt = -15 by decide] at a
  rw [show (-6 : Int32).toInt = -6 by decide] at b
  have h : w.toInt = -7 ∨ w.toInt = -8 ∨ w.toInt = -9 ∨ w.toInt = -10 ∨ w.toInt = -11 ∨ w.toInt = -12 ∨ w.toInt = -13 ∨ w.toInt = -14 ∨ w.toInt = -15 := by omega
  rcases h with e | e | e | e | e | e | e | e | e
  · exact Or.inl (i32_is _ e)
  · exact Or.inr (Or.inl (i32_is _ e))
  · exact Or.inr (Or.inr (Or.inl (i32_is _ e)))
  · exact Or.inr (Or.inr (Or.inr (Or.inl (i32_is _ e))))
  · exact Or.inr (Or.inr (Or.inr (Or.inr (Or.inl (i32_is _ e)))))
  · exact Or.inr (Or.inr (Or.inr (Or.inr (Or.inr (Or.inl (i32_is _ e))))))
  · exact Or.inr (Or.inr (Or.inr (Or.inr (Or.inr (Or.inr (Or.inl (i32_is _ e)))))))
  · exact Or.inr (Or.inr (Or.inr (Or.inr (Or.inr (Or.inr (Or.inr (Or.inl (i32_is _ e))))))))
  · exact Or.inr (Or.inr (Or.inr (Or.inr (Or.inr (Or.inr (Or.inr (Or.inr (i32_is _ e))))))))
/-- what one step of a row of signs was -/
theorem rpo_is {sd : Nat → Int32} {w : Int32} {st st' : List Int32} (h : rpo sd w st = some st') : (¬ w < -6 ∧ w < 0 ∧ st' = sd (-1 - w).toNatClampNeg :: st) ∨ (¬ w < 0 ∧ st' = w :: st) ∨ (¬ w < -15 ∧ w < -6 ∧ (w = -9 ∨ w = -15) ∧ ∃ x r, st = x :: r ∧ st' = jn w x 0 :: r) ∨ (¬ w < -15 ∧ w < -6 ∧ ¬ (w = -9 ∨ w = -15) ∧ ∃ x y r, st = y :: x :: r ∧ st' = jn w x y :: r) := by
  unfold rpo at h
  split at h
  · cases h
  split at h
  · split at h
    · split at h
      · cases h; exact Or.inr (Or.inr (Or.inl ⟨by assumption, by assumption, by assumption, _, _, rfl, rfl⟩))
      · cases h
    · split at h
      · cases h; exact Or.inr (Or.inr (Or.inr ⟨by assumption, by assumption, by assumption, _, _, _, rfl, rfl⟩))
      · cases h
  · split at h
    · cases h; exact Or.inl ⟨by assumption, by assumption, rfl⟩
    · cases h; exact Or.inr (Or.inl ⟨by assumption, rfl⟩)
theorem jn_un {w x y : Int32} (h : w = -9 ∨ w = -15) : jn w x y = jn w x 0 := by rcases h with rfl | rfl <;> rfl
section P24
variable {d k pc a i j c p b t n m part : Nat} {v : Int} {L L' : mx_L} {st r : List Value} {P : mx_Pm} {h : mx_H} {s : mx_St} {Q : Option Value → mx_H → Prop} {x y w : Int32} {β : Nat → Nat} {C : Nat → Nat → Int32} {E : Nat → Nat → Nat}
theorem c_joined (h1 : ¬ w < -15) (h2 : w < -6) (hq : Q (some (.int (jn w x y))) h) : wc d 55 [.int w, .int x, .int y] h Q := by
  unfold jn at hq
  refine wc.go [_, _, _] rfl ?_
  refine q_iload_n (pc := 0) rfl rfl ?_
  rcases w_sign h1 h2 with e | e | e | e | e | e | e | e | e <;> subst e
  · refine q_tsw (pc := 1) (t := 48) rfl (by decide) ?_
    refine q_iload_n (pc := 48) rfl rfl ?_
    refine q_ifne (pc := 49) rfl (fun h49 => ?_) (fun h49 => ?_)
    · refine q_iconst (pc := 56) rfl (nI 1) (by decide) ?_
      refine q_goto (pc := 57) rfl ?_
      refine q_iret (pc := 61) rfl (rfl) ?_
      have hq : Q (some (.int (if x ≠ 0 ∨ y ≠ 0 then 1 else 0))) h := hq
      by_cases q1 : x = 0 <;> by_cases q2 : y = 0 <;> simp only [q1, q2, ne_eq, not_true_eq_false, not_false_eq_true, and_self, and_false, false_and, and_true, true_and, or_self, or_true, true_or, or_false, false_or, if_true, if_false, reduceIte] at hq <;> first | exact hq | contradiction
    · refine q_iload_n (pc := 52) rfl rfl ?_
      refine q_ifeq (pc := 53) rfl (fun h53 => ?_) (fun h53 => ?_)
      · refine q_iconst (pc := 60) rfl (nI 0) (by decide) ?_
        refine q_iret (pc := 61) rfl (rfl) ?_
        have hq : Q (some (.int (if x ≠ 0 ∨ y ≠ 0 then 1 else 0))) h := hq
        by_cases q1 : x = 0 <;> by_cases q2 : y = 0 <;> simp only [q1, q2, ne_eq, not_true_eq_false, not_false_eq_true, and_self, and_false, false_and, and_true, true_and, or_self, or_true, true_or, or_false, false_or, if_true, if_false, reduceIte] at hq <;> first | exact hq | contradiction
      · refine q_iconst (pc := 56) rfl (nI 1) (by decide) ?_
        refine q_goto (pc := 57) rfl ?_
        refine q_iret (pc := 61) rfl (rfl) ?_
        have hq : Q (some (.int (if x ≠ 0 ∨ y ≠ 0 then 1 else 0))) h := hq
        by_cases q1 : x = 0 <;> by_cases q2 : y = 0 <;> simp only [q1, q2, ne_eq, not_true_eq_false, not_false_eq_true, and_self, and_false, false_and, and_true, true_and, or_self, or_true, true_or, or_false, false_or, if_true, if_false, reduceIte] at hq <;> first | exact hq | contradiction
  · refine q_tsw (pc := 1) (t := 62) rfl (by decide) ?_
    refine q_iload_n (pc := 62) rfl rfl ?_
    refine q_ifeq (pc := 63) rfl (fun h63 => ?_) (fun h63 => ?_)
    · refine q_iconst (pc := 74) rfl (nI 0) (by decide) ?_
      refine q_iret (pc := 75) rfl (rfl) ?_
      have hq : Q (some (.int (if x ≠ 0 ∧ y ≠ 0 then 1 else 0))) h := hq
      by_cases q1 : x = 0 <;> by_cases q2 : y = 0 <;> simp only [q1, q2, ne_eq, not_true_eq_false, not_false_eq_true, and_self, and_false, false_and, and_true, true_and, or_self, or_true, true_or, or_false, false_or, if_true, if_false, reduceIte] at hq <;> first | exact hq | contradiction
    · refine q_iload_n (pc := 66) rfl rfl ?_
      refine q_ifeq (pc := 67) rfl (fun h67 => ?_) (fun h67 => ?_)
      · refine q_iconst (pc := 74) rfl (nI 0) (by decide) ?_
        refine q_iret (pc := 75) rfl (rfl) ?_
        have hq : Q (some (.int (if x ≠ 0 ∧ y ≠ 0 then 1 else 0))) h := hq
        by_cases q1 : x = 0 <;> by_cases q2 : y = 0 <;> simp only [q1, q2, ne_eq, not_true_eq_false, not_false_eq_true, and_self, and_false, false_and, and_true, true_and, or_self, or_true, true_or, or_false, false_or, if_true, if_false, reduceIte] at hq <;> first | exact hq | contradiction
      · refine q_iconst (pc := 70) rfl (nI 1) (by decide) ?_
        refine q_goto (pc := 71) rfl ?_
        refine q_iret (pc := 75) rfl (rfl) ?_
        have hq : Q (some (.int (if x ≠ 0 ∧ y ≠ 0 then 1 else 0))) h := hq
        by_cases q1 : x = 0 <;> by_cases q2 : y = 0 <;> simp only [q1, q2, ne_eq, not_true_eq_false, not_false_eq_true, and_self, and_false, false_and, and_true, true_and, or_self, or_true, true_or, or_false, false_or, if_true, if_false, reduceIte] at hq <;> first | exact hq | contradiction
  · refine q_tsw (pc := 1) (t := 76) rfl (by decide) ?_
    refine q_iload_n (pc := 76) rfl rfl ?_
    refine q_ifne (pc := 77) rfl (fun h77 => ?_) (fun h77 => ?_)
    · refine q_iconst (pc := 84) rfl (nI 0) (by decide) ?_
      refine q_iret (pc := 85) rfl (rfl) ?_
      have hq : Q (some (.int (if x = 0 then 1 else 0))) h := hq
      first | (rw [if_pos h77] at hq; exact hq) | (rw [if_neg h77] at hq; exact hq)
    · refine q_iconst (pc := 80) rfl (nI 1) (by decide) ?_
      refine q_goto (pc := 81) rfl ?_
      refine q_iret (pc := 85) rfl (rfl) ?_
      have hq : Q (some (.int (if x = 0 then 1 else 0))) h := hq
      first | (rw [if_pos h77] at hq; exact hq) | (rw [if_neg h77] at hq; exact hq)
  · refine q_tsw (pc := 1) (t := 86) rfl (by decide) ?_
    refine q_iload_n (pc := 86) rfl rfl ?_
    refine q_iload_n (pc := 87) rfl rfl ?_
    refine q_icmpge (pc := 88) rfl (fun h88 => ?_) (fun h88 => ?_)
    · refine q_iconst (pc := 95) rfl (nI 0) (by decide) ?_
      refine q_iret (pc := 96) rfl (rfl) ?_
      have hq : Q (some (.int (if x < y then 1 else 0))) h := hq
      first | (rw [if_neg (Int32.not_lt.mpr h88)] at hq; exact hq) | (rw [if_pos (Int32.not_le.mp h88)] at hq; exact hq)
    · refine q_iconst (pc := 91) rfl (nI 1) (by decide) ?_
      refine q_goto (pc := 92) rfl ?_
      refine q_iret (pc := 96) rfl (rfl) ?_
      have hq : Q (some (.int (if x < y then 1 else 0))) h := hq
      first | (rw [if_neg (Int32.not_lt.mpr h88)] at hq; exact hq) | (rw [if_pos (Int32.not_le.mp h88)] at hq; exact hq)
  · refine q_tsw (pc := 1) (t := 97) rfl (by decide) ?_
    refine q_iload_n (pc := 97) rfl rfl ?_
    refine q_iload_n (pc := 98) rfl rfl ?_
    refine q_icmpne (pc := 99) rfl (fun h99 => ?_) (fun h99 => ?_)
    · refine q_iconst (pc := 106) rfl (nI 0) (by decide) ?_
      refine q_iret (pc := 107) rfl (rfl) ?_
      have hq : Q (some (.int (if x = y then 1 else 0))) h := hq
      first | (rw [if_pos h99] at hq; exact hq) | (rw [if_neg h99] at hq; exact hq)
    · refine q_iconst (pc := 102) rfl (nI 1) (by decide) ?_
      refine q_goto (pc := 103) rfl ?_
      refine q_iret (pc := 107) rfl (rfl) ?_
      have hq : Q (some (.int (if x = y then 1 else 0))) h := hq
      first | (rw [if_pos h99] at hq; exact hq) | (rw [if_neg h99] at hq; exact hq)
  · refine q_tsw (pc := 1) (t := 108) rfl (by decide) ?_
    refine q_iload_n (pc := 108) rfl rfl ?_
    refine q_iload_n (pc := 109) rfl rfl ?_
    refine q_iadd (pc := 110) rfl ?_
    refine q_iret (pc := 111) rfl (rfl) ?_
    exact hq
  · refine q_tsw (pc := 1) (t := 112) rfl (by decide) ?_
    refine q_iload_n (pc := 112) rfl rfl ?_
    refine q_iload_n (pc := 113) rfl rfl ?_
    refine q_isub (pc := 114) rfl ?_
    refine q_iret (pc := 115) rfl (rfl) ?_
    exact hq
  · refine q_tsw (pc := 1) (t := 116) rfl (by decide) ?_
    refine q_iload_n (pc := 116) rfl rfl ?_
    refine q_iload_n (pc := 117) rfl rfl ?_
    refine q_imul (pc := 118) rfl ?_
    refine q_iret (pc := 119) rfl (rfl) ?_
    exact hq
  · refine q_tsw (pc := 1) (t := 120) rfl (by decide) ?_
    refine q_iload_n (pc := 120) rfl rfl ?_
    refine q_ineg (pc := 121) rfl ?_
    refine q_iret (pc := 122) rfl (rfl) ?_
    exact hq
end P24
