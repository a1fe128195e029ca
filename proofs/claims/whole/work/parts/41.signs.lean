/-! ===== how a text is read: the machine of waiting signs, and what the levels of an E are to it ===== -/
section P41
def rk (x : Nat) : Nat := if x = 7 then 1 else if x = 8 then 2 else if x = 9 then 3 else if x = 10 ∨ x = 11 then 4 else if x = 12 ∨ x = 13 then 5 else if x = 14 then 6 else if x = 15 then 7 else 0
def dc (x : Nat) : Int32 := 0 - nI x
def lr : List Nat → Nat
  | [] => 0
  | x :: _ => rk x
def stl (r : Nat) : List Nat → Nat → List Int32 → Nat × List Int32 × List Nat
  | [], o, out => (o, out, [])
  | x :: S, o, out => if 0 < rk x ∧ r ≤ rk x then stl r S (if x = 9 ∨ x = 15 then o - 1 else o) (out ++ [dc x]) else (o, out, x :: S)
def bin (t : Int32) : Nat := if t = -7 then 7 else if t = -8 then 8 else if t = -10 then 10 else if t = -11 then 11 else if t = -12 then 12 else if t = -13 then 13 else if t = -14 then 14 else 0
def rbn (t : Int32) : Nat := if rk (bin t) = 4 then 5 else rk (bin t)
abbrev mxO : Type := Nat ⊕ (Nat × List Int32)
def opD (t : Int32) : Nat := if t = -16 then 0 else if t = -13 then 15 else 9
def mA (T : Nat → Int32) : Nat → Bool → Nat → Nat → List Int32 → List Nat → mxO
  | 0, _, i, _, _, _ => .inl i
  | n + 1, false, i, o, out, S => if ¬ T i < -6 then mA T n true (i + 1) (stl 7 S o (out ++ [T i])).1 (stl 7 S o (out ++ [T i])).2.1 (stl 7 S o (out ++ [T i])).2.2 else if (T i = -16 ∨ T i = -13 ∨ (T i = -9 ∧ lr S ≤ 3)) ∧ o < 5 then mA T n false (i + 1) (o + 1) out (opD (T i) :: S) else .inl i
  | n + 1, true, i, o, out, S => if T i = -17 then (match (stl 1 S o out).2.2 with | [] => .inl i | _ :: S' => mA T n true (i + 1) (stl 7 S' ((stl 1 S o out).1 - 1) (stl 1 S o out).2.1).1 (stl 7 S' ((stl 1 S o out).1 - 1) (stl 1 S o out).2.1).2.1 (stl 7 S' ((stl 1 S o out).1 - 1) (stl 1 S o out).2.1).2.2) else if bin (T i) ≠ 0 then (if rk (bin (T i)) = 4 ∧ lr (stl (rbn (T i)) S o out).2.2 = 4 then .inl i else mA T n false (i + 1) (stl (rbn (T i)) S o out).1 (stl (rbn (T i)) S o out).2.1 (bin (T i) :: (stl (rbn (T i)) S o out).2.2)) else (match (stl 1 S o out).2.2 with | [] => .inr (i, (stl 1 S o out).2.1) | _ => .inl i)
def f7 (T : Nat → Int32) (n i o : Nat) (out : List Int32) (S : List Nat) : mxO := mA T n true i (stl 7 S o out).1 (stl 7 S o out).2.1 (stl 7 S o out).2.2
def isLE (t : Int32) : Prop := t = -10 ∨ t = -11
def fN (T : Nat → Int32) (n i o : Nat) (out : List Int32) (S : List Nat) : mxO := if T i = -10 ∨ T i = -11 then .inl i else mA T n true i o out S
variable {T : Nat → Int32} {n i o x r : Nat} {out : List Int32} {S : List Nat} {t : Int32}
theorem stl_0 (h : lr S < r) : stl r S o out = (o, out, S) := by
  cases S with
  | nil => rfl
  | cons x S =>
    unfold stl
    rw [if_neg (fun e => by have h2 : rk x < r := h; omega)]
theorem stl_1 (h1 : 0 < rk x) (h2 : r ≤ rk x) (h3 : ¬ (x = 9 ∨ x = 15)) : stl r (x :: S) o out = stl r S o (out ++ [dc x]) := by
  rw [stl, if_pos ⟨h1, h2⟩, if_neg h3]
theorem stl_2 (h1 : 0 < rk x) (h2 : r ≤ rk x) (h3 : x = 9 ∨ x = 15) : stl r (x :: S) (o + 1) out = stl r S o (out ++ [dc x]) := by
  rw [stl, if_pos ⟨h1, h2⟩, if_pos h3]
  rfl
/-- what waits and is settled by any next token may as well be written -/
theorem mB_c {S' : List Nat} {o' : Nat} {out' : List Int32} (h1 : ∀ r, r ≤ max 1 (rbn (T i)) → stl r S o out = stl r S' o' out') : mA T n true i o out S = mA T n true i o' out' S' := by
  cases n with
  | zero => rfl
  | succ n => simp only [mA, h1 1 (by omega), h1 (rbn (T i)) (by omega)]
theorem mB_s (h1 : 0 < rk x) (h2 : rbn (T i) ≤ rk x) (h3 : ¬ (x = 9 ∨ x = 15)) : mA T n true i o out (x :: S) = mA T n true i o (out ++ [dc x]) S := mB_c (fun r hr => stl_1 h1 (by omega) h3)
theorem mB_u (h1 : 0 < rk x) (h2 : rbn (T i) ≤ rk x) (h3 : x = 9 ∨ x = 15) : mA T n true i (o + 1) out (x :: S) = mA T n true i o (out ++ [dc x]) S := mB_c (fun r hr => stl_2 h1 (by omega) h3)
theorem f7_0 (h : lr S < 7) : f7 T n i o out S = mA T n true i o out S := by
  unfold f7
  rw [stl_0 h]
theorem rb_all (t : Int32) : rbn t ≤ 6 := by
  unfold rbn bin
  (repeat' split) <;> first | decide | omega
theorem rb_14 (h : t ≠ -14) : rbn t ≤ 5 := by
  unfold rbn bin
  rw [if_neg h]
  (repeat' split) <;> first | decide | omega
theorem rb_3 (h : t ≠ -14 ∧ t ≠ -13 ∧ t ≠ -12 ∧ ¬ (t = -10 ∨ t = -11)) : rbn t ≤ 2 := by
  have hb : bin t = 7 ∨ bin t = 8 ∨ bin t = 0 := by
    unfold bin
    rw [if_neg h.1, if_neg h.2.1, if_neg h.2.2.1, if_neg (fun e => h.2.2.2 (Or.inr e)), if_neg (fun e => h.2.2.2 (Or.inl e))]
    split
    · exact Or.inl rfl
    · split
      · exact Or.inr (Or.inl rfl)
      · exact Or.inr (Or.inr rfl)
  unfold rbn
  rcases hb with e | e | e <;> rw [e] <;> decide
theorem rb_1 (h : t ≠ -14 ∧ t ≠ -13 ∧ t ≠ -12 ∧ ¬ (t = -10 ∨ t = -11)) (h8 : t ≠ -8) : rbn t ≤ 1 := by
  have hb : bin t = 7 ∨ bin t = 0 := by
    unfold bin
    rw [if_neg h8, if_neg h.1, if_neg h.2.1, if_neg h.2.2.1, if_neg (fun e => h.2.2.2 (Or.inr e)), if_neg (fun e => h.2.2.2 (Or.inl e))]
    split
    · exact Or.inl rfl
    · exact Or.inr rfl
  unfold rbn
  rcases hb with e | e <;> rw [e] <;> decide
/-- a sign between two -/
theorem mB_op (h17 : T i ≠ -17) (hb : bin (T i) ≠ 0) (hs : lr S < rbn (T i)) (h4 : ¬ (rk (bin (T i)) = 4 ∧ lr S = 4)) : mA T (n + 1) true i o out S = mA T n false (i + 1) o out (bin (T i) :: S) := by
  rw [mA, if_neg h17, if_pos hb, stl_0 hs, if_neg h4]
theorem mB_le (h : T i = -10 ∨ T i = -11) (hs : lr S = 4) : mA T n true i o out S = .inl i := by
  cases n with
  | zero => rfl
  | succ n =>
    have e4 : rk (bin (T i)) = 4 ∧ rbn (T i) = 5 ∧ bin (T i) ≠ 0 ∧ T i ≠ -17 := by
      rcases h with e | e <;> rw [e] <;> decide
    rw [mA, if_neg e4.2.2.2, if_pos e4.2.2.1, stl_0 (by omega), if_pos ⟨e4.1, hs⟩]
/-- a level: which sign, which rank -/
def lvI (t : Int32) : Int32 := if t = -7 then 0 else if t = -8 then 1 else if t = -12 ∨ t = -13 then 3 else if t = -14 then 4 else -1
def rpl (sd : Nat → Int32) : List Int32 → List Int32 → Option (List Int32)
  | [], st => some st
  | w :: l, st => (rpo sd w st).bind (rpl sd l)
def wf1 (l : List Int32) : Prop := ∀ sd st, ∃ x, rpl sd l st = some (x :: st)
theorem rpl_app (sd : Nat → Int32) : ∀ (a b st : List Int32), rpl sd (a ++ b) st = (rpl sd a st).bind (rpl sd b) := by
  intro a
  induction a with
  | nil => intro b st; rfl
  | cons w a ih =>
    intro b st
    show (rpo sd w st).bind (rpl sd (a ++ b)) = ((rpo sd w st).bind (rpl sd a)).bind (rpl sd b)
    cases e : rpo sd w st with
    | none => rfl
    | some st' => exact ih b st'
theorem wf_a (h : ¬ t < -6) : wf1 [t] := by
  intro sd st
  show ∃ x, (rpo sd t st).bind (rpl sd []) = some (x :: st)
  unfold rpo
  rw [if_neg (fun e => h (Int32.lt_trans e (by decide))), if_neg h]
  split
  · exact ⟨_, rfl⟩
  · exact ⟨_, rfl⟩
theorem wf_u {a : List Int32} (h : wf1 a) (hx : x = 9 ∨ x = 15) : wf1 (a ++ [dc x]) := by
  intro sd st
  obtain ⟨y, e⟩ := h sd st
  rw [rpl_app, e]
  rcases hx with rfl | rfl <;> exact ⟨_, rfl⟩
theorem wf_b {a b : List Int32} (h : wf1 a) (g : wf1 b) (hx : x = 7 ∨ x = 8 ∨ x = 10 ∨ x = 11 ∨ x = 12 ∨ x = 13 ∨ x = 14) : wf1 (a ++ b ++ [dc x]) := by
  intro sd st
  obtain ⟨y, e⟩ := h sd st
  obtain ⟨z, e2⟩ := g sd (y :: st)
  rw [rpl_app, rpl_app, e]
  show ∃ x_1, ((rpl sd b (y :: st)).bind (rpl sd [dc x])) = some (x_1 :: st)
  rw [e2]
  rcases hx with rfl | rfl | rfl | rfl | rfl | rfl | rfl <;> exact ⟨_, rfl⟩
end P41
