/-! ===== one step, a run ===== -/
def mx_ok8 (st : List Value) : Bool := decide (mx_cats st ≤ 8)
def mx_vin (i : Int32) (n : Nat) : Bool := decide (¬ (i < 0 ∨ n ≤ i.toNatClampNeg))
def mx_slen (b : Nat) : Option Nat := if mx_big < b ∧ b ≤ mx_big + mx_byt.length then some ((mx_byt.getD (b - mx_big - 1) []).length) else none
def mx_nat (j pc : Nat) (L : mx_L) (st : List Value) (h : mx_H) : Option mx_R := match j with
  | 20 => match st with
    | .int y :: .int x :: r => if mx_ok8 r = true then mx_go (pc + 3, L, .int (if x < y then y else x) :: r, h) else none
    | _ => none
  | 21 => match st with
    | .int y :: .int x :: r => if mx_ok8 r = true then mx_go (pc + 3, L, .int (if y < x then y else x) :: r, h) else none
    | _ => none
  | 22 => match st with
    | .int x :: r => if mx_ok8 r = true then mx_go (pc + 3, L, .int (if 0 ≤ x then x else 0 - x) :: r, h) else none
    | _ => none
  | 23 => match st with
    | .int n :: .int dp :: .ref b :: .int sp :: .ref a :: r => match h.2.2 a, h.2.2 b with
      | .inl (0, n0, .inl f), .inl (0, n1, .inl g) => if mx_ok8 r = true ∧ a < mx_big ∧ b < mx_big ∧ ¬ sp < 0 ∧ ¬ dp < 0 ∧ ¬ n < 0 ∧ sp.toNatClampNeg + n.toNatClampNeg ≤ n0 ∧ dp.toNatClampNeg + n.toNatClampNeg ≤ n1 then
          mx_go (pc + 3, L, r, mx_set h b (.inl (0, n1, .inl (va_cpy f g sp.toNatClampNeg dp.toNatClampNeg n.toNatClampNeg)))) else none
      | _, _ => none
    | _ => none
  | 24 => match st with
    | .ref b :: r => match h.2.2 b with
      | .inl (0, n, .inl f) => if mx_ok8 r = true ∧ b < mx_big ∧ h.1 < mx_big then mx_go (pc + 3, L, .ref h.1 :: r, mx_new h n (.inl (0, n, .inl f))) else none
      | _ => none
    | _ => none
  | 25 => match st with
    | .ref b :: r => match mx_slen b with
      | some n => if mx_ok8 r = true then mx_go (pc + 3, L, .int (Int32.ofNat n) :: r, h) else none
      | none => none
    | _ => none
  | 26 => match st with
    | .int i :: .ref b :: r => match mx_slen b with
      | some n => if mx_ok8 r = true ∧ mx_vin i n = true then mx_go (pc + 3, L, .int ((mx_byt.getD (b - mx_big - 1) []).getD i.toNatClampNeg 0) :: r, h) else none
      | none => none
    | _ => none
  | 27 => match st with
    | .ref _ :: r => if mx_ok8 r = true then mx_go (pc + 3, L, r, h) else none
    | _ => none
  | _ => none
def mx_cal (a : Nat) (vs : List Value) (pc : Nat) (r : List Value) : Option mx_R :=
  if mx_ok8 r = true ∧ (mx_pl vs).length ≤ mx_ml a then some (.inr (.inl (a, vs, pc, r))) else none
def mx_inv (a : Nat) (v : Int) (pc : Nat) (L : mx_L) (st : List Value) (h : mx_H) : Option mx_R := match v.toNat with
  | 1 => if (st.take (mx_np a)).length = mx_np a then match st.drop (mx_np a) with
      | .ref b :: r => match h.2.2 b with
        | .inr (ci, _) => if ci = mx_mc a then mx_cal a (.ref b :: (st.take (mx_np a)).reverse) (pc + 3) r else none
        | _ => none
      | _ => none
    else none
  | 3 => if (st.take (mx_np a)).length = mx_np a then mx_cal a (st.take (mx_np a)).reverse (pc + 3) (st.drop (mx_np a)) else none
  | 4 => if (st.take (mx_np a)).length = mx_np a then mx_cal a (st.take (mx_np a)).reverse (pc + 3) (st.drop (mx_np a)) else none
  | 5 => if (st.take (mx_np a)).length = mx_np a then match st.drop (mx_np a) with
      | .ref b :: r => mx_cal a (.ref b :: (st.take (mx_np a)).reverse) (pc + 3) r
      | _ => none
    else none
  | 6 => if (st.take (mx_np a)).length = mx_np a then match st.drop (mx_np a) with
      | .ref b :: r => mx_cal a (.ref b :: (st.take (mx_np a)).reverse) (pc + 3) r
      | _ => none
    else none
  | j => mx_nat j pc L st h
def mx_ald (t pc : Nat) (L : mx_L) (st : List Value) (h : mx_H) : Option mx_R := match st with
  | .int i :: .ref b :: r => match h.2.2 b with
    | .inl (u, n, .inl f) => if u = t ∧ mx_vin i n = true then mx_go (pc + 1, L, .int (f i.toNatClampNeg) :: r, h) else none
    | _ => none
  | _ => none
def mx_ast (t : Nat) (ty : FieldType) (pc : Nat) (L : mx_L) (st : List Value) (h : mx_H) : Option mx_R := match st with
  | .int x :: .int i :: .ref b :: r => match h.2.2 b with
    | .inl (u, n, .inl f) => if u = t ∧ b < mx_big ∧ mx_vin i n = true then mx_go (pc + 1, L, r, mx_set h b (.inl (u, n, .inl (upd f i.toNatClampNeg (vp_nar ty x))))) else none
    | _ => none
  | _ => none
def mx_nwa (t pc : Nat) (c : mx_C) (L : mx_L) (st : List Value) (h : mx_H) : Option mx_R := match st with
  | .int n :: r => if ¬ n < 0 ∧ n.toNatClampNeg ≤ 100000 ∧ h.1 < mx_big then mx_go (pc, L, .ref h.1 :: r, mx_new h n.toNatClampNeg (.inl (t, n.toNatClampNeg, c))) else none
  | _ => none
def mx_if (b : Bool) (a pc : Nat) (L : mx_L) (r : List Value) (h : mx_H) : Option mx_R := if b = true then mx_go (a, L, r, h) else mx_go (pc + 3, L, r, h)
def mx_jmp (t : Option Nat) (L : mx_L) (r : List Value) (h : mx_H) : Option mx_R := match t with
  | some a => mx_go (a, L, r, h)
  | none => none
def mx_rv (v : Option Value) : Option mx_R := some (.inr (.inr v))
def mx_ri (t : Option FieldType) (x : Int32) : Bool := match t with
  | some .int => true
  | some .boolean => decide (x = 0 ∨ x = 1)
  | _ => false
def mx_ro (t : Option FieldType) : Bool := match t with
  | some (.object _) => true
  | _ => false
def mx_do (k : Nat) (ins : Jvm.ClassFile.Instr) (a : Nat) (v : Int) (pc : Nat) (L : mx_L) (st : List Value) (h : mx_H) : Option mx_R := match ins with
  | .iload i => mx_psh (mx_ld L i 0) (pc + 2) L st h
  | .iload_n i => mx_psh (mx_ld L (i : Nat) 0) (pc + 1) L st h
  | .lload i => mx_psh (mx_ld L i 1) (pc + 2) L st h
  | .lload_n i => mx_psh (mx_ld L (i : Nat) 1) (pc + 1) L st h
  | .aload i => mx_psh (mx_ld L i 2) (pc + 2) L st h
  | .aload_n i => mx_psh (mx_ld L (i : Nat) 2) (pc + 1) L st h
  | .istore i => mx_sto 0 i (pc + 2) L st h
  | .istore_n i => mx_sto 0 (i : Nat) (pc + 1) L st h
  | .lstore i => mx_sto 1 i (pc + 2) L st h
  | .lstore_n i => mx_sto 1 (i : Nat) (pc + 1) L st h
  | .astore i => mx_sto 2 i (pc + 2) L st h
  | .astore_n i => mx_sto 2 (i : Nat) (pc + 1) L st h
  | .iinc i n => match mx_ld L i 0 with
    | some (.int x) => mx_go (pc + 3, mx_store L i (.int (x + Int32.ofInt n)), st, h)
    | _ => none
  | .goto _ => mx_go (a, L, st, h)
  | .ifCond c _ => match st with
    | .int x :: r => mx_if (mx_cmp c x 0) a pc L r h
    | _ => none
  | .if_icmp c _ => match st with
    | .int y :: .int x :: r => mx_if (mx_cmp c x y) a pc L r h
    | _ => none
  | .ifnull _ => match st with
    | .null :: r => mx_go (a, L, r, h)
    | .ref _ :: r => mx_go (pc + 3, L, r, h)
    | _ => none
  | .ifnonnull _ => match st with
    | .null :: r => mx_go (pc + 3, L, r, h)
    | .ref _ :: r => mx_go (a, L, r, h)
    | _ => none
  | .tableswitch d lo hi offs => match st with
    | .int x :: r => mx_jmp (mx_tsw d lo hi offs pc x) L r h
    | _ => none
  | .lookupswitch d ps => match st with
    | .int x :: r => mx_jmp (mx_tg pc (Op.lookupswitch.offset ps.toList d x.toInt)) L r h
    | _ => none
  | .getfield _ => match st with
    | .ref b :: r => match h.2.2 b with
      | .inr (ci, fs) => if ci = a / 100 then mx_psh (fs[a % 100]?) (pc + 3) L r h else none
      | _ => none
    | _ => none
  | .putfield _ => match st with
    | w :: .ref b :: r => match h.2.2 b with
      | .inr (ci, fs) => if ci = a / 100 ∧ a % 100 < fs.length ∧ mx_fit (mx_tyf a) w = true then mx_go (pc + 3, L, r, mx_set h b (.inr (ci, fs.set (a % 100) w))) else none
      | _ => none
    | _ => none
  | .iaload => mx_ald 0 pc L st h
  | .baload => mx_ald 1 pc L st h
  | .caload => mx_ald 2 pc L st h
  | .iastore => mx_ast 0 .int pc L st h
  | .bastore => mx_ast 1 .boolean pc L st h
  | .castore => mx_ast 2 .char pc L st h
  | .aaload => match st with
    | .int i :: .ref b :: r => match h.2.2 b with
      | .inl (u, n, .inr g) => if 3 ≤ u ∧ u ≤ 5 ∧ b < mx_big ∧ mx_vin i n = true then mx_go (pc + 1, L, va_rf (g i.toNatClampNeg) :: r, h) else none
      | _ => none
    | _ => none
  | .aastore => match st with
    | .ref w :: .int i :: .ref b :: r => match h.2.2 b, h.2.2 w with
      | .inl (u, n, .inr g), .inr (ci, _) => if 3 ≤ u ∧ u ≤ 5 ∧ ci = mx_el u ∧ b < mx_big ∧ mx_vin i n = true then mx_go (pc + 1, L, r, mx_set h b (.inl (u, n, .inr (va_up g i.toNatClampNeg (some w))))) else none
      | _, _ => none
    | _ => none
  | .arraylength => match st with
    | .ref b :: r => match h.2.2 b with
      | .inl (u, n, _) => if u ≤ 5 then mx_go (pc + 1, L, .int (Int32.ofNat n) :: r, h) else none
      | _ => none
    | _ => none
  | .newarray ty => match ty with
    | .int => mx_nwa 0 (pc + 2) (.inl fun _ => 0) L st h
    | .boolean => mx_nwa 1 (pc + 2) (.inl fun _ => 0) L st h
    | .char => mx_nwa 2 (pc + 2) (.inl fun _ => 0) L st h
    | _ => none
  | .anewarray _ => if 3 ≤ a ∧ a ≤ 5 then mx_nwa a (pc + 3) (.inr fun _ => none) L st h else none
  | .new _ => if h.1 < mx_big then mx_go (pc + 3, L, .ref h.1 :: st, mx_new h (mx_nf a) (.inr (a, mx_defs a))) else none
  | .checkcast _ => match st with
    | .ref b :: r => match h.2.2 b with
      | .inl (u, _, _) => if u = 0 ∧ b < mx_big then mx_go (pc + 3, L, .ref b :: r, h) else none
      | _ => none
    | _ => none
  | .ldc _ => if a = 0 then mx_go (pc + 2, L, .int (Int32.ofInt v) :: st, h) else mx_go (pc + 2, L, .ref (mx_big + a) :: st, h)
  | .ldc_w _ => mx_go (pc + 3, L, .int (Int32.ofInt v) :: st, h)
  | .ldc2_w _ => mx_go (pc + 3, L, .long (Int64.ofInt v) :: st, h)
  | .invokevirtual _ => mx_inv a v pc L st h
  | .invokestatic _ => mx_inv a v pc L st h
  | .invokespecial _ => mx_inv a v pc L st h
  | .ireturn => match st with
    | [.int x] => if mx_ri (mx_mr k) x = true then mx_rv (some (.int x)) else none
    | _ => none
  | .lreturn => match st with
    | [.long x] => if mx_mr k = some .long then mx_rv (some (.long x)) else none
    | _ => none
  | .areturn => match st with
    | [.ref b] => if mx_ro (mx_mr k) = true then mx_rv (some (.ref b)) else none
    | [.null] => if mx_ro (mx_mr k) = true then mx_rv (some .null) else none
    | _ => none
  | .return_ => match st with
    | [] => if mx_mr k = none then mx_rv none else none
    | _ => none
  | ins => match mx_sk ins st with
    | some r => mx_go (pc + mx_len ins, L, r, h)
    | none => none
def mx_stp (k : Nat) (s : mx_S) : Option mx_R := match mx_tb k s.1 with
  | none => none
  | some e => mx_do k e.1 e.2.1 e.2.2 s.1 s.2.1 s.2.2.1 s.2.2.2
def mx_run : Nat → Nat → Nat → mx_S → Option (Option Value × mx_H)
  | 0, _, _, _ => none
  | n + 1, d, k, s => match mx_stp k s with
    | none => none
    | some (.inl s') => mx_run n d k s'
    | some (.inr (.inr v)) => some (v, s.2.2.2)
    | some (.inr (.inl (a, vs, pc, r))) => match d with
      | 0 => none
      | e + 1 => match mx_run n e a (0, mx_ent (mx_ml a) vs, [], s.2.2.2) with
        | none => none
        | some (v, h) => mx_run n (e + 1) k (pc, s.2.1, v.toList ++ r, h)
/-- more steps, more depth: the same -/
theorem mx_run_mono : ∀ (n n' d d' k : Nat) (s : mx_S) (x : Option Value × mx_H), n ≤ n' → d ≤ d' → mx_run n d k s = some x → mx_run n' d' k s = some x := by
  intro n
  induction n with
  | zero => intro n' d d' k s x _ _ h; simp [mx_run] at h
  | succ n ih =>
    intro n' d d' k s x hn hd h
    obtain ⟨n', rfl⟩ : ∃ j, n' = j + 1 := ⟨n' - 1, by omega⟩
    have hn : n ≤ n' := by omega
    rw [mx_run] at h ⊢
    cases hs : mx_stp k s with
    | none => rw [hs] at h; simp at h
    | some z =>
      rw [hs] at h
      obtain s' | ⟨a, vs, pc, r⟩ | v := z
      · exact ih _ _ _ _ _ _ hn hd h
      · cases d with
        | zero => simp at h
        | succ d =>
          obtain ⟨d', rfl⟩ : ∃ j, d' = j + 1 := ⟨d' - 1, by omega⟩
          dsimp only at h ⊢
          cases h1 : mx_run n d a (0, mx_ent (mx_ml a) vs, [], s.2.2.2) with
          | none => rw [h1] at h; simp at h
          | some y =>
            rw [h1] at h
            rw [ih n' d d' a _ _ hn (by omega) h1]
            exact ih _ _ _ _ _ _ hn hd h
      · exact h
/-- from there the method ends, and Q holds of its answer and of the heap -/
def wq (d k pc : Nat) (L : mx_L) (st : List Value) (h : mx_H) (Q : Option Value → mx_H → Prop) : Prop := ∃ (n : Nat) (r : Option Value) (h' : mx_H), mx_run n d k (pc, L, st, h) = some (r, h') ∧ Q r h'
/-- a whole call -/
def wc (d k : Nat) (vs : List Value) (h : mx_H) (Q : Option Value → mx_H → Prop) : Prop := wq d k 0 (mx_ent (mx_ml k) vs) [] h Q
theorem wq.mono {d d' k pc : Nat} {L : mx_L} {st : List Value} {h : mx_H} {Q Q' : Option Value → mx_H → Prop} (hq : wq d k pc L st h Q) (hd : d ≤ d') (hQ : ∀ r h', Q r h' → Q' r h') : wq d' k pc L st h Q' := by
  obtain ⟨n, r, h', h1, h2⟩ := hq
  exact ⟨n, r, h', mx_run_mono n n d d' k _ _ (Nat.le_refl n) hd h1, hQ _ _ h2⟩
theorem wq.go {d k pc pc' : Nat} {L L' : mx_L} {st st' : List Value} {h h' : mx_H} {Q : Option Value → mx_H → Prop} (hs : mx_stp k (pc, L, st, h) = some (.inl (pc', L', st', h'))) (kk : wq d k pc' L' st' h' Q) : wq d k pc L st h Q := by
  obtain ⟨n, r, h1, e1, e2⟩ := kk
  refine ⟨n + 1, r, h1, ?_, e2⟩
  rw [mx_run, hs]
  exact e1
theorem wq.ret {d k pc : Nat} {L : mx_L} {st : List Value} {h : mx_H} {Q : Option Value → mx_H → Prop} {v : Option Value} (hs : mx_stp k (pc, L, st, h) = some (.inr (.inr v))) (hq : Q v h) : wq d k pc L st h Q := by
  refine ⟨1, v, h, ?_, hq⟩
  rw [mx_run, hs]
theorem wq.call {d k pc pc' a : Nat} {L : mx_L} {st r vs : List Value} {h : mx_H} {Q : Option Value → mx_H → Prop} (hs : mx_stp k (pc, L, st, h) = some (.inr (.inl (a, vs, pc', r)))) (hd : 1 ≤ d) (kk : wc (d - 1) a vs h (fun v h1 => wq d k pc' L (v.toList ++ r) h1 Q)) : wq d k pc L st h Q := by
  obtain ⟨e, rfl⟩ : ∃ j, d = j + 1 := ⟨d - 1, by omega⟩
  obtain ⟨n1, v, h1, e1, n2, w, h2, e2, e3⟩ := kk
  rw [Nat.add_sub_cancel] at e1
  refine ⟨n1 + n2 + 1, w, h2, ?_, e3⟩
  rw [mx_run, hs]
  dsimp only
  rw [mx_run_mono n1 (n1 + n2) _ _ _ _ _ (by omega) (Nat.le_refl _) e1]
  exact mx_run_mono n2 (n1 + n2) _ _ _ _ _ (by omega) (Nat.le_refl _) e2
