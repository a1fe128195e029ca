/-! ===== walking in the small machine: a row an instruction ===== -/
section WQ
variable {d k pc a : Nat} {v : Int} {L L' : mx_L} {st r : List Value} {h : mx_H} {Q : Option Value → mx_H → Prop}
theorem wq.do {ins : Jvm.ClassFile.Instr} {s' : mx_S} (hc : mx_tb k pc = some (ins, a, v)) (hs : mx_do k ins a v pc L st h = some (.inl s')) (kk : wq d k s'.1 s'.2.1 s'.2.2.1 s'.2.2.2 Q) : wq d k pc L st h Q := by
  refine wq.go (pc' := s'.1) (L' := s'.2.1) (st' := s'.2.2.1) (h' := s'.2.2.2) ?_ kk
  show (match mx_tb k pc with | none => none | some e => mx_do k e.1 e.2.1 e.2.2 pc L st h) = _
  rw [hc]
  exact hs
theorem wq.doR {ins : Jvm.ClassFile.Instr} {w : Option Value} (hc : mx_tb k pc = some (ins, a, v)) (hs : mx_do k ins a v pc L st h = some (.inr (.inr w))) (hq : Q w h) : wq d k pc L st h Q := by
  refine wq.ret (v := w) ?_ hq
  show (match mx_tb k pc with | none => none | some e => mx_do k e.1 e.2.1 e.2.2 pc L st h) = _
  rw [hc]
  exact hs
theorem wq.doC {ins : Jvm.ClassFile.Instr} {b pc' : Nat} {vs : List Value} (hc : mx_tb k pc = some (ins, a, v)) (hs : mx_do k ins a v pc L st h = some (.inr (.inl (b, vs, pc', r)))) (hd : 1 ≤ d) (kk : wc (d - 1) b vs h (fun w h1 => wq d k pc' L (w.toList ++ r) h1 Q)) : wq d k pc L st h Q := by
  refine wq.call (a := b) (vs := vs) (pc' := pc') (r := r) ?_ hd kk
  show (match mx_tb k pc with | none => none | some e => mx_do k e.1 e.2.1 e.2.2 pc L st h) = _
  rw [hc]
  exact hs
variable {n : Int} {x y : Int32} {lx ly : Int64} {i : Nat} {va vb : Value}
theorem q_iconst (hc : mx_tb k pc = some (.iconst n, a, v)) (x : Int32) (hx : Int32.ofInt n = x) (kk : wq d k (pc + 1) L (.int x :: st) h Q) : wq d k pc L st h Q := by subst hx; exact wq.do hc rfl kk
theorem q_bipush (hc : mx_tb k pc = some (.bipush n, a, v)) (x : Int32) (hx : (Int8.ofInt n).toInt32 = x) (kk : wq d k (pc + 2) L (.int x :: st) h Q) : wq d k pc L st h Q := by subst hx; exact wq.do hc rfl kk
theorem q_sipush (hc : mx_tb k pc = some (.sipush n, a, v)) (x : Int32) (hx : (Int16.ofInt n).toInt32 = x) (kk : wq d k (pc + 3) L (.int x :: st) h Q) : wq d k pc L st h Q := by subst hx; exact wq.do hc rfl kk
theorem q_ldcI {j : Nat} (hc : mx_tb k pc = some (.ldc j, 0, v)) (x : Int32) (hx : Int32.ofInt v = x) (kk : wq d k (pc + 2) L (.int x :: st) h Q) : wq d k pc L st h Q := by subst hx; exact wq.do hc rfl kk
theorem q_ldcW {j : Nat} (hc : mx_tb k pc = some (.ldc_w j, a, v)) (x : Int32) (hx : Int32.ofInt v = x) (kk : wq d k (pc + 3) L (.int x :: st) h Q) : wq d k pc L st h Q := by subst hx; exact wq.do hc rfl kk
theorem q_ldc2 {j : Nat} (hc : mx_tb k pc = some (.ldc2_w j, a, v)) (x : Int64) (hx : Int64.ofInt v = x) (kk : wq d k (pc + 3) L (.long x :: st) h Q) : wq d k pc L st h Q := by subst hx; exact wq.do hc rfl kk
theorem q_ldcS {j b : Nat} (hc : mx_tb k pc = some (.ldc j, b + 1, v)) (kk : wq d k (pc + 2) L (.ref (mx_big + (b + 1)) :: st) h Q) : wq d k pc L st h Q := wq.do hc rfl kk
theorem q_lconst {j : Fin 2} (hc : mx_tb k pc = some (.lconst j, a, v)) (x : Int64) (hx : Int64.ofNat (j : Nat) = x) (kk : wq d k (pc + 1) L (.long x :: st) h Q) : wq d k pc L st h Q := by subst hx; exact wq.do hc rfl kk
theorem q_null (hc : mx_tb k pc = some (.aconst_null, a, v)) (kk : wq d k (pc + 1) L (.null :: st) h Q) : wq d k pc L st h Q := wq.do hc rfl kk
theorem q_iadd (hc : mx_tb k pc = some (.iadd, a, v)) (kk : wq d k (pc + 1) L (.int (x + y) :: r) h Q) : wq d k pc L (.int y :: .int x :: r) h Q := wq.do hc rfl kk
theorem q_isub (hc : mx_tb k pc = some (.isub, a, v)) (kk : wq d k (pc + 1) L (.int (x - y) :: r) h Q) : wq d k pc L (.int y :: .int x :: r) h Q := wq.do hc rfl kk
theorem q_imul (hc : mx_tb k pc = some (.imul, a, v)) (kk : wq d k (pc + 1) L (.int (x * y) :: r) h Q) : wq d k pc L (.int y :: .int x :: r) h Q := wq.do hc rfl kk
theorem q_iand (hc : mx_tb k pc = some (.iand, a, v)) (kk : wq d k (pc + 1) L (.int (x &&& y) :: r) h Q) : wq d k pc L (.int y :: .int x :: r) h Q := wq.do hc rfl kk
theorem q_ior (hc : mx_tb k pc = some (.ior, a, v)) (kk : wq d k (pc + 1) L (.int (x ||| y) :: r) h Q) : wq d k pc L (.int y :: .int x :: r) h Q := wq.do hc rfl kk
theorem q_idiv (hc : mx_tb k pc = some (.idiv, a, v)) (hy : ¬ y = 0) (kk : wq d k (pc + 1) L (.int (x / y) :: r) h Q) : wq d k pc L (.int y :: .int x :: r) h Q := wq.do hc (s' := (pc + 1, L, .int (x / y) :: r, h)) (by show (match (if y = 0 then none else some (Value.int (x / y) :: r)) with | some r => mx_go (pc + mx_len .idiv, L, r, h) | none => none) = _; rw [if_neg hy]; rfl) kk
theorem q_irem (hc : mx_tb k pc = some (.irem, a, v)) (hy : ¬ y = 0) (kk : wq d k (pc + 1) L (.int (x - x / y * y) :: r) h Q) : wq d k pc L (.int y :: .int x :: r) h Q := wq.do hc (s' := (pc + 1, L, .int (x - x / y * y) :: r, h)) (by show (match (if y = 0 then none else some (Value.int (x - x / y * y) :: r)) with | some r => mx_go (pc + mx_len .irem, L, r, h) | none => none) = _; rw [if_neg hy]; rfl) kk
theorem q_ineg (hc : mx_tb k pc = some (.ineg, a, v)) (kk : wq d k (pc + 1) L (.int (-x) :: r) h Q) : wq d k pc L (.int x :: r) h Q := wq.do hc rfl kk
theorem q_ishl (hc : mx_tb k pc = some (.ishl, a, v)) (kk : wq d k (pc + 1) L (.int (x <<< (y &&& 31)) :: r) h Q) : wq d k pc L (.int y :: .int x :: r) h Q := wq.do hc rfl kk
theorem q_ishr (hc : mx_tb k pc = some (.ishr, a, v)) (kk : wq d k (pc + 1) L (.int (x >>> (y &&& 31)) :: r) h Q) : wq d k pc L (.int y :: .int x :: r) h Q := wq.do hc rfl kk
theorem q_iushr (hc : mx_tb k pc = some (.iushr, a, v)) (kk : wq d k (pc + 1) L (.int (x.toUInt32 >>> (y.toUInt32 &&& Int32.toUInt32 31)).toInt32 :: r) h Q) : wq d k pc L (.int y :: .int x :: r) h Q := wq.do hc rfl kk
theorem q_ladd (hc : mx_tb k pc = some (.ladd, a, v)) (kk : wq d k (pc + 1) L (.long (lx + ly) :: r) h Q) : wq d k pc L (.long ly :: .long lx :: r) h Q := wq.do hc rfl kk
theorem q_lsub (hc : mx_tb k pc = some (.lsub, a, v)) (kk : wq d k (pc + 1) L (.long (lx - ly) :: r) h Q) : wq d k pc L (.long ly :: .long lx :: r) h Q := wq.do hc rfl kk
theorem q_land (hc : mx_tb k pc = some (.land, a, v)) (kk : wq d k (pc + 1) L (.long (lx &&& ly) :: r) h Q) : wq d k pc L (.long ly :: .long lx :: r) h Q := wq.do hc rfl kk
theorem q_lor (hc : mx_tb k pc = some (.lor, a, v)) (kk : wq d k (pc + 1) L (.long (lx ||| ly) :: r) h Q) : wq d k pc L (.long ly :: .long lx :: r) h Q := wq.do hc rfl kk
theorem q_lxor (hc : mx_tb k pc = some (.lxor, a, v)) (kk : wq d k (pc + 1) L (.long (lx ^^^ ly) :: r) h Q) : wq d k pc L (.long ly :: .long lx :: r) h Q := wq.do hc rfl kk
theorem q_ldiv (hc : mx_tb k pc = some (.ldiv, a, v)) (hy : ¬ ly = 0) (kk : wq d k (pc + 1) L (.long (lx / ly) :: r) h Q) : wq d k pc L (.long ly :: .long lx :: r) h Q := wq.do hc (s' := (pc + 1, L, .long (lx / ly) :: r, h)) (by show (match (if ly = 0 then none else some (Value.long (lx / ly) :: r)) with | some r => mx_go (pc + mx_len .ldiv, L, r, h) | none => none) = _; rw [if_neg hy]; rfl) kk
theorem q_lrem (hc : mx_tb k pc = some (.lrem, a, v)) (hy : ¬ ly = 0) (kk : wq d k (pc + 1) L (.long (lx - lx / ly * ly) :: r) h Q) : wq d k pc L (.long ly :: .long lx :: r) h Q := wq.do hc (s' := (pc + 1, L, .long (lx - lx / ly * ly) :: r, h)) (by show (match (if ly = 0 then none else some (Value.long (lx - lx / ly * ly) :: r)) with | some r => mx_go (pc + mx_len .lrem, L, r, h) | none => none) = _; rw [if_neg hy]; rfl) kk
theorem q_lshl (hc : mx_tb k pc = some (.lshl, a, v)) (kk : wq d k (pc + 1) L (.long (lx <<< (y.toInt64 &&& 63)) :: r) h Q) : wq d k pc L (.int y :: .long lx :: r) h Q := wq.do hc rfl kk
theorem q_lshr (hc : mx_tb k pc = some (.lshr, a, v)) (kk : wq d k (pc + 1) L (.long (lx >>> (y.toInt64 &&& 63)) :: r) h Q) : wq d k pc L (.int y :: .long lx :: r) h Q := wq.do hc rfl kk
theorem q_lushr (hc : mx_tb k pc = some (.lushr, a, v)) (kk : wq d k (pc + 1) L (.long (lx.toUInt64 >>> (y.toInt64.toUInt64 &&& Int64.toUInt64 63)).toInt64 :: r) h Q) : wq d k pc L (.int y :: .long lx :: r) h Q := wq.do hc rfl kk
theorem q_lcmp (hc : mx_tb k pc = some (.lcmp, a, v)) (kk : wq d k (pc + 1) L (.int (lg_cmp lx ly) :: r) h Q) : wq d k pc L (.long ly :: .long lx :: r) h Q := wq.do hc rfl kk
theorem q_i2l (hc : mx_tb k pc = some (.i2l, a, v)) (kk : wq d k (pc + 1) L (.long x.toInt64 :: r) h Q) : wq d k pc L (.int x :: r) h Q := wq.do hc rfl kk
theorem q_l2i (hc : mx_tb k pc = some (.l2i, a, v)) (kk : wq d k (pc + 1) L (.int lx.toInt32 :: r) h Q) : wq d k pc L (.long lx :: r) h Q := wq.do hc rfl kk
theorem q_i2b (hc : mx_tb k pc = some (.i2b, a, v)) (kk : wq d k (pc + 1) L (.int x.toInt8.toInt32 :: r) h Q) : wq d k pc L (.int x :: r) h Q := wq.do hc rfl kk
theorem q_i2s (hc : mx_tb k pc = some (.i2s, a, v)) (kk : wq d k (pc + 1) L (.int x.toInt16.toInt32 :: r) h Q) : wq d k pc L (.int x :: r) h Q := wq.do hc rfl kk
theorem q_i2c (hc : mx_tb k pc = some (.i2c, a, v)) (kk : wq d k (pc + 1) L (.int (x.toUInt32 % 65536).toInt32 :: r) h Q) : wq d k pc L (.int x :: r) h Q := wq.do hc rfl kk
theorem q_dup (hc : mx_tb k pc = some (.dup, a, v)) (hv : va.category = 1) (kk : wq d k (pc + 1) L (va :: va :: r) h Q) : wq d k pc L (va :: r) h Q := wq.do hc (s' := (pc + 1, L, va :: va :: r, h)) (by show (match (if va.category = 1 then some (va :: va :: r) else none) with | some r => mx_go (pc + mx_len .dup, L, r, h) | none => none) = _; rw [if_pos hv]; rfl) kk
theorem q_pop (hc : mx_tb k pc = some (.pop, a, v)) (hv : va.category = 1) (kk : wq d k (pc + 1) L r h Q) : wq d k pc L (va :: r) h Q := wq.do hc (s' := (pc + 1, L, r, h)) (by show (match (if va.category = 1 then some r else none) with | some r => mx_go (pc + mx_len .pop, L, r, h) | none => none) = _; rw [if_pos hv]; rfl) kk
theorem q_dup2 (hc : mx_tb k pc = some (.dup2, a, v)) (hv : va.category = 1 ∧ vb.category = 1) (kk : wq d k (pc + 1) L (va :: vb :: va :: vb :: r) h Q) : wq d k pc L (va :: vb :: r) h Q := wq.do hc (s' := (pc + 1, L, va :: vb :: va :: vb :: r, h)) (by show (match (if va.category = 1 ∧ vb.category = 1 then some (va :: vb :: va :: vb :: r) else none) with | some r => mx_go (pc + mx_len .dup2, L, r, h) | none => none) = _; rw [if_pos hv]; rfl) kk
theorem mx_ld_eq {L : mx_L} {i t : Nat} {w : Value} (h : L[i]? = some (some w)) (ht : mx_tag w = t) : mx_ld L i t = some w := by unfold mx_ld; rw [h]; dsimp only; rw [if_pos ht]
theorem q_ld {ins : Jvm.ClassFile.Instr} {i t n : Nat} {w : Value} (hc : mx_tb k pc = some (ins, a, v)) (hi : mx_do k ins a v pc L st h = mx_psh (mx_ld L i t) (pc + n) L st h) (hl : L[i]? = some (some w)) (ht : mx_tag w = t) (kk : wq d k (pc + n) L (w :: st) h Q) : wq d k pc L st h Q := wq.do hc (s' := (pc + n, L, w :: st, h)) (by rw [hi, mx_ld_eq hl ht]; rfl) kk
theorem q_iload (hc : mx_tb k pc = some (.iload i, a, v)) (hl : L[i]? = some (some (.int x))) (kk : wq d k (pc + 2) L (.int x :: st) h Q) : wq d k pc L st h Q := q_ld hc rfl hl rfl kk
theorem q_iload_n {j : Fin 4} (hc : mx_tb k pc = some (.iload_n j, a, v)) (hl : L[(j : Nat)]? = some (some (.int x))) (kk : wq d k (pc + 1) L (.int x :: st) h Q) : wq d k pc L st h Q := q_ld hc rfl hl rfl kk
theorem q_lload (hc : mx_tb k pc = some (.lload i, a, v)) (hl : L[i]? = some (some (.long lx))) (kk : wq d k (pc + 2) L (.long lx :: st) h Q) : wq d k pc L st h Q := q_ld hc rfl hl rfl kk
theorem q_lload_n {j : Fin 4} (hc : mx_tb k pc = some (.lload_n j, a, v)) (hl : L[(j : Nat)]? = some (some (.long lx))) (kk : wq d k (pc + 1) L (.long lx :: st) h Q) : wq d k pc L st h Q := q_ld hc rfl hl rfl kk
theorem q_aload (hc : mx_tb k pc = some (.aload i, a, v)) (hl : L[i]? = some (some va)) (ht : mx_tag va = 2) (kk : wq d k (pc + 2) L (va :: st) h Q) : wq d k pc L st h Q := q_ld hc rfl hl ht kk
theorem q_aload_n {j : Fin 4} (hc : mx_tb k pc = some (.aload_n j, a, v)) (hl : L[(j : Nat)]? = some (some va)) (ht : mx_tag va = 2) (kk : wq d k (pc + 1) L (va :: st) h Q) : wq d k pc L st h Q := q_ld hc rfl hl ht kk
theorem q_st {ins : Jvm.ClassFile.Instr} {i t n : Nat} (hc : mx_tb k pc = some (ins, a, v)) (hi : mx_do k ins a v pc L (va :: r) h = mx_sto t i (pc + n) L (va :: r) h) (ht : mx_tag va = t) (hlen : i + (if t = 1 then 1 else 0) < L.length) (hL : mx_store L i va = L') (kk : wq d k (pc + n) L' r h Q) : wq d k pc L (va :: r) h Q := wq.do hc (s' := (pc + n, L', r, h)) (by rw [hi]; unfold mx_sto; dsimp only; rw [if_pos ⟨ht, hlen⟩, hL]; rfl) kk
theorem q_istore (L' : mx_L) (hc : mx_tb k pc = some (.istore i, a, v)) (hlen : i < L.length) (hL : mx_store L i (.int x) = L') (kk : wq d k (pc + 2) L' r h Q) : wq d k pc L (.int x :: r) h Q := q_st hc rfl rfl hlen hL kk
theorem q_istore_n {j : Fin 4} (L' : mx_L) (hc : mx_tb k pc = some (.istore_n j, a, v)) (hlen : (j : Nat) < L.length) (hL : mx_store L (j : Nat) (.int x) = L') (kk : wq d k (pc + 1) L' r h Q) : wq d k pc L (.int x :: r) h Q := q_st hc rfl rfl hlen hL kk
theorem q_lstore (L' : mx_L) (hc : mx_tb k pc = some (.lstore i, a, v)) (hlen : i + 1 < L.length) (hL : mx_store L i (.long lx) = L') (kk : wq d k (pc + 2) L' r h Q) : wq d k pc L (.long lx :: r) h Q := q_st hc rfl rfl hlen hL kk
theorem q_lstore_n {j : Fin 4} (L' : mx_L) (hc : mx_tb k pc = some (.lstore_n j, a, v)) (hlen : (j : Nat) + 1 < L.length) (hL : mx_store L (j : Nat) (.long lx) = L') (kk : wq d k (pc + 1) L' r h Q) : wq d k pc L (.long lx :: r) h Q := q_st hc rfl rfl hlen hL kk
theorem q_astore (L' : mx_L) (hc : mx_tb k pc = some (.astore i, a, v)) (ht : mx_tag va = 2) (hlen : i < L.length) (hL : mx_store L i va = L') (kk : wq d k (pc + 2) L' r h Q) : wq d k pc L (va :: r) h Q := q_st hc rfl ht hlen hL kk
theorem q_astore_n {j : Fin 4} (L' : mx_L) (hc : mx_tb k pc = some (.astore_n j, a, v)) (ht : mx_tag va = 2) (hlen : (j : Nat) < L.length) (hL : mx_store L (j : Nat) va = L') (kk : wq d k (pc + 1) L' r h Q) : wq d k pc L (va :: r) h Q := q_st hc rfl ht hlen hL kk
theorem q_iinc (L' : mx_L) (z : Int32) (hc : mx_tb k pc = some (.iinc i n, a, v)) (hl : L[i]? = some (some (.int x))) (hz : Int32.ofInt n = z) (hL : mx_store L i (.int (x + z)) = L') (kk : wq d k (pc + 3) L' st h Q) : wq d k pc L st h Q := wq.do hc (s' := (pc + 3, L', st, h)) (by show (match mx_ld L i 0 with | some (.int x) => mx_go (pc + 3, mx_store L i (.int (x + Int32.ofInt n)), st, h) | _ => none) = _; rw [mx_ld_eq (t := 0) hl rfl]; dsimp only; rw [hz, hL]; rfl) kk
theorem q_goto {o : Int} (hc : mx_tb k pc = some (.goto o, a, v)) (kk : wq d k a L st h Q) : wq d k pc L st h Q := wq.do hc rfl kk
theorem q_if {ins : Jvm.ClassFile.Instr} {b : Bool} (hc : mx_tb k pc = some (ins, a, v)) (hi : mx_do k ins a v pc L st h = mx_if b a pc L r h) (kt : b = true → wq d k a L r h Q) (kf : b = false → wq d k (pc + 3) L r h Q) : wq d k pc L st h Q := by
  cases b with
  | true => exact wq.do hc (s' := (a, L, r, h)) hi (kt rfl)
  | false => exact wq.do hc (s' := (pc + 3, L, r, h)) hi (kf rfl)
theorem q_ifeq {o : Int} (hc : mx_tb k pc = some (.ifCond .eq o, a, v)) (kt : x = 0 → wq d k a L r h Q) (kf : ¬ x = 0 → wq d k (pc + 3) L r h Q) : wq d k pc L (.int x :: r) h Q := q_if (b := decide (x = 0)) hc rfl (fun z => kt (of_decide_eq_true z)) (fun z => kf (of_decide_eq_false z))
theorem q_ifne {o : Int} (hc : mx_tb k pc = some (.ifCond .ne o, a, v)) (kt : ¬ x = 0 → wq d k a L r h Q) (kf : x = 0 → wq d k (pc + 3) L r h Q) : wq d k pc L (.int x :: r) h Q := q_if (b := decide (¬ x = 0)) hc rfl (fun z => kt (of_decide_eq_true z)) (fun z => kf (Decidable.not_not.mp (of_decide_eq_false z)))
theorem q_iflt {o : Int} (hc : mx_tb k pc = some (.ifCond .lt o, a, v)) (kt : x < 0 → wq d k a L r h Q) (kf : ¬ x < 0 → wq d k (pc + 3) L r h Q) : wq d k pc L (.int x :: r) h Q := q_if (b := decide (x < 0)) hc rfl (fun z => kt (of_decide_eq_true z)) (fun z => kf (of_decide_eq_false z))
theorem q_ifge {o : Int} (hc : mx_tb k pc = some (.ifCond .ge o, a, v)) (kt : 0 ≤ x → wq d k a L r h Q) (kf : ¬ 0 ≤ x → wq d k (pc + 3) L r h Q) : wq d k pc L (.int x :: r) h Q := q_if (b := decide (x ≥ 0)) hc rfl (fun z => kt (of_decide_eq_true z)) (fun z => kf (of_decide_eq_false z))
theorem q_ifgt {o : Int} (hc : mx_tb k pc = some (.ifCond .gt o, a, v)) (kt : 0 < x → wq d k a L r h Q) (kf : ¬ 0 < x → wq d k (pc + 3) L r h Q) : wq d k pc L (.int x :: r) h Q := q_if (b := decide (x > 0)) hc rfl (fun z => kt (of_decide_eq_true z)) (fun z => kf (of_decide_eq_false z))
theorem q_ifle {o : Int} (hc : mx_tb k pc = some (.ifCond .le o, a, v)) (kt : x ≤ 0 → wq d k a L r h Q) (kf : ¬ x ≤ 0 → wq d k (pc + 3) L r h Q) : wq d k pc L (.int x :: r) h Q := q_if (b := decide (x ≤ 0)) hc rfl (fun z => kt (of_decide_eq_true z)) (fun z => kf (of_decide_eq_false z))
theorem q_icmpeq {o : Int} (hc : mx_tb k pc = some (.if_icmp .eq o, a, v)) (kt : x = y → wq d k a L r h Q) (kf : ¬ x = y → wq d k (pc + 3) L r h Q) : wq d k pc L (.int y :: .int x :: r) h Q := q_if (b := decide (x = y)) hc rfl (fun z => kt (of_decide_eq_true z)) (fun z => kf (of_decide_eq_false z))
theorem q_icmpne {o : Int} (hc : mx_tb k pc = some (.if_icmp .ne o, a, v)) (kt : ¬ x = y → wq d k a L r h Q) (kf : x = y → wq d k (pc + 3) L r h Q) : wq d k pc L (.int y :: .int x :: r) h Q := q_if (b := decide (¬ x = y)) hc rfl (fun z => kt (of_decide_eq_true z)) (fun z => kf (Decidable.not_not.mp (of_decide_eq_false z)))
theorem q_icmplt {o : Int} (hc : mx_tb k pc = some (.if_icmp .lt o, a, v)) (kt : x < y → wq d k a L r h Q) (kf : ¬ x < y → wq d k (pc + 3) L r h Q) : wq d k pc L (.int y :: .int x :: r) h Q := q_if (b := decide (x < y)) hc rfl (fun z => kt (of_decide_eq_true z)) (fun z => kf (of_decide_eq_false z))
theorem q_icmpge {o : Int} (hc : mx_tb k pc = some (.if_icmp .ge o, a, v)) (kt : y ≤ x → wq d k a L r h Q) (kf : ¬ y ≤ x → wq d k (pc + 3) L r h Q) : wq d k pc L (.int y :: .int x :: r) h Q := q_if (b := decide (x ≥ y)) hc rfl (fun z => kt (of_decide_eq_true z)) (fun z => kf (of_decide_eq_false z))
theorem q_icmpgt {o : Int} (hc : mx_tb k pc = some (.if_icmp .gt o, a, v)) (kt : y < x → wq d k a L r h Q) (kf : ¬ y < x → wq d k (pc + 3) L r h Q) : wq d k pc L (.int y :: .int x :: r) h Q := q_if (b := decide (x > y)) hc rfl (fun z => kt (of_decide_eq_true z)) (fun z => kf (of_decide_eq_false z))
theorem q_icmple {o : Int} (hc : mx_tb k pc = some (.if_icmp .le o, a, v)) (kt : x ≤ y → wq d k a L r h Q) (kf : ¬ x ≤ y → wq d k (pc + 3) L r h Q) : wq d k pc L (.int y :: .int x :: r) h Q := q_if (b := decide (x ≤ y)) hc rfl (fun z => kt (of_decide_eq_true z)) (fun z => kf (of_decide_eq_false z))
theorem q_ifnull {o : Int} {b : Nat} (hc : mx_tb k pc = some (.ifnull o, a, v)) (kk : wq d k (pc + 3) L r h Q) : wq d k pc L (.ref b :: r) h Q := wq.do hc rfl kk
theorem q_ifnullN {o : Int} (hc : mx_tb k pc = some (.ifnull o, a, v)) (kk : wq d k a L r h Q) : wq d k pc L (.null :: r) h Q := wq.do hc rfl kk
theorem q_ifnonnull {o : Int} {b : Nat} (hc : mx_tb k pc = some (.ifnonnull o, a, v)) (kk : wq d k a L r h Q) : wq d k pc L (.ref b :: r) h Q := wq.do hc rfl kk
theorem q_ifnonnullN {o : Int} (hc : mx_tb k pc = some (.ifnonnull o, a, v)) (kk : wq d k (pc + 3) L r h Q) : wq d k pc L (.null :: r) h Q := wq.do hc rfl kk
theorem q_tsw {dd lo hi : Int} {offs : Array Int} {t : Nat} (hc : mx_tb k pc = some (.tableswitch dd lo hi offs, a, v)) (ht : mx_tsw dd lo hi offs pc x = some t) (kk : wq d k t L r h Q) : wq d k pc L (.int x :: r) h Q := wq.do hc (s' := (t, L, r, h)) (by show mx_jmp (mx_tsw dd lo hi offs pc x) L r h = _; rw [ht]; rfl) kk
theorem q_lsw {dd : Int} {ps : Array (Int × Int)} {t : Nat} (hc : mx_tb k pc = some (.lookupswitch dd ps, a, v)) (ht : mx_tg pc (Op.lookupswitch.offset ps.toList dd x.toInt) = some t) (kk : wq d k t L r h Q) : wq d k pc L (.int x :: r) h Q := wq.do hc (s' := (t, L, r, h)) (by show mx_jmp (mx_tg pc (Op.lookupswitch.offset ps.toList dd x.toInt)) L r h = _; rw [ht]; rfl) kk
theorem q_getf {j b ci : Nat} {fs : List Value} (hc : mx_tb k pc = some (.getfield j, a, v)) (hh : h.2.2 b = .inr (ci, fs)) (hi : ci = a / 100) (hv : fs[a % 100]? = some va) (kk : wq d k (pc + 3) L (va :: r) h Q) : wq d k pc L (.ref b :: r) h Q := wq.do hc (s' := (pc + 3, L, va :: r, h)) (by
  show (match h.2.2 b with | .inr (ci, fs) => if ci = a / 100 then mx_psh (fs[a % 100]?) (pc + 3) L r h else none | _ => none) = _
  rw [hh]; dsimp only; rw [if_pos hi, hv]; rfl) kk
theorem q_putf {j b ci : Nat} {fs fs' : List Value} (hc : mx_tb k pc = some (.putfield j, a, v)) (hh : h.2.2 b = .inr (ci, fs)) (hi : ci = a / 100) (hl : a % 100 < fs.length) (hf : mx_fit (mx_tyf a) va = true) (hs : fs.set (a % 100) va = fs') (kk : wq d k (pc + 3) L r (mx_set h b (.inr (ci, fs'))) Q) : wq d k pc L (va :: .ref b :: r) h Q := wq.do hc (s' := (pc + 3, L, r, mx_set h b (.inr (ci, fs')))) (by
  show (match h.2.2 b with | .inr (ci, fs) => if ci = a / 100 ∧ a % 100 < fs.length ∧ mx_fit (mx_tyf a) va = true then mx_go (pc + 3, L, r, mx_set h b (.inr (ci, fs.set (a % 100) va))) else none | _ => none) = _
  rw [hh]; dsimp only; rw [if_pos ⟨hi, hl, hf⟩, hs]; rfl) kk
theorem q_ald {ins : Jvm.ClassFile.Instr} {b t m : Nat} {f : Nat → Int32} (hc : mx_tb k pc = some (ins, a, v)) (hi : mx_do k ins a v pc L (.int x :: .ref b :: r) h = mx_ald t pc L (.int x :: .ref b :: r) h) (hh : h.2.2 b = .inl (t, m, .inl f)) (hv : mx_vin x m = true) (kk : wq d k (pc + 1) L (.int (f x.toNatClampNeg) :: r) h Q) : wq d k pc L (.int x :: .ref b :: r) h Q := wq.do hc (s' := (pc + 1, L, .int (f x.toNatClampNeg) :: r, h)) (by
  rw [hi]
  show (match h.2.2 b with | .inl (u, n, .inl f) => if u = t ∧ mx_vin x n = true then mx_go (pc + 1, L, .int (f x.toNatClampNeg) :: r, h) else none | _ => none) = _
  rw [hh]; dsimp only; rw [if_pos ⟨rfl, hv⟩]; rfl) kk
theorem q_iaload {b m : Nat} {f : Nat → Int32} (hc : mx_tb k pc = some (.iaload, a, v)) (hh : h.2.2 b = .inl (0, m, .inl f)) (hv : mx_vin x m = true) (kk : wq d k (pc + 1) L (.int (f x.toNatClampNeg) :: r) h Q) : wq d k pc L (.int x :: .ref b :: r) h Q := q_ald hc rfl hh hv kk
theorem q_baload {b m : Nat} {f : Nat → Int32} (hc : mx_tb k pc = some (.baload, a, v)) (hh : h.2.2 b = .inl (1, m, .inl f)) (hv : mx_vin x m = true) (kk : wq d k (pc + 1) L (.int (f x.toNatClampNeg) :: r) h Q) : wq d k pc L (.int x :: .ref b :: r) h Q := q_ald hc rfl hh hv kk
theorem q_caload {b m : Nat} {f : Nat → Int32} (hc : mx_tb k pc = some (.caload, a, v)) (hh : h.2.2 b = .inl (2, m, .inl f)) (hv : mx_vin x m = true) (kk : wq d k (pc + 1) L (.int (f x.toNatClampNeg) :: r) h Q) : wq d k pc L (.int x :: .ref b :: r) h Q := q_ald hc rfl hh hv kk
theorem q_ast {ins : Jvm.ClassFile.Instr} {b t m : Nat} {ty : FieldType} {f : Nat → Int32} (hc : mx_tb k pc = some (ins, a, v)) (hi : mx_do k ins a v pc L (.int y :: .int x :: .ref b :: r) h = mx_ast t ty pc L (.int y :: .int x :: .ref b :: r) h) (hh : h.2.2 b = .inl (t, m, .inl f)) (hb : b < mx_big) (hv : mx_vin x m = true) (kk : wq d k (pc + 1) L r (mx_set h b (.inl (t, m, .inl (upd f x.toNatClampNeg (vp_nar ty y))))) Q) : wq d k pc L (.int y :: .int x :: .ref b :: r) h Q := wq.do hc (s' := (pc + 1, L, r, mx_set h b (.inl (t, m, .inl (upd f x.toNatClampNeg (vp_nar ty y)))))) (by
  rw [hi]
  show (match h.2.2 b with | .inl (u, n, .inl f) => if u = t ∧ b < mx_big ∧ mx_vin x n = true then mx_go (pc + 1, L, r, mx_set h b (.inl (u, n, .inl (upd f x.toNatClampNeg (vp_nar ty y))))) else none | _ => none) = _
  rw [hh]; dsimp only; rw [if_pos ⟨rfl, hb, hv⟩]; rfl) kk
theorem q_iastore {b m : Nat} {f : Nat → Int32} (hc : mx_tb k pc = some (.iastore, a, v)) (hh : h.2.2 b = .inl (0, m, .inl f)) (hb : b < mx_big) (hv : mx_vin x m = true) (kk : wq d k (pc + 1) L r (mx_set h b (.inl (0, m, .inl (upd f x.toNatClampNeg y)))) Q) : wq d k pc L (.int y :: .int x :: .ref b :: r) h Q := q_ast (ty := .int) hc rfl hh hb hv kk
theorem q_bastore {b m : Nat} {f : Nat → Int32} (hc : mx_tb k pc = some (.bastore, a, v)) (hh : h.2.2 b = .inl (1, m, .inl f)) (hb : b < mx_big) (hv : mx_vin x m = true) (kk : wq d k (pc + 1) L r (mx_set h b (.inl (1, m, .inl (upd f x.toNatClampNeg (vp_nar .boolean y))))) Q) : wq d k pc L (.int y :: .int x :: .ref b :: r) h Q := q_ast (ty := .boolean) hc rfl hh hb hv kk
theorem q_castore {b m : Nat} {f : Nat → Int32} (hc : mx_tb k pc = some (.castore, a, v)) (hh : h.2.2 b = .inl (2, m, .inl f)) (hb : b < mx_big) (hv : mx_vin x m = true) (kk : wq d k (pc + 1) L r (mx_set h b (.inl (2, m, .inl (upd f x.toNatClampNeg (vp_nar .char y))))) Q) : wq d k pc L (.int y :: .int x :: .ref b :: r) h Q := q_ast (ty := .char) hc rfl hh hb hv kk
theorem q_aaload {b u m : Nat} {g : Nat → Option Nat} (hc : mx_tb k pc = some (.aaload, a, v)) (hh : h.2.2 b = .inl (u, m, .inr g)) (hu : 3 ≤ u ∧ u ≤ 5) (hb : b < mx_big) (hv : mx_vin x m = true) (kk : wq d k (pc + 1) L (va_rf (g x.toNatClampNeg) :: r) h Q) : wq d k pc L (.int x :: .ref b :: r) h Q := wq.do hc (s' := (pc + 1, L, va_rf (g x.toNatClampNeg) :: r, h)) (by
  show (match h.2.2 b with | .inl (u, n, .inr g) => if 3 ≤ u ∧ u ≤ 5 ∧ b < mx_big ∧ mx_vin x n = true then mx_go (pc + 1, L, va_rf (g x.toNatClampNeg) :: r, h) else none | _ => none) = _
  rw [hh]; dsimp only; rw [if_pos ⟨hu.1, hu.2, hb, hv⟩]; rfl) kk
theorem q_aastore {b w u m ci : Nat} {fs : List Value} {g : Nat → Option Nat} (hc : mx_tb k pc = some (.aastore, a, v)) (hh : h.2.2 b = .inl (u, m, .inr g)) (hw : h.2.2 w = .inr (ci, fs)) (hu : 3 ≤ u ∧ u ≤ 5) (hci : ci = mx_el u) (hb : b < mx_big) (hv : mx_vin x m = true) (kk : wq d k (pc + 1) L r (mx_set h b (.inl (u, m, .inr (va_up g x.toNatClampNeg (some w))))) Q) : wq d k pc L (.ref w :: .int x :: .ref b :: r) h Q := wq.do hc (s' := (pc + 1, L, r, mx_set h b (.inl (u, m, .inr (va_up g x.toNatClampNeg (some w)))))) (by
  show (match h.2.2 b, h.2.2 w with | .inl (u, n, .inr g), .inr (ci, _) => if 3 ≤ u ∧ u ≤ 5 ∧ ci = mx_el u ∧ b < mx_big ∧ mx_vin x n = true then mx_go (pc + 1, L, r, mx_set h b (.inl (u, n, .inr (va_up g x.toNatClampNeg (some w))))) else none | _, _ => none) = _
  rw [hh, hw]; dsimp only; rw [if_pos ⟨hu.1, hu.2, hci, hb, hv⟩]; rfl) kk
theorem q_alen {b u m : Nat} {f : mx_C} (hc : mx_tb k pc = some (.arraylength, a, v)) (hh : h.2.2 b = .inl (u, m, f)) (hu : u ≤ 5) (kk : wq d k (pc + 1) L (.int (Int32.ofNat m) :: r) h Q) : wq d k pc L (.ref b :: r) h Q := wq.do hc (s' := (pc + 1, L, .int (Int32.ofNat m) :: r, h)) (by
  show (match h.2.2 b with | .inl (u, n, _) => if u ≤ 5 then mx_go (pc + 1, L, .int (Int32.ofNat n) :: r, h) else none | _ => none) = _
  rw [hh]; dsimp only; rw [if_pos hu]; rfl) kk
theorem q_nwa {ins : Jvm.ClassFile.Instr} {t n : Nat} {c : mx_C} (hc : mx_tb k pc = some (ins, a, v)) (hi : mx_do k ins a v pc L (.int x :: r) h = mx_nwa t (pc + n) c L (.int x :: r) h) (hx : ¬ x < 0 ∧ x.toNatClampNeg ≤ 100000 ∧ h.1 < mx_big) (kk : wq d k (pc + n) L (.ref h.1 :: r) (mx_new h x.toNatClampNeg (.inl (t, x.toNatClampNeg, c))) Q) : wq d k pc L (.int x :: r) h Q := wq.do hc (s' := (pc + n, L, .ref h.1 :: r, mx_new h x.toNatClampNeg (.inl (t, x.toNatClampNeg, c)))) (by
  rw [hi]
  show (if ¬ x < 0 ∧ x.toNatClampNeg ≤ 100000 ∧ h.1 < mx_big then _ else none) = _
  rw [if_pos hx]; rfl) kk
theorem q_newI (hc : mx_tb k pc = some (.newarray .int, a, v)) (hx : ¬ x < 0 ∧ x.toNatClampNeg ≤ 100000 ∧ h.1 < mx_big) (kk : wq d k (pc + 2) L (.ref h.1 :: r) (mx_new h x.toNatClampNeg (.inl (0, x.toNatClampNeg, .inl fun _ => 0))) Q) : wq d k pc L (.int x :: r) h Q := q_nwa hc rfl hx kk
theorem q_newZ (hc : mx_tb k pc = some (.newarray .boolean, a, v)) (hx : ¬ x < 0 ∧ x.toNatClampNeg ≤ 100000 ∧ h.1 < mx_big) (kk : wq d k (pc + 2) L (.ref h.1 :: r) (mx_new h x.toNatClampNeg (.inl (1, x.toNatClampNeg, .inl fun _ => 0))) Q) : wq d k pc L (.int x :: r) h Q := q_nwa hc rfl hx kk
theorem q_newC (hc : mx_tb k pc = some (.newarray .char, a, v)) (hx : ¬ x < 0 ∧ x.toNatClampNeg ≤ 100000 ∧ h.1 < mx_big) (kk : wq d k (pc + 2) L (.ref h.1 :: r) (mx_new h x.toNatClampNeg (.inl (2, x.toNatClampNeg, .inl fun _ => 0))) Q) : wq d k pc L (.int x :: r) h Q := q_nwa hc rfl hx kk
theorem q_newQ {j : Nat} (hc : mx_tb k pc = some (.anewarray j, a, v)) (ha : 3 ≤ a ∧ a ≤ 5) (hx : ¬ x < 0 ∧ x.toNatClampNeg ≤ 100000 ∧ h.1 < mx_big) (kk : wq d k (pc + 3) L (.ref h.1 :: r) (mx_new h x.toNatClampNeg (.inl (a, x.toNatClampNeg, .inr fun _ => none))) Q) : wq d k pc L (.int x :: r) h Q := q_nwa (t := a) hc (by show (if 3 ≤ a ∧ a ≤ 5 then _ else none) = _; rw [if_pos ha]) hx kk
theorem q_new {j : Nat} (hc : mx_tb k pc = some (.new j, a, v)) (hx : h.1 < mx_big) (kk : wq d k (pc + 3) L (.ref h.1 :: st) (mx_new h (mx_nf a) (.inr (a, mx_defs a))) Q) : wq d k pc L st h Q := wq.do hc (s' := (pc + 3, L, .ref h.1 :: st, mx_new h (mx_nf a) (.inr (a, mx_defs a)))) (by show (if h.1 < mx_big then _ else none) = _; rw [if_pos hx]; rfl) kk
theorem q_cast {j b m : Nat} {f : mx_C} (hc : mx_tb k pc = some (.checkcast j, a, v)) (hh : h.2.2 b = .inl (0, m, f)) (hb : b < mx_big) (kk : wq d k (pc + 3) L (.ref b :: r) h Q) : wq d k pc L (.ref b :: r) h Q := wq.do hc (s' := (pc + 3, L, .ref b :: r, h)) (by
  show (match h.2.2 b with | .inl (u, _, _) => if u = 0 ∧ b < mx_big then mx_go (pc + 3, L, .ref b :: r, h) else none | _ => none) = _
  rw [hh]; dsimp only; rw [if_pos ⟨rfl, hb⟩]; rfl) kk
theorem q_max {j : Nat} (hc : mx_tb k pc = some (.invokestatic j, a, 20)) (h8 : mx_ok8 r = true) (kk : wq d k (pc + 3) L (.int (if x < y then y else x) :: r) h Q) : wq d k pc L (.int y :: .int x :: r) h Q := wq.do hc (s' := (pc + 3, L, .int (if x < y then y else x) :: r, h)) (by show (if mx_ok8 r = true then _ else none) = _; rw [if_pos h8]; rfl) kk
theorem q_min {j : Nat} (hc : mx_tb k pc = some (.invokestatic j, a, 21)) (h8 : mx_ok8 r = true) (kk : wq d k (pc + 3) L (.int (if y < x then y else x) :: r) h Q) : wq d k pc L (.int y :: .int x :: r) h Q := wq.do hc (s' := (pc + 3, L, .int (if y < x then y else x) :: r, h)) (by show (if mx_ok8 r = true then _ else none) = _; rw [if_pos h8]; rfl) kk
theorem q_abs {j : Nat} (hc : mx_tb k pc = some (.invokestatic j, a, 22)) (h8 : mx_ok8 r = true) (kk : wq d k (pc + 3) L (.int (if 0 ≤ x then x else 0 - x) :: r) h Q) : wq d k pc L (.int x :: r) h Q := wq.do hc (s' := (pc + 3, L, .int (if 0 ≤ x then x else 0 - x) :: r, h)) (by show (if mx_ok8 r = true then _ else none) = _; rw [if_pos h8]; rfl) kk
theorem q_copy {j b e n0 n1 : Nat} {sp dp n : Int32} {f g : Nat → Int32} (hc : mx_tb k pc = some (.invokestatic j, a, 23)) (h0 : h.2.2 e = .inl (0, n0, .inl f)) (h1 : h.2.2 b = .inl (0, n1, .inl g)) (hx : mx_ok8 r = true ∧ e < mx_big ∧ b < mx_big ∧ ¬ sp < 0 ∧ ¬ dp < 0 ∧ ¬ n < 0 ∧ sp.toNatClampNeg + n.toNatClampNeg ≤ n0 ∧ dp.toNatClampNeg + n.toNatClampNeg ≤ n1) (kk : wq d k (pc + 3) L r (mx_set h b (.inl (0, n1, .inl (va_cpy f g sp.toNatClampNeg dp.toNatClampNeg n.toNatClampNeg)))) Q) : wq d k pc L (.int n :: .int dp :: .ref b :: .int sp :: .ref e :: r) h Q := wq.do hc (s' := (pc + 3, L, r, mx_set h b (.inl (0, n1, .inl (va_cpy f g sp.toNatClampNeg dp.toNatClampNeg n.toNatClampNeg))))) (by
  show (match h.2.2 e, h.2.2 b with | .inl (0, n0, .inl f), .inl (0, n1, .inl g) => if mx_ok8 r = true ∧ e < mx_big ∧ b < mx_big ∧ ¬ sp < 0 ∧ ¬ dp < 0 ∧ ¬ n < 0 ∧ sp.toNatClampNeg + n.toNatClampNeg ≤ n0 ∧ dp.toNatClampNeg + n.toNatClampNeg ≤ n1 then mx_go (pc + 3, L, r, mx_set h b (.inl (0, n1, .inl (va_cpy f g sp.toNatClampNeg dp.toNatClampNeg n.toNatClampNeg)))) else none | _, _ => none) = _
  rw [h0, h1]; show (if _ then _ else none) = _; rw [if_pos hx]; rfl) kk
theorem q_clone {j b m : Nat} {f : Nat → Int32} (hc : mx_tb k pc = some (.invokevirtual j, a, 24)) (hh : h.2.2 b = .inl (0, m, .inl f)) (hx : mx_ok8 r = true ∧ b < mx_big ∧ h.1 < mx_big) (kk : wq d k (pc + 3) L (.ref h.1 :: r) (mx_new h m (.inl (0, m, .inl f))) Q) : wq d k pc L (.ref b :: r) h Q := wq.do hc (s' := (pc + 3, L, .ref h.1 :: r, mx_new h m (.inl (0, m, .inl f)))) (by
  show (match h.2.2 b with | .inl (0, n, .inl f) => if mx_ok8 r = true ∧ b < mx_big ∧ h.1 < mx_big then mx_go (pc + 3, L, .ref h.1 :: r, mx_new h n (.inl (0, n, .inl f))) else none | _ => none) = _
  rw [hh]; show (if _ then _ else none) = _; rw [if_pos hx]; rfl) kk
theorem q_slen {j b m : Nat} (hc : mx_tb k pc = some (.invokevirtual j, a, 25)) (hn : mx_slen b = some m) (h8 : mx_ok8 r = true) (kk : wq d k (pc + 3) L (.int (Int32.ofNat m) :: r) h Q) : wq d k pc L (.ref b :: r) h Q := wq.do hc (s' := (pc + 3, L, .int (Int32.ofNat m) :: r, h)) (by
  show (match mx_slen b with | some n => if mx_ok8 r = true then _ else none | none => none) = _
  rw [hn]; dsimp only; rw [if_pos h8]; rfl) kk
theorem q_schr {j b m : Nat} (hc : mx_tb k pc = some (.invokevirtual j, a, 26)) (hn : mx_slen b = some m) (h8 : mx_ok8 r = true) (hv : mx_vin x m = true) (kk : wq d k (pc + 3) L (.int ((mx_byt.getD (b - mx_big - 1) []).getD x.toNatClampNeg 0) :: r) h Q) : wq d k pc L (.int x :: .ref b :: r) h Q := wq.do hc (s' := (pc + 3, L, .int ((mx_byt.getD (b - mx_big - 1) []).getD x.toNatClampNeg 0) :: r, h)) (by
  show (match mx_slen b with | some n => if mx_ok8 r = true ∧ mx_vin x n = true then _ else none | none => none) = _
  rw [hn]; dsimp only; rw [if_pos ⟨h8, hv⟩]; rfl) kk
theorem q_obj {j b : Nat} (hc : mx_tb k pc = some (.invokespecial j, a, 27)) (h8 : mx_ok8 r = true) (kk : wq d k (pc + 3) L r h Q) : wq d k pc L (.ref b :: r) h Q := wq.do hc (s' := (pc + 3, L, r, h)) (by show (if mx_ok8 r = true then _ else none) = _; rw [if_pos h8]; rfl) kk
theorem mx_cal_eq {vs : List Value} (h8 : mx_ok8 r = true) (hl : (mx_pl vs).length ≤ mx_ml a) : mx_cal a vs pc r = some (.inr (.inl (a, vs, pc, r))) := by unfold mx_cal; rw [if_pos ⟨h8, hl⟩]
theorem q_callV {j b : Nat} {fs : List Value} (r : List Value) (hc : mx_tb k pc = some (.invokevirtual j, a, 1)) (hn : (st.take (mx_np a)).length = mx_np a) (hdr : st.drop (mx_np a) = .ref b :: r) (hh : h.2.2 b = .inr (mx_mc a, fs)) (h8 : mx_ok8 r = true) (hl : (mx_pl (.ref b :: (st.take (mx_np a)).reverse)).length ≤ mx_ml a) (hd : 1 ≤ d) (vs : List Value) (hvs : .ref b :: (st.take (mx_np a)).reverse = vs) (kk : wc (d - 1) a vs h (fun w h1 => wq d k (pc + 3) L (w.toList ++ r) h1 Q)) : wq d k pc L st h Q := by
  subst hvs
  refine wq.doC (pc' := pc + 3) (r := r) hc ?_ hd kk
  show (if (st.take (mx_np a)).length = mx_np a then match st.drop (mx_np a) with | .ref b :: r => (match h.2.2 b with | .inr (ci, _) => if ci = mx_mc a then mx_cal a (.ref b :: (st.take (mx_np a)).reverse) (pc + 3) r else none | _ => none) | _ => none else none) = _
  rw [if_pos hn, hdr]
  dsimp only
  rw [hh]
  dsimp only
  rw [if_pos rfl]
  exact mx_cal_eq h8 hl
theorem q_callS {j : Nat} (r : List Value) (hv : v = 3 ∨ v = 4) (hc : mx_tb k pc = some (.invokestatic j, a, v)) (hn : (st.take (mx_np a)).length = mx_np a) (hdr : st.drop (mx_np a) = r) (h8 : mx_ok8 r = true) (hl : (mx_pl (st.take (mx_np a)).reverse).length ≤ mx_ml a) (hd : 1 ≤ d) (vs : List Value) (hvs : (st.take (mx_np a)).reverse = vs) (kk : wc (d - 1) a vs h (fun w h1 => wq d k (pc + 3) L (w.toList ++ r) h1 Q)) : wq d k pc L st h Q := by
  subst hvs
  refine wq.doC (pc' := pc + 3) (r := r) hc ?_ hd kk
  have e : mx_do k (.invokestatic j) a v pc L st h = (if (st.take (mx_np a)).length = mx_np a then mx_cal a (st.take (mx_np a)).reverse (pc + 3) (st.drop (mx_np a)) else none) := by rcases hv with rfl | rfl <;> rfl
  rw [e, if_pos hn, hdr]
  exact mx_cal_eq h8 hl
theorem q_callI {j b : Nat} (r : List Value) (hv : v = 5 ∨ v = 6) (hc : mx_tb k pc = some (.invokespecial j, a, v)) (hn : (st.take (mx_np a)).length = mx_np a) (hdr : st.drop (mx_np a) = .ref b :: r) (h8 : mx_ok8 r = true) (hl : (mx_pl (.ref b :: (st.take (mx_np a)).reverse)).length ≤ mx_ml a) (hd : 1 ≤ d) (vs : List Value) (hvs : .ref b :: (st.take (mx_np a)).reverse = vs) (kk : wc (d - 1) a vs h (fun w h1 => wq d k (pc + 3) L (w.toList ++ r) h1 Q)) : wq d k pc L st h Q := by
  subst hvs
  refine wq.doC (pc' := pc + 3) (r := r) hc ?_ hd kk
  have e : mx_do k (.invokespecial j) a v pc L st h = (if (st.take (mx_np a)).length = mx_np a then match st.drop (mx_np a) with | .ref b :: r => mx_cal a (.ref b :: (st.take (mx_np a)).reverse) (pc + 3) r | _ => none else none) := by rcases hv with rfl | rfl <;> rfl
  rw [e, if_pos hn, hdr]
  exact mx_cal_eq h8 hl
theorem q_iret (hc : mx_tb k pc = some (.ireturn, a, v)) (hr : mx_ri (mx_mr k) x = true) (hq : Q (some (.int x)) h) : wq d k pc L [.int x] h Q := wq.doR hc (w := some (.int x)) (by show (if mx_ri (mx_mr k) x = true then _ else none) = _; rw [if_pos hr]; rfl) hq
theorem q_lret (hc : mx_tb k pc = some (.lreturn, a, v)) (hr : mx_mr k = some .long) (hq : Q (some (.long lx)) h) : wq d k pc L [.long lx] h Q := wq.doR hc (w := some (.long lx)) (by show (if mx_mr k = some .long then _ else none) = _; rw [if_pos hr]; rfl) hq
theorem q_aret {b : Nat} (hc : mx_tb k pc = some (.areturn, a, v)) (hr : mx_ro (mx_mr k) = true) (hq : Q (some (.ref b)) h) : wq d k pc L [.ref b] h Q := wq.doR hc (w := some (.ref b)) (by show (if mx_ro (mx_mr k) = true then _ else none) = _; rw [if_pos hr]; rfl) hq
theorem q_aretN (hc : mx_tb k pc = some (.areturn, a, v)) (hr : mx_ro (mx_mr k) = true) (hq : Q (some .null) h) : wq d k pc L [.null] h Q := wq.doR hc (w := some .null) (by show (if mx_ro (mx_mr k) = true then _ else none) = _; rw [if_pos hr]; rfl) hq
theorem q_vret (hc : mx_tb k pc = some (.return_, a, v)) (hr : mx_mr k = none) (hq : Q none h) : wq d k pc L [] h Q := wq.doR hc (w := none) (by show (if mx_mr k = none then _ else none) = _; rw [if_pos hr]; rfl) hq
/-- a method's first step -/
theorem wc.go {k : Nat} {vs : List Value} (L : mx_L) (hL : mx_ent (mx_ml k) vs = L) (kk : wq d k 0 L [] h Q) : wc d k vs h Q := by
  subst hL
  exact kk
end WQ
