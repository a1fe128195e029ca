/-! ===== what the tables say of the links and of the methods ===== -/
def mx_ts : List Cond := lw_tbl.filter goodWord
theorem mx_in {w : Cond} (i : Nat) (h : lw_tbl[i]? = some w) (g : goodWord w = true) : w ∈ mx_ts := List.mem_filter.mpr ⟨List.mem_of_getElem? h, g⟩
def mx_okM (k : Nat) : Prop := (mx_my k).cls = mx_cn (mx_mc k) ∧ plainName (mx_my k).cls = true ∧ ((mx_my k).cls ≠ "java/lang/invoke/MethodHandle" ∧ (mx_my k).cls ≠ "java/lang/invoke/VarHandle") ∧ (parseMethodDescriptor (mx_my k).desc).map (fun d => d.parameters.length) = some (mx_np k) ∧ Cond.code (mx_my k) (mx_mb k) (mx_ml k) (mx_mr k) ∈ mx_ts ∧ Cond.initialized (mx_my k).cls ∈ mx_ts ∧ mx_ml k ≤ 20
def mx_okL (c : Nat) (q : Nat × Nat × Nat × Int) : Prop := match q with
  | (idx, 0, a, _) => ∃ r : vw_C, mx_cl[a / 100]? = some r ∧ a % 100 < r.2.2 ∧ r.1 = (r.2.1 (a % 100)).1 ∧ Cond.fieldLink (mx_cn c) idx (r.2.1 (a % 100)).1 (r.2.1 (a % 100)).2.1 (r.2.1 (a % 100)).2.2.1 ∈ mx_ts
  | (idx, 1, a, _) => a < 214 ∧ Cond.methodLink (mx_cn c) idx (mx_my a) ∈ mx_ts ∧ Cond.instanceMethod (mx_my a) ∈ mx_ts ∧ Cond.selects (mx_my a).cls (mx_my a) (mx_my a) ∈ mx_ts
  | (idx, 3, a, _) => a < 214 ∧ Cond.methodLink (mx_cn c) idx (mx_my a) ∈ mx_ts ∧ Cond.static (mx_my a) ∈ mx_ts
  | (idx, 4, a, _) => a < 214 ∧ (mx_cn c, idx, mx_my a) ∈ mx_nst ∧ Cond.static (mx_my a) ∈ mx_ts
  | (idx, 5, a, _) => a < 214 ∧ Cond.methodLink (mx_cn c) idx (mx_my a) ∈ mx_ts ∧ Cond.instanceMethod (mx_my a) ∈ mx_ts ∧ (mx_my a).name = "<init>"
  | (idx, 6, a, _) => a < 214 ∧ (mx_cn c, idx, mx_my a) ∈ mx_nst ∧ Cond.instanceMethod (mx_my a) ∈ mx_ts ∧ (mx_my a).name = "<init>"
  | (idx, 7, a, _) => ∃ r : vw_C, mx_cl[a]? = some r ∧ Cond.classLink (mx_cn c) idx r.1 ∈ mx_ts ∧ Cond.instantiable r.1 r.2.2 ∈ mx_ts ∧ Cond.initialized r.1 ∈ mx_ts
  | (idx, 8, a, _) => ∃ r : vw_C, mx_cl[mx_el a]? = some r ∧ 3 ≤ a ∧ a ≤ 5 ∧ Cond.classLink (mx_cn c) idx r.1 ∈ mx_ts
  | (idx, 9, _, v) => Cond.constant (mx_cn c) idx (Int32.ofInt v) ∈ mx_ts
  | (idx, 10, _, v) => Cond.constantLong (mx_cn c) idx (Int64.ofInt v) ∈ mx_ts
  | (idx, 11, a, _) => ∃ q : String × Nat × String, mx_strs[a - 1]? = some q ∧ 0 < a ∧ q.1 = mx_cn c ∧ q.2.1 = idx
  | (idx, 12, _, _) => Cond.classLink (mx_cn c) idx "[I" ∈ mx_ts
  | (idx, 20, _, _) => Cond.methodLink (mx_cn c) idx Lib.Math.max.name ∈ mx_ts
  | (idx, 21, _, _) => Cond.methodLink (mx_cn c) idx Lib.Math.min.name ∈ mx_ts
  | (idx, 22, _, _) => Cond.methodLink (mx_cn c) idx Lib.Math.abs.name ∈ mx_ts
  | (idx, 23, _, _) => Cond.methodLink (mx_cn c) idx arraycopyName ∈ mx_ts
  | (idx, 24, _, _) => Cond.methodLink (mx_cn c) idx ⟨"[I", "clone", "()Ljava/lang/Object;"⟩ ∈ mx_ts
  | (idx, 25, _, _) => Cond.methodLink (mx_cn c) idx ⟨"java/lang/String", "length", "()I"⟩ ∈ mx_ts
  | (idx, 26, _, _) => Cond.methodLink (mx_cn c) idx ⟨"java/lang/String", "charAt", "(I)C"⟩ ∈ mx_ts
  | (idx, 27, _, _) => Cond.methodLink (mx_cn c) idx objectInit ∈ mx_ts
  | _ => False
def mx_dl (ins : Jvm.ClassFile.Instr) (a : Nat) : Nat := match ins with
  | .tableswitch _ _ _ _ => a
  | .lookupswitch _ _ => a
  | i => mx_len i
def mx_has (k : Nat) (q : Nat × Nat × Nat × Int) : Bool := (mx_lk (mx_mc k)).contains q
def mx_lkd (k pc : Nat) (ins : Jvm.ClassFile.Instr) (a : Nat) (v : Int) : Bool := match ins with
  | .getfield i => mx_has k (i, 0, a, 0)
  | .putfield i => mx_has k (i, 0, a, 0) && (!(mx_fin a) || (decide ((mx_my k).name = "<init>") && decide (a / 100 = mx_mc k)))
  | .invokevirtual i => mx_has k (i, v.toNat, a, 0) && [1, 24, 25, 26].contains v.toNat
  | .invokestatic i => mx_has k (i, v.toNat, a, 0) && [3, 4, 20, 21, 22, 23].contains v.toNat
  | .invokespecial i => mx_has k (i, v.toNat, a, 0) && [5, 6, 27].contains v.toNat
  | .new i => mx_has k (i, 7, a, 0)
  | .anewarray i => mx_has k (i, 8, a, 0)
  | .checkcast i => mx_has k (i, 12, 0, 0)
  | .ldc i => if a = 0 then mx_has k (i, 9, 0, v) else mx_has k (i, 11, a, 0)
  | .ldc_w i => decide (a = 0) && mx_has k (i, 9, 0, v)
  | .ldc2_w i => mx_has k (i, 10, 0, v)
  | .goto o => decide ((pc : Int) + o = (a : Int))
  | .ifCond _ o => decide ((pc : Int) + o = (a : Int))
  | .if_icmp _ o => decide ((pc : Int) + o = (a : Int))
  | .ifnull o => decide ((pc : Int) + o = (a : Int))
  | .ifnonnull o => decide ((pc : Int) + o = (a : Int))
  | .lookupswitch _ ps => (ps.toList.zip (ps.toList.drop 1)).all (fun (a, next) => a.1 < next.1)
  | _ => true
def mx_chk (k : Nat) (e : Nat × mx_I) : Bool := decide (decode (mx_mb k) e.1 = .ok (e.2.1, mx_dl e.2.1 e.2.2.1)) && mx_lkd k e.1 e.2.1 e.2.2.1 e.2.2.2
def mx_chkA (k : Nat) : Prop := (mx_tt k).all (fun a => a.all (fun b => b.all (mx_chk k))) = true
theorem mx_lookup_mem {α : Type} {pc : Nat} {e : α} : ∀ {l : List (Nat × α)}, l.lookup pc = some e → (pc, e) ∈ l
  | [], h => by simp at h
  | (a, b) :: t, h => by
    by_cases hp : pc = a
    · subst hp
      simp at h
      subst h
      exact List.mem_cons_self
    · have h2 : t.lookup pc = some e := by
        have hb : (pc == a) = false := by simpa using hp
        simpa [List.lookup, hb] using h
      exact List.mem_cons_of_mem _ (mx_lookup_mem h2)
theorem mx_getD_mem {α : Type} {l : List (List α)} {i : Nat} {x : α} (h : x ∈ l.getD i []) : l.getD i [] ∈ l := by
  by_cases hi : i < l.length
  · rw [List.getD_eq_getElem?_getD, List.getElem?_eq_getElem hi]
    exact List.getElem_mem hi
  · rw [List.getD_eq_getElem?_getD, List.getElem?_eq_none (by omega)] at h
    simp at h
theorem mx_tb_chk {k pc : Nat} {e : mx_I} (hc : mx_chkA k) (h : mx_tb k pc = some e) : mx_chk k (pc, e) = true := by
  have h1 := mx_lookup_mem h
  have h2 := mx_getD_mem h1
  have h3 := mx_getD_mem h2
  have e1 := List.all_eq_true.mp (List.all_eq_true.mp hc _ h3) _ h2
  exact List.all_eq_true.mp e1 _ h1
set_option maxRecDepth 100000 in
theorem mx_okm0 : mx_okM 0 := ⟨rfl, by decide +kernel, ⟨by decide +kernel, by decide +kernel⟩, by decide +kernel, mx_in 109 rfl rfl, mx_in 80 rfl rfl, by decide +kernel⟩
set_option maxRecDepth 100000 in
theorem mx_okm1 : mx_okM 1 := ⟨rfl, by decide +kernel, ⟨by decide +kernel, by decide +kernel⟩, by decide +kernel, mx_in 694 rfl rfl, mx_in 80 rfl rfl, by decide +kernel⟩
set_option maxRecDepth 100000 in
theorem mx_okm2 : mx_okM 2 := ⟨rfl, by decide +kernel, ⟨by decide +kernel, by decide +kernel⟩, by decide +kernel, mx_in 546 rfl rfl, mx_in 80 rfl rfl, by decide +kernel⟩
set_option maxRecDepth 100000 in
theorem mx_okm3 : mx_okM 3 := ⟨rfl, by decide +kernel, ⟨by decide +kernel, by decide +kernel⟩, by decide +kernel, mx_in 557 rfl rfl, mx_in 80 rfl rfl, by decide +kernel⟩
set_option maxRecDepth 100000 in
theorem mx_okm4 : mx_okM 4 := ⟨rfl, by decide +kernel, ⟨by decide +kernel, by decide +kernel⟩, by decide +kernel, mx_in 541 rfl rfl, mx_in 80 rfl rfl, by decide +kernel⟩
set_option maxRecDepth 100000 in
theorem mx_okm5 : mx_okM 5 := ⟨rfl, by decide +kernel, ⟨by decide +kernel, by decide +kernel⟩, by decide +kernel, mx_in 779 rfl rfl, mx_in 80 rfl rfl, by decide +kernel⟩
set_option maxRecDepth 100000 in
theorem mx_okm6 : mx_okM 6 := ⟨rfl, by decide +kernel, ⟨by decide +kernel, by decide +kernel⟩, by decide +kernel, mx_in 643 rfl rfl, mx_in 80 rfl rfl, by decide +kernel⟩
set_option maxRecDepth 100000 in
theorem mx_okm7 : mx_okM 7 := ⟨rfl, by decide +kernel, ⟨by decide +kernel, by decide +kernel⟩, by decide +kernel, mx_in 647 rfl rfl, mx_in 80 rfl rfl, by decide +kernel⟩
set_option maxRecDepth 100000 in
theorem mx_okm8 : mx_okM 8 := ⟨rfl, by decide +kernel, ⟨by decide +kernel, by decide +kernel⟩, by decide +kernel, mx_in 743 rfl rfl, mx_in 80 rfl rfl, by decide +kernel⟩
set_option maxRecDepth 100000 in
theorem mx_okm9 : mx_okM 9 := ⟨rfl, by decide +kernel, ⟨by decide +kernel, by decide +kernel⟩, by decide +kernel, mx_in 575 rfl rfl, mx_in 80 rfl rfl, by decide +kernel⟩
set_option maxRecDepth 100000 in
theorem mx_okm10 : mx_okM 10 := ⟨rfl, by decide +kernel, ⟨by decide +kernel, by decide +kernel⟩, by decide +kernel, mx_in 678 rfl rfl, mx_in 80 rfl rfl, by decide +kernel⟩
set_option maxRecDepth 100000 in
theorem mx_okm11 : mx_okM 11 := ⟨rfl, by decide +kernel, ⟨by decide +kernel, by decide +kernel⟩, by decide +kernel, mx_in 890 rfl rfl, mx_in 80 rfl rfl, by decide +kernel⟩
set_option maxRecDepth 100000 in
theorem mx_okm12 : mx_okM 12 := ⟨rfl, by decide +kernel, ⟨by decide +kernel, by decide +kernel⟩, by decide +kernel, mx_in 242 rfl rfl, mx_in 84 rfl rfl, by decide +kernel⟩
set_option maxRecDepth 100000 in
theorem mx_okm13 : mx_okM 13 := ⟨rfl, by decide +kernel, ⟨by decide +kernel, by decide +kernel⟩, by decide +kernel, mx_in 674 rfl rfl, mx_in 84 rfl rfl, by decide +kernel⟩
set_option maxRecDepth 100000 in
theorem mx_okm14 : mx_okM 14 := ⟨rfl, by decide +kernel, ⟨by decide +kernel, by decide +kernel⟩, by decide +kernel, mx_in 116 rfl rfl, mx_in 81 rfl rfl, by decide +kernel⟩
set_option maxRecDepth 100000 in
theorem mx_okm15 : mx_okM 15 := ⟨rfl, by decide +kernel, ⟨by decide +kernel, by decide +kernel⟩, by decide +kernel, mx_in 699 rfl rfl, mx_in 81 rfl rfl, by decide +kernel⟩
set_option maxRecDepth 100000 in
theorem mx_okm16 : mx_okM 16 := ⟨rfl, by decide +kernel, ⟨by decide +kernel, by decide +kernel⟩, by decide +kernel, mx_in 592 rfl rfl, mx_in 81 rfl rfl, by decide +kernel⟩
set_option maxRecDepth 100000 in
theorem mx_okm17 : mx_okM 17 := ⟨rfl, by decide +kernel, ⟨by decide +kernel, by decide +kernel⟩, by decide +kernel, mx_in 600 rfl rfl, mx_in 81 rfl rfl, by decide +kernel⟩
set_option maxRecDepth 100000 in
theorem mx_okm18 : mx_okM 18 := ⟨rfl, by decide +kernel, ⟨by decide +kernel, by decide +kernel⟩, by decide +kernel, mx_in 178 rfl rfl, mx_in 82 rfl rfl, by decide +kernel⟩
set_option maxRecDepth 100000 in
theorem mx_okm19 : mx_okM 19 := ⟨rfl, by decide +kernel, ⟨by decide +kernel, by decide +kernel⟩, by decide +kernel, mx_in 356 rfl rfl, mx_in 82 rfl rfl, by decide +kernel⟩
set_option maxRecDepth 100000 in
theorem mx_okm20 : mx_okM 20 := ⟨rfl, by decide +kernel, ⟨by decide +kernel, by decide +kernel⟩, by decide +kernel, mx_in 498 rfl rfl, mx_in 82 rfl rfl, by decide +kernel⟩
set_option maxRecDepth 100000 in
theorem mx_okm21 : mx_okM 21 := ⟨rfl, by decide +kernel, ⟨by decide +kernel, by decide +kernel⟩, by decide +kernel, mx_in 455 rfl rfl, mx_in 82 rfl rfl, by decide +kernel⟩
set_option maxRecDepth 100000 in
theorem mx_okm22 : mx_okM 22 := ⟨rfl, by decide +kernel, ⟨by decide +kernel, by decide +kernel⟩, by decide +kernel, mx_in 360 rfl rfl, mx_in 82 rfl rfl, by decide +kernel⟩
set_option maxRecDepth 100000 in
theorem mx_okm23 : mx_okM 23 := ⟨rfl, by decide +kernel, ⟨by decide +kernel, by decide +kernel⟩, by decide +kernel, mx_in 364 rfl rfl, mx_in 82 rfl rfl, by decide +kernel⟩
set_option maxRecDepth 100000 in
theorem mx_okm24 : mx_okM 24 := ⟨rfl, by decide +kernel, ⟨by decide +kernel, by decide +kernel⟩, by decide +kernel, mx_in 372 rfl rfl, mx_in 82 rfl rfl, by decide +kernel⟩
set_option maxRecDepth 100000 in
theorem mx_okm25 : mx_okM 25 := ⟨rfl, by decide +kernel, ⟨by decide +kernel, by decide +kernel⟩, by decide +kernel, mx_in 368 rfl rfl, mx_in 82 rfl rfl, by decide +kernel⟩
set_option maxRecDepth 100000 in
theorem mx_okm26 : mx_okM 26 := ⟨rfl, by decide +kernel, ⟨by decide +kernel, by decide +kernel⟩, by decide +kernel, mx_in 376 rfl rfl, mx_in 82 rfl rfl, by decide +kernel⟩
set_option maxRecDepth 100000 in
theorem mx_okm27 : mx_okM 27 := ⟨rfl, by decide +kernel, ⟨by decide +kernel, by decide +kernel⟩, by decide +kernel, mx_in 379 rfl rfl, mx_in 82 rfl rfl, by decide +kernel⟩
set_option maxRecDepth 100000 in
theorem mx_okm28 : mx_okM 28 := ⟨rfl, by decide +kernel, ⟨by decide +kernel, by decide +kernel⟩, by decide +kernel, mx_in 382 rfl rfl, mx_in 82 rfl rfl, by decide +kernel⟩
set_option maxRecDepth 100000 in
theorem mx_okm29 : mx_okM 29 := ⟨rfl, by decide +kernel, ⟨by decide +kernel, by decide +kernel⟩, by decide +kernel, mx_in 386 rfl rfl, mx_in 82 rfl rfl, by decide +kernel⟩
set_option maxRecDepth 100000 in
theorem mx_okm30 : mx_okM 30 := ⟨rfl, by decide +kernel, ⟨by decide +kernel, by decide +kernel⟩, by decide +kernel, mx_in 412 rfl rfl, mx_in 82 rfl rfl, by decide +kernel⟩
set_option maxRecDepth 100000 in
theorem mx_okm31 : mx_okM 31 := ⟨rfl, by decide +kernel, ⟨by decide +kernel, by decide +kernel⟩, by decide +kernel, mx_in 390 rfl rfl, mx_in 82 rfl rfl, by decide +kernel⟩
set_option maxRecDepth 100000 in
theorem mx_okm32 : mx_okM 32 := ⟨rfl, by decide +kernel, ⟨by decide +kernel, by decide +kernel⟩, by decide +kernel, mx_in 395 rfl rfl, mx_in 82 rfl rfl, by decide +kernel⟩
set_option maxRecDepth 100000 in
theorem mx_okm33 : mx_okM 33 := ⟨rfl, by decide +kernel, ⟨by decide +kernel, by decide +kernel⟩, by decide +kernel, mx_in 420 rfl rfl, mx_in 82 rfl rfl, by decide +kernel⟩
set_option maxRecDepth 100000 in
theorem mx_okm34 : mx_okM 34 := ⟨rfl, by decide +kernel, ⟨by decide +kernel, by decide +kernel⟩, by decide +kernel, mx_in 424 rfl rfl, mx_in 82 rfl rfl, by decide +kernel⟩
set_option maxRecDepth 100000 in
theorem mx_okm35 : mx_okM 35 := ⟨rfl, by decide +kernel, ⟨by decide +kernel, by decide +kernel⟩, by decide +kernel, mx_in 416 rfl rfl, mx_in 82 rfl rfl, by decide +kernel⟩
set_option maxRecDepth 100000 in
theorem mx_okm36 : mx_okM 36 := ⟨rfl, by decide +kernel, ⟨by decide +kernel, by decide +kernel⟩, by decide +kernel, mx_in 444 rfl rfl, mx_in 82 rfl rfl, by decide +kernel⟩
set_option maxRecDepth 100000 in
theorem mx_okm37 : mx_okM 37 := ⟨rfl, by decide +kernel, ⟨by decide +kernel, by decide +kernel⟩, by decide +kernel, mx_in 440 rfl rfl, mx_in 82 rfl rfl, by decide +kernel⟩
set_option maxRecDepth 100000 in
theorem mx_okm38 : mx_okM 38 := ⟨rfl, by decide +kernel, ⟨by decide +kernel, by decide +kernel⟩, by decide +kernel, mx_in 451 rfl rfl, mx_in 82 rfl rfl, by decide +kernel⟩
set_option maxRecDepth 100000 in
theorem mx_okm39 : mx_okM 39 := ⟨rfl, by decide +kernel, ⟨by decide +kernel, by decide +kernel⟩, by decide +kernel, mx_in 428 rfl rfl, mx_in 82 rfl rfl, by decide +kernel⟩
set_option maxRecDepth 100000 in
theorem mx_okm40 : mx_okM 40 := ⟨rfl, by decide +kernel, ⟨by decide +kernel, by decide +kernel⟩, by decide +kernel, mx_in 432 rfl rfl, mx_in 82 rfl rfl, by decide +kernel⟩
set_option maxRecDepth 100000 in
theorem mx_okm41 : mx_okM 41 := ⟨rfl, by decide +kernel, ⟨by decide +kernel, by decide +kernel⟩, by decide +kernel, mx_in 436 rfl rfl, mx_in 82 rfl rfl, by decide +kernel⟩
set_option maxRecDepth 100000 in
theorem mx_okm42 : mx_okM 42 := ⟨rfl, by decide +kernel, ⟨by decide +kernel, by decide +kernel⟩, by decide +kernel, mx_in 448 rfl rfl, mx_in 82 rfl rfl, by decide +kernel⟩
set_option maxRecDepth 100000 in
theorem mx_okm43 : mx_okM 43 := ⟨rfl, by decide +kernel, ⟨by decide +kernel, by decide +kernel⟩, by decide +kernel, mx_in 217 rfl rfl, mx_in 83 rfl rfl, by decide +kernel⟩
set_option maxRecDepth 100000 in
theorem mx_okm44 : mx_okM 44 := ⟨rfl, by decide +kernel, ⟨by decide +kernel, by decide +kernel⟩, by decide +kernel, mx_in 494 rfl rfl, mx_in 83 rfl rfl, by decide +kernel⟩
set_option maxRecDepth 100000 in
theorem mx_okm45 : mx_okM 45 := ⟨rfl, by decide +kernel, ⟨by decide +kernel, by decide +kernel⟩, by decide +kernel, mx_in 583 rfl rfl, mx_in 83 rfl rfl, by decide +kernel⟩
set_option maxRecDepth 100000 in
theorem mx_okm46 : mx_okM 46 := ⟨rfl, by decide +kernel, ⟨by decide +kernel, by decide +kernel⟩, by decide +kernel, mx_in 566 rfl rfl, mx_in 83 rfl rfl, by decide +kernel⟩
set_option maxRecDepth 100000 in
theorem mx_okm47 : mx_okM 47 := ⟨rfl, by decide +kernel, ⟨by decide +kernel, by decide +kernel⟩, by decide +kernel, mx_in 596 rfl rfl, mx_in 83 rfl rfl, by decide +kernel⟩
set_option maxRecDepth 100000 in
theorem mx_okm48 : mx_okM 48 := ⟨rfl, by decide +kernel, ⟨by decide +kernel, by decide +kernel⟩, by decide +kernel, mx_in 638 rfl rfl, mx_in 83 rfl rfl, by decide +kernel⟩
set_option maxRecDepth 100000 in
theorem mx_okm49 : mx_okM 49 := ⟨rfl, by decide +kernel, ⟨by decide +kernel, by decide +kernel⟩, by decide +kernel, mx_in 611 rfl rfl, mx_in 83 rfl rfl, by decide +kernel⟩
set_option maxRecDepth 100000 in
theorem mx_okm50 : mx_okM 50 := ⟨rfl, by decide +kernel, ⟨by decide +kernel, by decide +kernel⟩, by decide +kernel, mx_in 664 rfl rfl, mx_in 83 rfl rfl, by decide +kernel⟩
set_option maxRecDepth 100000 in
theorem mx_okm51 : mx_okM 51 := ⟨rfl, by decide +kernel, ⟨by decide +kernel, by decide +kernel⟩, by decide +kernel, mx_in 634 rfl rfl, mx_in 83 rfl rfl, by decide +kernel⟩
set_option maxRecDepth 100000 in
theorem mx_okm52 : mx_okM 52 := ⟨rfl, by decide +kernel, ⟨by decide +kernel, by decide +kernel⟩, by decide +kernel, mx_in 718 rfl rfl, mx_in 83 rfl rfl, by decide +kernel⟩
set_option maxRecDepth 100000 in
theorem mx_okm53 : mx_okM 53 := ⟨rfl, by decide +kernel, ⟨by decide +kernel, by decide +kernel⟩, by decide +kernel, mx_in 571 rfl rfl, mx_in 83 rfl rfl, by decide +kernel⟩
set_option maxRecDepth 100000 in
theorem mx_okm54 : mx_okM 54 := ⟨rfl, by decide +kernel, ⟨by decide +kernel, by decide +kernel⟩, by decide +kernel, mx_in 579 rfl rfl, mx_in 83 rfl rfl, by decide +kernel⟩
set_option maxRecDepth 100000 in
theorem mx_okm55 : mx_okM 55 := ⟨rfl, by decide +kernel, ⟨by decide +kernel, by decide +kernel⟩, by decide +kernel, mx_in 587 rfl rfl, mx_in 83 rfl rfl, by decide +kernel⟩
set_option maxRecDepth 100000 in
theorem mx_okm56 : mx_okM 56 := ⟨rfl, by decide +kernel, ⟨by decide +kernel, by decide +kernel⟩, by decide +kernel, mx_in 288 rfl rfl, mx_in 86 rfl rfl, by decide +kernel⟩
set_option maxRecDepth 100000 in
theorem mx_okm57 : mx_okM 57 := ⟨rfl, by decide +kernel, ⟨by decide +kernel, by decide +kernel⟩, by decide +kernel, mx_in 755 rfl rfl, mx_in 86 rfl rfl, by decide +kernel⟩
set_option maxRecDepth 100000 in
theorem mx_okm58 : mx_okM 58 := ⟨rfl, by decide +kernel, ⟨by decide +kernel, by decide +kernel⟩, by decide +kernel, mx_in 899 rfl rfl, mx_in 86 rfl rfl, by decide +kernel⟩
set_option maxRecDepth 100000 in
theorem mx_okm59 : mx_okM 59 := ⟨rfl, by decide +kernel, ⟨by decide +kernel, by decide +kernel⟩, by decide +kernel, mx_in 763 rfl rfl, mx_in 86 rfl rfl, by decide +kernel⟩
set_option maxRecDepth 100000 in
theorem mx_okm60 : mx_okM 60 := ⟨rfl, by decide +kernel, ⟨by decide +kernel, by decide +kernel⟩, by decide +kernel, mx_in 904 rfl rfl, mx_in 86 rfl rfl, by decide +kernel⟩
set_option maxRecDepth 100000 in
theorem mx_okm61 : mx_okM 61 := ⟨rfl, by decide +kernel, ⟨by decide +kernel, by decide +kernel⟩, by decide +kernel, mx_in 759 rfl rfl, mx_in 86 rfl rfl, by decide +kernel⟩
set_option maxRecDepth 100000 in
theorem mx_okm62 : mx_okM 62 := ⟨rfl, by decide +kernel, ⟨by decide +kernel, by decide +kernel⟩, by decide +kernel, mx_in 479 rfl rfl, mx_in 93 rfl rfl, by decide +kernel⟩
set_option maxRecDepth 100000 in
theorem mx_okm63 : mx_okM 63 := ⟨rfl, by decide +kernel, ⟨by decide +kernel, by decide +kernel⟩, by decide +kernel, mx_in 257 rfl rfl, mx_in 85 rfl rfl, by decide +kernel⟩
set_option maxRecDepth 100000 in
theorem mx_okm64 : mx_okM 64 := ⟨rfl, by decide +kernel, ⟨by decide +kernel, by decide +kernel⟩, by decide +kernel, mx_in 775 rfl rfl, mx_in 85 rfl rfl, by decide +kernel⟩
set_option maxRecDepth 100000 in
theorem mx_okm65 : mx_okM 65 := ⟨rfl, by decide +kernel, ⟨by decide +kernel, by decide +kernel⟩, by decide +kernel, mx_in 783 rfl rfl, mx_in 85 rfl rfl, by decide +kernel⟩
set_option maxRecDepth 100000 in
theorem mx_okm66 : mx_okM 66 := ⟨rfl, by decide +kernel, ⟨by decide +kernel, by decide +kernel⟩, by decide +kernel, mx_in 787 rfl rfl, mx_in 85 rfl rfl, by decide +kernel⟩
set_option maxRecDepth 100000 in
theorem mx_okm67 : mx_okM 67 := ⟨rfl, by decide +kernel, ⟨by decide +kernel, by decide +kernel⟩, by decide +kernel, mx_in 811 rfl rfl, mx_in 85 rfl rfl, by decide +kernel⟩
set_option maxRecDepth 100000 in
theorem mx_okm68 : mx_okM 68 := ⟨rfl, by decide +kernel, ⟨by decide +kernel, by decide +kernel⟩, by decide +kernel, mx_in 815 rfl rfl, mx_in 85 rfl rfl, by decide +kernel⟩
set_option maxRecDepth 100000 in
theorem mx_okm69 : mx_okM 69 := ⟨rfl, by decide +kernel, ⟨by decide +kernel, by decide +kernel⟩, by decide +kernel, mx_in 827 rfl rfl, mx_in 85 rfl rfl, by decide +kernel⟩
set_option maxRecDepth 100000 in
theorem mx_okm70 : mx_okM 70 := ⟨rfl, by decide +kernel, ⟨by decide +kernel, by decide +kernel⟩, by decide +kernel, mx_in 831 rfl rfl, mx_in 85 rfl rfl, by decide +kernel⟩
set_option maxRecDepth 100000 in
theorem mx_okm71 : mx_okM 71 := ⟨rfl, by decide +kernel, ⟨by decide +kernel, by decide +kernel⟩, by decide +kernel, mx_in 835 rfl rfl, mx_in 85 rfl rfl, by decide +kernel⟩
set_option maxRecDepth 100000 in
theorem mx_okm72 : mx_okM 72 := ⟨rfl, by decide +kernel, ⟨by decide +kernel, by decide +kernel⟩, by decide +kernel, mx_in 839 rfl rfl, mx_in 85 rfl rfl, by decide +kernel⟩
set_option maxRecDepth 100000 in
theorem mx_okm73 : mx_okM 73 := ⟨rfl, by decide +kernel, ⟨by decide +kernel, by decide +kernel⟩, by decide +kernel, mx_in 792 rfl rfl, mx_in 85 rfl rfl, by decide +kernel⟩
set_option maxRecDepth 100000 in
theorem mx_okm74 : mx_okM 74 := ⟨rfl, by decide +kernel, ⟨by decide +kernel, by decide +kernel⟩, by decide +kernel, mx_in 797 rfl rfl, mx_in 85 rfl rfl, by decide +kernel⟩
set_option maxRecDepth 100000 in
theorem mx_okm75 : mx_okM 75 := ⟨rfl, by decide +kernel, ⟨by decide +kernel, by decide +kernel⟩, by decide +kernel, mx_in 802 rfl rfl, mx_in 85 rfl rfl, by decide +kernel⟩
set_option maxRecDepth 100000 in
theorem mx_okm76 : mx_okM 76 := ⟨rfl, by decide +kernel, ⟨by decide +kernel, by decide +kernel⟩, by decide +kernel, mx_in 101 rfl rfl, mx_in 79 rfl rfl, by decide +kernel⟩
set_option maxRecDepth 100000 in
theorem mx_okm77 : mx_okM 77 := ⟨rfl, by decide +kernel, ⟨by decide +kernel, by decide +kernel⟩, by decide +kernel, mx_in 530 rfl rfl, mx_in 79 rfl rfl, by decide +kernel⟩
set_option maxRecDepth 100000 in
theorem mx_okm78 : mx_okM 78 := ⟨rfl, by decide +kernel, ⟨by decide +kernel, by decide +kernel⟩, by decide +kernel, mx_in 549 rfl rfl, mx_in 79 rfl rfl, by decide +kernel⟩
set_option maxRecDepth 100000 in
theorem mx_okm79 : mx_okM 79 := ⟨rfl, by decide +kernel, ⟨by decide +kernel, by decide +kernel⟩, by decide +kernel, mx_in 553 rfl rfl, mx_in 79 rfl rfl, by decide +kernel⟩
set_option maxRecDepth 100000 in
theorem mx_okm80 : mx_okM 80 := ⟨rfl, by decide +kernel, ⟨by decide +kernel, by decide +kernel⟩, by decide +kernel, mx_in 534 rfl rfl, mx_in 79 rfl rfl, by decide +kernel⟩
set_option maxRecDepth 100000 in
theorem mx_okm81 : mx_okM 81 := ⟨rfl, by decide +kernel, ⟨by decide +kernel, by decide +kernel⟩, by decide +kernel, mx_in 562 rfl rfl, mx_in 79 rfl rfl, by decide +kernel⟩
set_option maxRecDepth 100000 in
theorem mx_okm82 : mx_okM 82 := ⟨rfl, by decide +kernel, ⟨by decide +kernel, by decide +kernel⟩, by decide +kernel, mx_in 617 rfl rfl, mx_in 79 rfl rfl, by decide +kernel⟩
set_option maxRecDepth 100000 in
theorem mx_okm83 : mx_okM 83 := ⟨rfl, by decide +kernel, ⟨by decide +kernel, by decide +kernel⟩, by decide +kernel, mx_in 621 rfl rfl, mx_in 79 rfl rfl, by decide +kernel⟩
set_option maxRecDepth 100000 in
theorem mx_okm84 : mx_okM 84 := ⟨rfl, by decide +kernel, ⟨by decide +kernel, by decide +kernel⟩, by decide +kernel, mx_in 625 rfl rfl, mx_in 79 rfl rfl, by decide +kernel⟩
set_option maxRecDepth 100000 in
theorem mx_okm85 : mx_okM 85 := ⟨rfl, by decide +kernel, ⟨by decide +kernel, by decide +kernel⟩, by decide +kernel, mx_in 630 rfl rfl, mx_in 79 rfl rfl, by decide +kernel⟩
set_option maxRecDepth 100000 in
theorem mx_okm86 : mx_okM 86 := ⟨rfl, by decide +kernel, ⟨by decide +kernel, by decide +kernel⟩, by decide +kernel, mx_in 660 rfl rfl, mx_in 79 rfl rfl, by decide +kernel⟩
set_option maxRecDepth 100000 in
theorem mx_okm87 : mx_okM 87 := ⟨rfl, by decide +kernel, ⟨by decide +kernel, by decide +kernel⟩, by decide +kernel, mx_in 670 rfl rfl, mx_in 79 rfl rfl, by decide +kernel⟩
set_option maxRecDepth 100000 in
theorem mx_okm88 : mx_okM 88 := ⟨rfl, by decide +kernel, ⟨by decide +kernel, by decide +kernel⟩, by decide +kernel, mx_in 690 rfl rfl, mx_in 79 rfl rfl, by decide +kernel⟩
set_option maxRecDepth 100000 in
theorem mx_okm89 : mx_okM 89 := ⟨rfl, by decide +kernel, ⟨by decide +kernel, by decide +kernel⟩, by decide +kernel, mx_in 703 rfl rfl, mx_in 79 rfl rfl, by decide +kernel⟩
set_option maxRecDepth 100000 in
theorem mx_okm90 : mx_okM 90 := ⟨rfl, by decide +kernel, ⟨by decide +kernel, by decide +kernel⟩, by decide +kernel, mx_in 723 rfl rfl, mx_in 79 rfl rfl, by decide +kernel⟩
set_option maxRecDepth 100000 in
theorem mx_okm91 : mx_okM 91 := ⟨rfl, by decide +kernel, ⟨by decide +kernel, by decide +kernel⟩, by decide +kernel, mx_in 726 rfl rfl, mx_in 79 rfl rfl, by decide +kernel⟩
set_option maxRecDepth 100000 in
theorem mx_okm92 : mx_okM 92 := ⟨rfl, by decide +kernel, ⟨by decide +kernel, by decide +kernel⟩, by decide +kernel, mx_in 730 rfl rfl, mx_in 79 rfl rfl, by decide +kernel⟩
set_option maxRecDepth 100000 in
theorem mx_okm93 : mx_okM 93 := ⟨rfl, by decide +kernel, ⟨by decide +kernel, by decide +kernel⟩, by decide +kernel, mx_in 707 rfl rfl, mx_in 79 rfl rfl, by decide +kernel⟩
set_option maxRecDepth 100000 in
theorem mx_okm94 : mx_okM 94 := ⟨rfl, by decide +kernel, ⟨by decide +kernel, by decide +kernel⟩, by decide +kernel, mx_in 711 rfl rfl, mx_in 79 rfl rfl, by decide +kernel⟩
set_option maxRecDepth 100000 in
theorem mx_okm95 : mx_okM 95 := ⟨rfl, by decide +kernel, ⟨by decide +kernel, by decide +kernel⟩, by decide +kernel, mx_in 735 rfl rfl, mx_in 79 rfl rfl, by decide +kernel⟩
set_option maxRecDepth 100000 in
theorem mx_okm96 : mx_okM 96 := ⟨rfl, by decide +kernel, ⟨by decide +kernel, by decide +kernel⟩, by decide +kernel, mx_in 739 rfl rfl, mx_in 79 rfl rfl, by decide +kernel⟩
set_option maxRecDepth 100000 in
theorem mx_okm97 : mx_okM 97 := ⟨rfl, by decide +kernel, ⟨by decide +kernel, by decide +kernel⟩, by decide +kernel, mx_in 747 rfl rfl, mx_in 79 rfl rfl, by decide +kernel⟩
set_option maxRecDepth 100000 in
theorem mx_okm98 : mx_okM 98 := ⟨rfl, by decide +kernel, ⟨by decide +kernel, by decide +kernel⟩, by decide +kernel, mx_in 771 rfl rfl, mx_in 79 rfl rfl, by decide +kernel⟩
set_option maxRecDepth 100000 in
theorem mx_okm99 : mx_okM 99 := ⟨rfl, by decide +kernel, ⟨by decide +kernel, by decide +kernel⟩, by decide +kernel, mx_in 807 rfl rfl, mx_in 79 rfl rfl, by decide +kernel⟩
set_option maxRecDepth 100000 in
theorem mx_okm100 : mx_okM 100 := ⟨rfl, by decide +kernel, ⟨by decide +kernel, by decide +kernel⟩, by decide +kernel, mx_in 843 rfl rfl, mx_in 79 rfl rfl, by decide +kernel⟩
set_option maxRecDepth 100000 in
theorem mx_okm101 : mx_okM 101 := ⟨rfl, by decide +kernel, ⟨by decide +kernel, by decide +kernel⟩, by decide +kernel, mx_in 847 rfl rfl, mx_in 79 rfl rfl, by decide +kernel⟩
set_option maxRecDepth 100000 in
theorem mx_okm102 : mx_okM 102 := ⟨rfl, by decide +kernel, ⟨by decide +kernel, by decide +kernel⟩, by decide +kernel, mx_in 851 rfl rfl, mx_in 79 rfl rfl, by decide +kernel⟩
set_option maxRecDepth 100000 in
theorem mx_okm103 : mx_okM 103 := ⟨rfl, by decide +kernel, ⟨by decide +kernel, by decide +kernel⟩, by decide +kernel, mx_in 854 rfl rfl, mx_in 79 rfl rfl, by decide +kernel⟩
set_option maxRecDepth 100000 in
theorem mx_okm104 : mx_okM 104 := ⟨rfl, by decide +kernel, ⟨by decide +kernel, by decide +kernel⟩, by decide +kernel, mx_in 858 rfl rfl, mx_in 79 rfl rfl, by decide +kernel⟩
set_option maxRecDepth 100000 in
theorem mx_okm105 : mx_okM 105 := ⟨rfl, by decide +kernel, ⟨by decide +kernel, by decide +kernel⟩, by decide +kernel, mx_in 862 rfl rfl, mx_in 79 rfl rfl, by decide +kernel⟩
set_option maxRecDepth 100000 in
theorem mx_okm106 : mx_okM 106 := ⟨rfl, by decide +kernel, ⟨by decide +kernel, by decide +kernel⟩, by decide +kernel, mx_in 866 rfl rfl, mx_in 79 rfl rfl, by decide +kernel⟩
set_option maxRecDepth 100000 in
theorem mx_okm107 : mx_okM 107 := ⟨rfl, by decide +kernel, ⟨by decide +kernel, by decide +kernel⟩, by decide +kernel, mx_in 870 rfl rfl, mx_in 79 rfl rfl, by decide +kernel⟩
set_option maxRecDepth 100000 in
theorem mx_okm108 : mx_okM 108 := ⟨rfl, by decide +kernel, ⟨by decide +kernel, by decide +kernel⟩, by decide +kernel, mx_in 874 rfl rfl, mx_in 79 rfl rfl, by decide +kernel⟩
set_option maxRecDepth 100000 in
theorem mx_okm109 : mx_okM 109 := ⟨rfl, by decide +kernel, ⟨by decide +kernel, by decide +kernel⟩, by decide +kernel, mx_in 878 rfl rfl, mx_in 79 rfl rfl, by decide +kernel⟩
set_option maxRecDepth 100000 in
theorem mx_okm110 : mx_okM 110 := ⟨rfl, by decide +kernel, ⟨by decide +kernel, by decide +kernel⟩, by decide +kernel, mx_in 882 rfl rfl, mx_in 79 rfl rfl, by decide +kernel⟩
set_option maxRecDepth 100000 in
theorem mx_okm111 : mx_okM 111 := ⟨rfl, by decide +kernel, ⟨by decide +kernel, by decide +kernel⟩, by decide +kernel, mx_in 886 rfl rfl, mx_in 79 rfl rfl, by decide +kernel⟩
set_option maxRecDepth 100000 in
theorem mx_okm112 : mx_okM 112 := ⟨rfl, by decide +kernel, ⟨by decide +kernel, by decide +kernel⟩, by decide +kernel, mx_in 895 rfl rfl, mx_in 79 rfl rfl, by decide +kernel⟩
set_option maxRecDepth 100000 in
theorem mx_okm113 : mx_okM 113 := ⟨rfl, by decide +kernel, ⟨by decide +kernel, by decide +kernel⟩, by decide +kernel, mx_in 908 rfl rfl, mx_in 79 rfl rfl, by decide +kernel⟩
set_option maxRecDepth 100000 in
theorem mx_okm114 : mx_okM 114 := ⟨rfl, by decide +kernel, ⟨by decide +kernel, by decide +kernel⟩, by decide +kernel, mx_in 911 rfl rfl, mx_in 79 rfl rfl, by decide +kernel⟩
set_option maxRecDepth 100000 in
theorem mx_okm115 : mx_okM 115 := ⟨rfl, by decide +kernel, ⟨by decide +kernel, by decide +kernel⟩, by decide +kernel, mx_in 916 rfl rfl, mx_in 79 rfl rfl, by decide +kernel⟩
set_option maxRecDepth 100000 in
theorem mx_okm116 : mx_okM 116 := ⟨rfl, by decide +kernel, ⟨by decide +kernel, by decide +kernel⟩, by decide +kernel, mx_in 920 rfl rfl, mx_in 79 rfl rfl, by decide +kernel⟩
set_option maxRecDepth 100000 in
theorem mx_okm117 : mx_okM 117 := ⟨rfl, by decide +kernel, ⟨by decide +kernel, by decide +kernel⟩, by decide +kernel, mx_in 924 rfl rfl, mx_in 79 rfl rfl, by decide +kernel⟩
set_option maxRecDepth 100000 in
theorem mx_okm118 : mx_okM 118 := ⟨rfl, by decide +kernel, ⟨by decide +kernel, by decide +kernel⟩, by decide +kernel, mx_in 928 rfl rfl, mx_in 79 rfl rfl, by decide +kernel⟩
set_option maxRecDepth 100000 in
theorem mx_okm119 : mx_okM 119 := ⟨rfl, by decide +kernel, ⟨by decide +kernel, by decide +kernel⟩, by decide +kernel, mx_in 932 rfl rfl, mx_in 79 rfl rfl, by decide +kernel⟩
set_option maxRecDepth 100000 in
theorem mx_okm120 : mx_okM 120 := ⟨rfl, by decide +kernel, ⟨by decide +kernel, by decide +kernel⟩, by decide +kernel, mx_in 936 rfl rfl, mx_in 79 rfl rfl, by decide +kernel⟩
set_option maxRecDepth 100000 in
theorem mx_okm121 : mx_okM 121 := ⟨rfl, by decide +kernel, ⟨by decide +kernel, by decide +kernel⟩, by decide +kernel, mx_in 940 rfl rfl, mx_in 79 rfl rfl, by decide +kernel⟩
set_option maxRecDepth 100000 in
theorem mx_okm122 : mx_okM 122 := ⟨rfl, by decide +kernel, ⟨by decide +kernel, by decide +kernel⟩, by decide +kernel, mx_in 945 rfl rfl, mx_in 79 rfl rfl, by decide +kernel⟩
set_option maxRecDepth 100000 in
theorem mx_okm123 : mx_okM 123 := ⟨rfl, by decide +kernel, ⟨by decide +kernel, by decide +kernel⟩, by decide +kernel, mx_in 950 rfl rfl, mx_in 79 rfl rfl, by decide +kernel⟩
set_option maxRecDepth 100000 in
theorem mx_okm124 : mx_okM 124 := ⟨rfl, by decide +kernel, ⟨by decide +kernel, by decide +kernel⟩, by decide +kernel, mx_in 953 rfl rfl, mx_in 79 rfl rfl, by decide +kernel⟩
set_option maxRecDepth 100000 in
theorem mx_okm125 : mx_okM 125 := ⟨rfl, by decide +kernel, ⟨by decide +kernel, by decide +kernel⟩, by decide +kernel, mx_in 751 rfl rfl, mx_in 79 rfl rfl, by decide +kernel⟩
set_option maxRecDepth 100000 in
theorem mx_okm126 : mx_okM 126 := ⟨rfl, by decide +kernel, ⟨by decide +kernel, by decide +kernel⟩, by decide +kernel, mx_in 537 rfl rfl, mx_in 79 rfl rfl, by decide +kernel⟩
set_option maxRecDepth 100000 in
theorem mx_okm127 : mx_okM 127 := ⟨rfl, by decide +kernel, ⟨by decide +kernel, by decide +kernel⟩, by decide +kernel, mx_in 604 rfl rfl, mx_in 79 rfl rfl, by decide +kernel⟩
set_option maxRecDepth 100000 in
theorem mx_okm128 : mx_okM 128 := ⟨rfl, by decide +kernel, ⟨by decide +kernel, by decide +kernel⟩, by decide +kernel, mx_in 650 rfl rfl, mx_in 79 rfl rfl, by decide +kernel⟩
set_option maxRecDepth 100000 in
theorem mx_okm129 : mx_okM 129 := ⟨rfl, by decide +kernel, ⟨by decide +kernel, by decide +kernel⟩, by decide +kernel, mx_in 681 rfl rfl, mx_in 79 rfl rfl, by decide +kernel⟩
set_option maxRecDepth 100000 in
theorem mx_okm130 : mx_okM 130 := ⟨rfl, by decide +kernel, ⟨by decide +kernel, by decide +kernel⟩, by decide +kernel, mx_in 458 rfl rfl, mx_in 79 rfl rfl, by decide +kernel⟩
set_option maxRecDepth 100000 in
theorem mx_okm131 : mx_okM 131 := ⟨rfl, by decide +kernel, ⟨by decide +kernel, by decide +kernel⟩, by decide +kernel, mx_in 958 rfl rfl, mx_in 94 rfl rfl, by decide +kernel⟩
set_option maxRecDepth 100000 in
theorem mx_okm132 : mx_okM 132 := ⟨rfl, by decide +kernel, ⟨by decide +kernel, by decide +kernel⟩, by decide +kernel, mx_in 1081 rfl rfl, mx_in 94 rfl rfl, by decide +kernel⟩
set_option maxRecDepth 100000 in
theorem mx_okm133 : mx_okM 133 := ⟨rfl, by decide +kernel, ⟨by decide +kernel, by decide +kernel⟩, by decide +kernel, mx_in 1208 rfl rfl, mx_in 94 rfl rfl, by decide +kernel⟩
set_option maxRecDepth 100000 in
theorem mx_okm134 : mx_okM 134 := ⟨rfl, by decide +kernel, ⟨by decide +kernel, by decide +kernel⟩, by decide +kernel, mx_in 1262 rfl rfl, mx_in 94 rfl rfl, by decide +kernel⟩
set_option maxRecDepth 100000 in
theorem mx_okm135 : mx_okM 135 := ⟨rfl, by decide +kernel, ⟨by decide +kernel, by decide +kernel⟩, by decide +kernel, mx_in 1266 rfl rfl, mx_in 94 rfl rfl, by decide +kernel⟩
set_option maxRecDepth 100000 in
theorem mx_okm136 : mx_okM 136 := ⟨rfl, by decide +kernel, ⟨by decide +kernel, by decide +kernel⟩, by decide +kernel, mx_in 1100 rfl rfl, mx_in 94 rfl rfl, by decide +kernel⟩
set_option maxRecDepth 100000 in
theorem mx_okm137 : mx_okM 137 := ⟨rfl, by decide +kernel, ⟨by decide +kernel, by decide +kernel⟩, by decide +kernel, mx_in 1092 rfl rfl, mx_in 94 rfl rfl, by decide +kernel⟩
set_option maxRecDepth 100000 in
theorem mx_okm138 : mx_okM 138 := ⟨rfl, by decide +kernel, ⟨by decide +kernel, by decide +kernel⟩, by decide +kernel, mx_in 1088 rfl rfl, mx_in 94 rfl rfl, by decide +kernel⟩
set_option maxRecDepth 100000 in
theorem mx_okm139 : mx_okM 139 := ⟨rfl, by decide +kernel, ⟨by decide +kernel, by decide +kernel⟩, by decide +kernel, mx_in 1199 rfl rfl, mx_in 94 rfl rfl, by decide +kernel⟩
set_option maxRecDepth 100000 in
theorem mx_okm140 : mx_okM 140 := ⟨rfl, by decide +kernel, ⟨by decide +kernel, by decide +kernel⟩, by decide +kernel, mx_in 1194 rfl rfl, mx_in 94 rfl rfl, by decide +kernel⟩
set_option maxRecDepth 100000 in
theorem mx_okm141 : mx_okM 141 := ⟨rfl, by decide +kernel, ⟨by decide +kernel, by decide +kernel⟩, by decide +kernel, mx_in 1218 rfl rfl, mx_in 94 rfl rfl, by decide +kernel⟩
set_option maxRecDepth 100000 in
theorem mx_okm142 : mx_okM 142 := ⟨rfl, by decide +kernel, ⟨by decide +kernel, by decide +kernel⟩, by decide +kernel, mx_in 1085 rfl rfl, mx_in 94 rfl rfl, by decide +kernel⟩
set_option maxRecDepth 100000 in
theorem mx_okm143 : mx_okM 143 := ⟨rfl, by decide +kernel, ⟨by decide +kernel, by decide +kernel⟩, by decide +kernel, mx_in 1078 rfl rfl, mx_in 94 rfl rfl, by decide +kernel⟩
set_option maxRecDepth 100000 in
theorem mx_okm144 : mx_okM 144 := ⟨rfl, by decide +kernel, ⟨by decide +kernel, by decide +kernel⟩, by decide +kernel, mx_in 1096 rfl rfl, mx_in 94 rfl rfl, by decide +kernel⟩
set_option maxRecDepth 100000 in
theorem mx_okm145 : mx_okM 145 := ⟨rfl, by decide +kernel, ⟨by decide +kernel, by decide +kernel⟩, by decide +kernel, mx_in 1104 rfl rfl, mx_in 94 rfl rfl, by decide +kernel⟩
set_option maxRecDepth 100000 in
theorem mx_okm146 : mx_okM 146 := ⟨rfl, by decide +kernel, ⟨by decide +kernel, by decide +kernel⟩, by decide +kernel, mx_in 963 rfl rfl, mx_in 94 rfl rfl, by decide +kernel⟩
set_option maxRecDepth 100000 in
theorem mx_okm147 : mx_okM 147 := ⟨rfl, by decide +kernel, ⟨by decide +kernel, by decide +kernel⟩, by decide +kernel, mx_in 1108 rfl rfl, mx_in 94 rfl rfl, by decide +kernel⟩
set_option maxRecDepth 100000 in
theorem mx_okm148 : mx_okM 148 := ⟨rfl, by decide +kernel, ⟨by decide +kernel, by decide +kernel⟩, by decide +kernel, mx_in 1124 rfl rfl, mx_in 94 rfl rfl, by decide +kernel⟩
set_option maxRecDepth 100000 in
theorem mx_okm149 : mx_okM 149 := ⟨rfl, by decide +kernel, ⟨by decide +kernel, by decide +kernel⟩, by decide +kernel, mx_in 1120 rfl rfl, mx_in 94 rfl rfl, by decide +kernel⟩
set_option maxRecDepth 100000 in
theorem mx_okm150 : mx_okM 150 := ⟨rfl, by decide +kernel, ⟨by decide +kernel, by decide +kernel⟩, by decide +kernel, mx_in 1128 rfl rfl, mx_in 94 rfl rfl, by decide +kernel⟩
set_option maxRecDepth 100000 in
theorem mx_okm151 : mx_okM 151 := ⟨rfl, by decide +kernel, ⟨by decide +kernel, by decide +kernel⟩, by decide +kernel, mx_in 1148 rfl rfl, mx_in 94 rfl rfl, by decide +kernel⟩
set_option maxRecDepth 100000 in
theorem mx_okm152 : mx_okM 152 := ⟨rfl, by decide +kernel, ⟨by decide +kernel, by decide +kernel⟩, by decide +kernel, mx_in 1140 rfl rfl, mx_in 94 rfl rfl, by decide +kernel⟩
set_option maxRecDepth 100000 in
theorem mx_okm153 : mx_okM 153 := ⟨rfl, by decide +kernel, ⟨by decide +kernel, by decide +kernel⟩, by decide +kernel, mx_in 1155 rfl rfl, mx_in 94 rfl rfl, by decide +kernel⟩
set_option maxRecDepth 100000 in
theorem mx_okm154 : mx_okM 154 := ⟨rfl, by decide +kernel, ⟨by decide +kernel, by decide +kernel⟩, by decide +kernel, mx_in 1159 rfl rfl, mx_in 94 rfl rfl, by decide +kernel⟩
set_option maxRecDepth 100000 in
theorem mx_okm155 : mx_okM 155 := ⟨rfl, by decide +kernel, ⟨by decide +kernel, by decide +kernel⟩, by decide +kernel, mx_in 1152 rfl rfl, mx_in 94 rfl rfl, by decide +kernel⟩
set_option maxRecDepth 100000 in
theorem mx_okm156 : mx_okM 156 := ⟨rfl, by decide +kernel, ⟨by decide +kernel, by decide +kernel⟩, by decide +kernel, mx_in 1163 rfl rfl, mx_in 94 rfl rfl, by decide +kernel⟩
set_option maxRecDepth 100000 in
theorem mx_okm157 : mx_okM 157 := ⟨rfl, by decide +kernel, ⟨by decide +kernel, by decide +kernel⟩, by decide +kernel, mx_in 1167 rfl rfl, mx_in 94 rfl rfl, by decide +kernel⟩
set_option maxRecDepth 100000 in
theorem mx_okm158 : mx_okM 158 := ⟨rfl, by decide +kernel, ⟨by decide +kernel, by decide +kernel⟩, by decide +kernel, mx_in 1144 rfl rfl, mx_in 94 rfl rfl, by decide +kernel⟩
set_option maxRecDepth 100000 in
theorem mx_okm159 : mx_okM 159 := ⟨rfl, by decide +kernel, ⟨by decide +kernel, by decide +kernel⟩, by decide +kernel, mx_in 1136 rfl rfl, mx_in 94 rfl rfl, by decide +kernel⟩
set_option maxRecDepth 100000 in
theorem mx_okm160 : mx_okM 160 := ⟨rfl, by decide +kernel, ⟨by decide +kernel, by decide +kernel⟩, by decide +kernel, mx_in 1132 rfl rfl, mx_in 94 rfl rfl, by decide +kernel⟩
set_option maxRecDepth 100000 in
theorem mx_okm161 : mx_okM 161 := ⟨rfl, by decide +kernel, ⟨by decide +kernel, by decide +kernel⟩, by decide +kernel, mx_in 1116 rfl rfl, mx_in 94 rfl rfl, by decide +kernel⟩
set_option maxRecDepth 100000 in
theorem mx_okm162 : mx_okM 162 := ⟨rfl, by decide +kernel, ⟨by decide +kernel, by decide +kernel⟩, by decide +kernel, mx_in 1112 rfl rfl, mx_in 94 rfl rfl, by decide +kernel⟩
set_option maxRecDepth 100000 in
theorem mx_okm163 : mx_okM 163 := ⟨rfl, by decide +kernel, ⟨by decide +kernel, by decide +kernel⟩, by decide +kernel, mx_in 1171 rfl rfl, mx_in 94 rfl rfl, by decide +kernel⟩
set_option maxRecDepth 100000 in
theorem mx_okm164 : mx_okM 164 := ⟨rfl, by decide +kernel, ⟨by decide +kernel, by decide +kernel⟩, by decide +kernel, mx_in 1202 rfl rfl, mx_in 94 rfl rfl, by decide +kernel⟩
set_option maxRecDepth 100000 in
theorem mx_okm165 : mx_okM 165 := ⟨rfl, by decide +kernel, ⟨by decide +kernel, by decide +kernel⟩, by decide +kernel, mx_in 1205 rfl rfl, mx_in 94 rfl rfl, by decide +kernel⟩
set_option maxRecDepth 100000 in
theorem mx_okm166 : mx_okM 166 := ⟨rfl, by decide +kernel, ⟨by decide +kernel, by decide +kernel⟩, by decide +kernel, mx_in 1187 rfl rfl, mx_in 94 rfl rfl, by decide +kernel⟩
set_option maxRecDepth 100000 in
theorem mx_okm167 : mx_okM 167 := ⟨rfl, by decide +kernel, ⟨by decide +kernel, by decide +kernel⟩, by decide +kernel, mx_in 1191 rfl rfl, mx_in 94 rfl rfl, by decide +kernel⟩
set_option maxRecDepth 100000 in
theorem mx_okm168 : mx_okM 168 := ⟨rfl, by decide +kernel, ⟨by decide +kernel, by decide +kernel⟩, by decide +kernel, mx_in 1179 rfl rfl, mx_in 94 rfl rfl, by decide +kernel⟩
set_option maxRecDepth 100000 in
theorem mx_okm169 : mx_okM 169 := ⟨rfl, by decide +kernel, ⟨by decide +kernel, by decide +kernel⟩, by decide +kernel, mx_in 1183 rfl rfl, mx_in 94 rfl rfl, by decide +kernel⟩
set_option maxRecDepth 100000 in
theorem mx_okm170 : mx_okM 170 := ⟨rfl, by decide +kernel, ⟨by decide +kernel, by decide +kernel⟩, by decide +kernel, mx_in 1214 rfl rfl, mx_in 94 rfl rfl, by decide +kernel⟩
set_option maxRecDepth 100000 in
theorem mx_okm171 : mx_okM 171 := ⟨rfl, by decide +kernel, ⟨by decide +kernel, by decide +kernel⟩, by decide +kernel, mx_in 1222 rfl rfl, mx_in 94 rfl rfl, by decide +kernel⟩
set_option maxRecDepth 100000 in
theorem mx_okm172 : mx_okM 172 := ⟨rfl, by decide +kernel, ⟨by decide +kernel, by decide +kernel⟩, by decide +kernel, mx_in 1175 rfl rfl, mx_in 94 rfl rfl, by decide +kernel⟩
set_option maxRecDepth 100000 in
theorem mx_okm173 : mx_okM 173 := ⟨rfl, by decide +kernel, ⟨by decide +kernel, by decide +kernel⟩, by decide +kernel, mx_in 1230 rfl rfl, mx_in 94 rfl rfl, by decide +kernel⟩
set_option maxRecDepth 100000 in
theorem mx_okm174 : mx_okM 174 := ⟨rfl, by decide +kernel, ⟨by decide +kernel, by decide +kernel⟩, by decide +kernel, mx_in 1234 rfl rfl, mx_in 94 rfl rfl, by decide +kernel⟩
set_option maxRecDepth 100000 in
theorem mx_okm175 : mx_okM 175 := ⟨rfl, by decide +kernel, ⟨by decide +kernel, by decide +kernel⟩, by decide +kernel, mx_in 1226 rfl rfl, mx_in 94 rfl rfl, by decide +kernel⟩
set_option maxRecDepth 100000 in
theorem mx_okm176 : mx_okM 176 := ⟨rfl, by decide +kernel, ⟨by decide +kernel, by decide +kernel⟩, by decide +kernel, mx_in 1242 rfl rfl, mx_in 94 rfl rfl, by decide +kernel⟩
set_option maxRecDepth 100000 in
theorem mx_okm177 : mx_okM 177 := ⟨rfl, by decide +kernel, ⟨by decide +kernel, by decide +kernel⟩, by decide +kernel, mx_in 1238 rfl rfl, mx_in 94 rfl rfl, by decide +kernel⟩
set_option maxRecDepth 100000 in
theorem mx_okm178 : mx_okM 178 := ⟨rfl, by decide +kernel, ⟨by decide +kernel, by decide +kernel⟩, by decide +kernel, mx_in 1254 rfl rfl, mx_in 94 rfl rfl, by decide +kernel⟩
set_option maxRecDepth 100000 in
theorem mx_okm179 : mx_okM 179 := ⟨rfl, by decide +kernel, ⟨by decide +kernel, by decide +kernel⟩, by decide +kernel, mx_in 1250 rfl rfl, mx_in 94 rfl rfl, by decide +kernel⟩
set_option maxRecDepth 100000 in
theorem mx_okm180 : mx_okM 180 := ⟨rfl, by decide +kernel, ⟨by decide +kernel, by decide +kernel⟩, by decide +kernel, mx_in 1246 rfl rfl, mx_in 94 rfl rfl, by decide +kernel⟩
set_option maxRecDepth 100000 in
theorem mx_okm181 : mx_okM 181 := ⟨rfl, by decide +kernel, ⟨by decide +kernel, by decide +kernel⟩, by decide +kernel, mx_in 1258 rfl rfl, mx_in 94 rfl rfl, by decide +kernel⟩
set_option maxRecDepth 100000 in
theorem mx_okm182 : mx_okM 182 := ⟨rfl, by decide +kernel, ⟨by decide +kernel, by decide +kernel⟩, by decide +kernel, mx_in 1274 rfl rfl, mx_in 94 rfl rfl, by decide +kernel⟩
set_option maxRecDepth 100000 in
theorem mx_okm183 : mx_okM 183 := ⟨rfl, by decide +kernel, ⟨by decide +kernel, by decide +kernel⟩, by decide +kernel, mx_in 1270 rfl rfl, mx_in 94 rfl rfl, by decide +kernel⟩
set_option maxRecDepth 100000 in
theorem mx_okm184 : mx_okM 184 := ⟨rfl, by decide +kernel, ⟨by decide +kernel, by decide +kernel⟩, by decide +kernel, mx_in 1283 rfl rfl, mx_in 94 rfl rfl, by decide +kernel⟩
set_option maxRecDepth 100000 in
theorem mx_okm185 : mx_okM 185 := ⟨rfl, by decide +kernel, ⟨by decide +kernel, by decide +kernel⟩, by decide +kernel, mx_in 1287 rfl rfl, mx_in 94 rfl rfl, by decide +kernel⟩
set_option maxRecDepth 100000 in
theorem mx_okm186 : mx_okM 186 := ⟨rfl, by decide +kernel, ⟨by decide +kernel, by decide +kernel⟩, by decide +kernel, mx_in 1279 rfl rfl, mx_in 94 rfl rfl, by decide +kernel⟩
set_option maxRecDepth 100000 in
theorem mx_okm187 : mx_okM 187 := ⟨rfl, by decide +kernel, ⟨by decide +kernel, by decide +kernel⟩, by decide +kernel, mx_in 1292 rfl rfl, mx_in 94 rfl rfl, by decide +kernel⟩
set_option maxRecDepth 100000 in
theorem mx_okm188 : mx_okM 188 := ⟨rfl, by decide +kernel, ⟨by decide +kernel, by decide +kernel⟩, by decide +kernel, mx_in 1303 rfl rfl, mx_in 94 rfl rfl, by decide +kernel⟩
set_option maxRecDepth 100000 in
theorem mx_okm189 : mx_okM 189 := ⟨rfl, by decide +kernel, ⟨by decide +kernel, by decide +kernel⟩, by decide +kernel, mx_in 1308 rfl rfl, mx_in 94 rfl rfl, by decide +kernel⟩
set_option maxRecDepth 100000 in
theorem mx_okm190 : mx_okM 190 := ⟨rfl, by decide +kernel, ⟨by decide +kernel, by decide +kernel⟩, by decide +kernel, mx_in 1299 rfl rfl, mx_in 94 rfl rfl, by decide +kernel⟩
set_option maxRecDepth 100000 in
theorem mx_okm191 : mx_okM 191 := ⟨rfl, by decide +kernel, ⟨by decide +kernel, by decide +kernel⟩, by decide +kernel, mx_in 1316 rfl rfl, mx_in 94 rfl rfl, by decide +kernel⟩
set_option maxRecDepth 100000 in
theorem mx_okm192 : mx_okM 192 := ⟨rfl, by decide +kernel, ⟨by decide +kernel, by decide +kernel⟩, by decide +kernel, mx_in 1312 rfl rfl, mx_in 94 rfl rfl, by decide +kernel⟩
set_option maxRecDepth 100000 in
theorem mx_okm193 : mx_okM 193 := ⟨rfl, by decide +kernel, ⟨by decide +kernel, by decide +kernel⟩, by decide +kernel, mx_in 1320 rfl rfl, mx_in 94 rfl rfl, by decide +kernel⟩
set_option maxRecDepth 100000 in
theorem mx_okm194 : mx_okM 194 := ⟨rfl, by decide +kernel, ⟨by decide +kernel, by decide +kernel⟩, by decide +kernel, mx_in 1327 rfl rfl, mx_in 94 rfl rfl, by decide +kernel⟩
set_option maxRecDepth 100000 in
theorem mx_okm195 : mx_okM 195 := ⟨rfl, by decide +kernel, ⟨by decide +kernel, by decide +kernel⟩, by decide +kernel, mx_in 1324 rfl rfl, mx_in 94 rfl rfl, by decide +kernel⟩
set_option maxRecDepth 100000 in
theorem mx_okm196 : mx_okM 196 := ⟨rfl, by decide +kernel, ⟨by decide +kernel, by decide +kernel⟩, by decide +kernel, mx_in 1295 rfl rfl, mx_in 94 rfl rfl, by decide +kernel⟩
set_option maxRecDepth 100000 in
theorem mx_okm197 : mx_okM 197 := ⟨rfl, by decide +kernel, ⟨by decide +kernel, by decide +kernel⟩, by decide +kernel, mx_in 1331 rfl rfl, mx_in 94 rfl rfl, by decide +kernel⟩
set_option maxRecDepth 100000 in
theorem mx_okm198 : mx_okM 198 := ⟨rfl, by decide +kernel, ⟨by decide +kernel, by decide +kernel⟩, by decide +kernel, mx_in 1335 rfl rfl, mx_in 94 rfl rfl, by decide +kernel⟩
set_option maxRecDepth 100000 in
theorem mx_okm199 : mx_okM 199 := ⟨rfl, by decide +kernel, ⟨by decide +kernel, by decide +kernel⟩, by decide +kernel, mx_in 1339 rfl rfl, mx_in 94 rfl rfl, by decide +kernel⟩
set_option maxRecDepth 100000 in
theorem mx_okm200 : mx_okM 200 := ⟨rfl, by decide +kernel, ⟨by decide +kernel, by decide +kernel⟩, by decide +kernel, mx_in 1343 rfl rfl, mx_in 94 rfl rfl, by decide +kernel⟩
set_option maxRecDepth 100000 in
theorem mx_okm201 : mx_okM 201 := ⟨rfl, by decide +kernel, ⟨by decide +kernel, by decide +kernel⟩, by decide +kernel, mx_in 1348 rfl rfl, mx_in 94 rfl rfl, by decide +kernel⟩
set_option maxRecDepth 100000 in
theorem mx_okm202 : mx_okM 202 := ⟨rfl, by decide +kernel, ⟨by decide +kernel, by decide +kernel⟩, by decide +kernel, mx_in 1356 rfl rfl, mx_in 94 rfl rfl, by decide +kernel⟩
set_option maxRecDepth 100000 in
theorem mx_okm203 : mx_okM 203 := ⟨rfl, by decide +kernel, ⟨by decide +kernel, by decide +kernel⟩, by decide +kernel, mx_in 1360 rfl rfl, mx_in 94 rfl rfl, by decide +kernel⟩
set_option maxRecDepth 100000 in
theorem mx_okm204 : mx_okM 204 := ⟨rfl, by decide +kernel, ⟨by decide +kernel, by decide +kernel⟩, by decide +kernel, mx_in 1364 rfl rfl, mx_in 94 rfl rfl, by decide +kernel⟩
set_option maxRecDepth 100000 in
theorem mx_okm205 : mx_okM 205 := ⟨rfl, by decide +kernel, ⟨by decide +kernel, by decide +kernel⟩, by decide +kernel, mx_in 1352 rfl rfl, mx_in 94 rfl rfl, by decide +kernel⟩
set_option maxRecDepth 100000 in
theorem mx_okm206 : mx_okM 206 := ⟨rfl, by decide +kernel, ⟨by decide +kernel, by decide +kernel⟩, by decide +kernel, mx_in 1368 rfl rfl, mx_in 94 rfl rfl, by decide +kernel⟩
set_option maxRecDepth 100000 in
theorem mx_okm207 : mx_okM 207 := ⟨rfl, by decide +kernel, ⟨by decide +kernel, by decide +kernel⟩, by decide +kernel, mx_in 1373 rfl rfl, mx_in 94 rfl rfl, by decide +kernel⟩
set_option maxRecDepth 100000 in
theorem mx_okm208 : mx_okM 208 := ⟨rfl, by decide +kernel, ⟨by decide +kernel, by decide +kernel⟩, by decide +kernel, mx_in 1378 rfl rfl, mx_in 94 rfl rfl, by decide +kernel⟩
set_option maxRecDepth 100000 in
theorem mx_okm209 : mx_okM 209 := ⟨rfl, by decide +kernel, ⟨by decide +kernel, by decide +kernel⟩, by decide +kernel, mx_in 1383 rfl rfl, mx_in 94 rfl rfl, by decide +kernel⟩
set_option maxRecDepth 100000 in
theorem mx_okm210 : mx_okM 210 := ⟨rfl, by decide +kernel, ⟨by decide +kernel, by decide +kernel⟩, by decide +kernel, mx_in 1387 rfl rfl, mx_in 94 rfl rfl, by decide +kernel⟩
set_option maxRecDepth 100000 in
theorem mx_okm211 : mx_okM 211 := ⟨rfl, by decide +kernel, ⟨by decide +kernel, by decide +kernel⟩, by decide +kernel, mx_in 1391 rfl rfl, mx_in 94 rfl rfl, by decide +kernel⟩
set_option maxRecDepth 100000 in
theorem mx_okm212 : mx_okM 212 := ⟨rfl, by decide +kernel, ⟨by decide +kernel, by decide +kernel⟩, by decide +kernel, mx_in 820 rfl rfl, mx_in 96 rfl rfl, by decide +kernel⟩
set_option maxRecDepth 100000 in
theorem mx_okm213 : mx_okM 213 := ⟨rfl, by decide +kernel, ⟨by decide +kernel, by decide +kernel⟩, by decide +kernel, mx_in 653 rfl rfl, mx_in 95 rfl rfl, by decide +kernel⟩
set_option maxRecDepth 100000 in
theorem mx_okm_0 : ∀ k, k < 40 → mx_okM k := lt_s (lt_s (lt_s (lt_s (lt_s (lt_s (lt_s (lt_s (lt_s (lt_s (lt_s (lt_s (lt_s (lt_s (lt_s (lt_s (lt_s (lt_s (lt_s (lt_s (lt_s (lt_s (lt_s (lt_s (lt_s (lt_s (lt_s (lt_s (lt_s (lt_s (lt_s (lt_s (lt_s (lt_s (lt_s (lt_s (lt_s (lt_s (lt_s (lt_s (lt_0) mx_okm0) mx_okm1) mx_okm2) mx_okm3) mx_okm4) mx_okm5) mx_okm6) mx_okm7) mx_okm8) mx_okm9) mx_okm10) mx_okm11) mx_okm12) mx_okm13) mx_okm14) mx_okm15) mx_okm16) mx_okm17) mx_okm18) mx_okm19) mx_okm20) mx_okm21) mx_okm22) mx_okm23) mx_okm24) mx_okm25) mx_okm26) mx_okm27) mx_okm28) mx_okm29) mx_okm30) mx_okm31) mx_okm32) mx_okm33) mx_okm34) mx_okm35) mx_okm36) mx_okm37) mx_okm38) mx_okm39
set_option maxRecDepth 100000 in
theorem mx_okm_1 : ∀ k, k < 80 → mx_okM k := lt_s (lt_s (lt_s (lt_s (lt_s (lt_s (lt_s (lt_s (lt_s (lt_s (lt_s (lt_s (lt_s (lt_s (lt_s (lt_s (lt_s (lt_s (lt_s (lt_s (lt_s (lt_s (lt_s (lt_s (lt_s (lt_s (lt_s (lt_s (lt_s (lt_s (lt_s (lt_s (lt_s (lt_s (lt_s (lt_s (lt_s (lt_s (lt_s (lt_s (mx_okm_0) mx_okm40) mx_okm41) mx_okm42) mx_okm43) mx_okm44) mx_okm45) mx_okm46) mx_okm47) mx_okm48) mx_okm49) mx_okm50) mx_okm51) mx_okm52) mx_okm53) mx_okm54) mx_okm55) mx_okm56) mx_okm57) mx_okm58) mx_okm59) mx_okm60) mx_okm61) mx_okm62) mx_okm63) mx_okm64) mx_okm65) mx_okm66) mx_okm67) mx_okm68) mx_okm69) mx_okm70) mx_okm71) mx_okm72) mx_okm73) mx_okm74) mx_okm75) mx_okm76) mx_okm77) mx_okm78) mx_okm79
set_option maxRecDepth 100000 in
theorem mx_okm_2 : ∀ k, k < 120 → mx_okM k := lt_s (lt_s (lt_s (lt_s (lt_s (lt_s (lt_s (lt_s (lt_s (lt_s (lt_s (lt_s (lt_s (lt_s (lt_s (lt_s (lt_s (lt_s (lt_s (lt_s (lt_s (lt_s (lt_s (lt_s (lt_s (lt_s (lt_s (lt_s (lt_s (lt_s (lt_s (lt_s (lt_s (lt_s (lt_s (lt_s (lt_s (lt_s (lt_s (lt_s (mx_okm_1) mx_okm80) mx_okm81) mx_okm82) mx_okm83) mx_okm84) mx_okm85) mx_okm86) mx_okm87) mx_okm88) mx_okm89) mx_okm90) mx_okm91) mx_okm92) mx_okm93) mx_okm94) mx_okm95) mx_okm96) mx_okm97) mx_okm98) mx_okm99) mx_okm100) mx_okm101) mx_okm102) mx_okm103) mx_okm104) mx_okm105) mx_okm106) mx_okm107) mx_okm108) mx_okm109) mx_okm110) mx_okm111) mx_okm112) mx_okm113) mx_okm114) mx_okm115) mx_okm116) mx_okm117) mx_okm118) mx_okm119
set_option maxRecDepth 100000 in
theorem mx_okm_3 : ∀ k, k < 160 → mx_okM k := lt_s (lt_s (lt_s (lt_s (lt_s (lt_s (lt_s (lt_s (lt_s (lt_s (lt_s (lt_s (lt_s (lt_s (lt_s (lt_s (lt_s (lt_s (lt_s (lt_s (lt_s (lt_s (lt_s (lt_s (lt_s (lt_s (lt_s (lt_s (lt_s (lt_s (lt_s (lt_s (lt_s (lt_s (lt_s (lt_s (lt_s (lt_s (lt_s (lt_s (mx_okm_2) mx_okm120) mx_okm121) mx_okm122) mx_okm123) mx_okm124) mx_okm125) mx_okm126) mx_okm127) mx_okm128) mx_okm129) mx_okm130) mx_okm131) mx_okm132) mx_okm133) mx_okm134) mx_okm135) mx_okm136) mx_okm137) mx_okm138) mx_okm139) mx_okm140) mx_okm141) mx_okm142) mx_okm143) mx_okm144) mx_okm145) mx_okm146) mx_okm147) mx_okm148) mx_okm149) mx_okm150) mx_okm151) mx_okm152) mx_okm153) mx_okm154) mx_okm155) mx_okm156) mx_okm157) mx_okm158) mx_okm159
set_option maxRecDepth 100000 in
theorem mx_okm_4 : ∀ k, k < 200 → mx_okM k := lt_s (lt_s (lt_s (lt_s (lt_s (lt_s (lt_s (lt_s (lt_s (lt_s (lt_s (lt_s (lt_s (lt_s (lt_s (lt_s (lt_s (lt_s (lt_s (lt_s (lt_s (lt_s (lt_s (lt_s (lt_s (lt_s (lt_s (lt_s (lt_s (lt_s (lt_s (lt_s (lt_s (lt_s (lt_s (lt_s (lt_s (lt_s (lt_s (lt_s (mx_okm_3) mx_okm160) mx_okm161) mx_okm162) mx_okm163) mx_okm164) mx_okm165) mx_okm166) mx_okm167) mx_okm168) mx_okm169) mx_okm170) mx_okm171) mx_okm172) mx_okm173) mx_okm174) mx_okm175) mx_okm176) mx_okm177) mx_okm178) mx_okm179) mx_okm180) mx_okm181) mx_okm182) mx_okm183) mx_okm184) mx_okm185) mx_okm186) mx_okm187) mx_okm188) mx_okm189) mx_okm190) mx_okm191) mx_okm192) mx_okm193) mx_okm194) mx_okm195) mx_okm196) mx_okm197) mx_okm198) mx_okm199
set_option maxRecDepth 100000 in
theorem mx_okm_5 : ∀ k, k < 214 → mx_okM k := lt_s (lt_s (lt_s (lt_s (lt_s (lt_s (lt_s (lt_s (lt_s (lt_s (lt_s (lt_s (lt_s (lt_s (mx_okm_4) mx_okm200) mx_okm201) mx_okm202) mx_okm203) mx_okm204) mx_okm205) mx_okm206) mx_okm207) mx_okm208) mx_okm209) mx_okm210) mx_okm211) mx_okm212) mx_okm213
theorem mx_okm : ∀ k, k < 214 → mx_okM k := mx_okm_5
set_option maxRecDepth 100000 in
theorem mx_okl0_0 : mx_okL 0 (3, 27, 0, 0) := mx_in 110 rfl rfl
set_option maxRecDepth 100000 in
theorem mx_okl0_1 : mx_okL 0 (9, 0, 0, 0) := ⟨_, rfl, by decide, rfl, mx_in 145 rfl rfl⟩
set_option maxRecDepth 100000 in
theorem mx_okl0_2 : mx_okL 0 (15, 0, 1, 0) := ⟨_, rfl, by decide, rfl, mx_in 148 rfl rfl⟩
set_option maxRecDepth 100000 in
theorem mx_okl0_3 : mx_okL 0 (18, 7, 2, 0) := ⟨_, rfl, mx_in 111 rfl rfl, mx_in 113 rfl rfl, mx_in 81 rfl rfl⟩
set_option maxRecDepth 100000 in
theorem mx_okl0_4 : mx_okL 0 (18, 8, 3, 0) := ⟨_, rfl, by decide, by decide, mx_in 111 rfl rfl⟩
set_option maxRecDepth 100000 in
theorem mx_okl0_5 : mx_okL 0 (20, 0, 2, 0) := ⟨_, rfl, by decide, rfl, mx_in 151 rfl rfl⟩
set_option maxRecDepth 100000 in
theorem mx_okl0_6 : mx_okL 0 (24, 6, 14, 0) := ⟨by decide, List.mem_of_getElem? (i := 0) rfl, mx_in 115 rfl rfl, rfl⟩
set_option maxRecDepth 100000 in
theorem mx_okl0_7 : mx_okL 0 (25, 23, 0, 0) := mx_in 695 rfl rfl
set_option maxRecDepth 100000 in
theorem mx_okl0_8 : mx_okL 0 (31, 1, 15, 0) := ⟨by decide, mx_in 696 rfl rfl, mx_in 697 rfl rfl, mx_in 698 rfl rfl⟩
set_option maxRecDepth 100000 in
theorem mx_okl0_9 : mx_okL 0 (35, 0, 3, 0) := ⟨_, rfl, by decide, rfl, mx_in 152 rfl rfl⟩
set_option maxRecDepth 100000 in
theorem mx_okl0_10 : mx_okL 0 (39, 0, 4, 0) := ⟨_, rfl, by decide, rfl, mx_in 156 rfl rfl⟩
set_option maxRecDepth 100000 in
theorem mx_okl0_11 : mx_okL 0 (42, 0, 5, 0) := ⟨_, rfl, by decide, rfl, mx_in 158 rfl rfl⟩
set_option maxRecDepth 100000 in
theorem mx_okl0_12 : mx_okL 0 (45, 0, 200, 0) := ⟨_, rfl, by decide, rfl, mx_in 119 rfl rfl⟩
set_option maxRecDepth 100000 in
theorem mx_okl0_13 : mx_okL 0 (48, 0, 201, 0) := ⟨_, rfl, by decide, rfl, mx_in 124 rfl rfl⟩
set_option maxRecDepth 100000 in
theorem mx_okl0_14 : mx_okL 0 (51, 0, 202, 0) := ⟨_, rfl, by decide, rfl, mx_in 129 rfl rfl⟩
set_option maxRecDepth 100000 in
theorem mx_okl0_15 : mx_okL 0 (54, 0, 203, 0) := ⟨_, rfl, by decide, rfl, mx_in 132 rfl rfl⟩
set_option maxRecDepth 100000 in
theorem mx_okl0_16 : mx_okL 0 (57, 4, 126, 0) := ⟨by decide, List.mem_of_getElem? (i := 7) rfl, mx_in 536 rfl rfl⟩
set_option maxRecDepth 100000 in
theorem mx_okl0_17 : mx_okL 0 (61, 1, 7, 0) := ⟨by decide, mx_in 644 rfl rfl, mx_in 645 rfl rfl, mx_in 646 rfl rfl⟩
set_option maxRecDepth 100000 in
theorem mx_okl0_18 : mx_okL 0 (65, 3, 213, 0) := ⟨by decide, mx_in 651 rfl rfl, mx_in 652 rfl rfl⟩
set_option maxRecDepth 100000 in
theorem mx_okl0_19 : mx_okL 0 (71, 4, 128, 0) := ⟨by decide, List.mem_of_getElem? (i := 11) rfl, mx_in 649 rfl rfl⟩
set_option maxRecDepth 100000 in
theorem mx_okl0_20 : mx_okL 0 (75, 4, 129, 0) := ⟨by decide, List.mem_of_getElem? (i := 12) rfl, mx_in 680 rfl rfl⟩
set_option maxRecDepth 100000 in
theorem mx_okl0_21 : mx_okL 0 (79, 4, 127, 0) := ⟨by decide, List.mem_of_getElem? (i := 13) rfl, mx_in 603 rfl rfl⟩
set_option maxRecDepth 100000 in
theorem mx_okl0_22 : mx_okL 0 (83, 0, 502, 0) := ⟨_, rfl, by decide, rfl, mx_in 295 rfl rfl⟩
set_option maxRecDepth 100000 in
theorem mx_okl0_23 : mx_okL 0 (86, 1, 59, 0) := ⟨by decide, mx_in 891 rfl rfl, mx_in 761 rfl rfl, mx_in 762 rfl rfl⟩
set_option maxRecDepth 100000 in
theorem mx_okl0 : ∀ q ∈ mx_lk 0, mx_okL 0 q := List.forall_mem_cons.mpr ⟨mx_okl0_0, List.forall_mem_cons.mpr ⟨mx_okl0_1, List.forall_mem_cons.mpr ⟨mx_okl0_2, List.forall_mem_cons.mpr ⟨mx_okl0_3, List.forall_mem_cons.mpr ⟨mx_okl0_4, List.forall_mem_cons.mpr ⟨mx_okl0_5, List.forall_mem_cons.mpr ⟨mx_okl0_6, List.forall_mem_cons.mpr ⟨mx_okl0_7, List.forall_mem_cons.mpr ⟨mx_okl0_8, List.forall_mem_cons.mpr ⟨mx_okl0_9, List.forall_mem_cons.mpr ⟨mx_okl0_10, List.forall_mem_cons.mpr ⟨mx_okl0_11, List.forall_mem_cons.mpr ⟨mx_okl0_12, List.forall_mem_cons.mpr ⟨mx_okl0_13, List.forall_mem_cons.mpr ⟨mx_okl0_14, List.forall_mem_cons.mpr ⟨mx_okl0_15, List.forall_mem_cons.mpr ⟨mx_okl0_16, List.forall_mem_cons.mpr ⟨mx_okl0_17, List.forall_mem_cons.mpr ⟨mx_okl0_18, List.forall_mem_cons.mpr ⟨mx_okl0_19, List.forall_mem_cons.mpr ⟨mx_okl0_20, List.forall_mem_cons.mpr ⟨mx_okl0_21, List.forall_mem_cons.mpr ⟨mx_okl0_22, List.forall_mem_cons.mpr ⟨mx_okl0_23, fun _ h => absurd h List.not_mem_nil⟩⟩⟩⟩⟩⟩⟩⟩⟩⟩⟩⟩⟩⟩⟩⟩⟩⟩⟩⟩⟩⟩⟩⟩
set_option maxRecDepth 100000 in
theorem mx_okl1_0 : mx_okL 1 (3, 27, 0, 0) := mx_in 243 rfl rfl
set_option maxRecDepth 100000 in
theorem mx_okl1_1 : mx_okL 1 (9, 0, 100, 0) := ⟨_, rfl, by decide, rfl, mx_in 244 rfl rfl⟩
set_option maxRecDepth 100000 in
theorem mx_okl1_2 : mx_okL 1 (15, 0, 101, 0) := ⟨_, rfl, by decide, rfl, mx_in 246 rfl rfl⟩
set_option maxRecDepth 100000 in
theorem mx_okl1_3 : mx_okL 1 (18, 0, 202, 0) := ⟨_, rfl, by decide, rfl, mx_in 126 rfl rfl⟩
set_option maxRecDepth 100000 in
theorem mx_okl1_4 : mx_okL 1 (23, 1, 10, 0) := ⟨by decide, mx_in 675 rfl rfl, mx_in 676 rfl rfl, mx_in 677 rfl rfl⟩
set_option maxRecDepth 100000 in
theorem mx_okl1_5 : mx_okL 1 (29, 1, 49, 0) := ⟨by decide, mx_in 684 rfl rfl, mx_in 609 rfl rfl, mx_in 610 rfl rfl⟩
set_option maxRecDepth 100000 in
theorem mx_okl1_6 : mx_okL 1 (35, 1, 50, 0) := ⟨by decide, mx_in 685 rfl rfl, mx_in 662 rfl rfl, mx_in 663 rfl rfl⟩
set_option maxRecDepth 100000 in
theorem mx_okl1_7 : mx_okL 1 (38, 4, 128, 0) := ⟨by decide, List.mem_of_getElem? (i := 14) rfl, mx_in 649 rfl rfl⟩
set_option maxRecDepth 100000 in
theorem mx_okl1 : ∀ q ∈ mx_lk 1, mx_okL 1 q := List.forall_mem_cons.mpr ⟨mx_okl1_0, List.forall_mem_cons.mpr ⟨mx_okl1_1, List.forall_mem_cons.mpr ⟨mx_okl1_2, List.forall_mem_cons.mpr ⟨mx_okl1_3, List.forall_mem_cons.mpr ⟨mx_okl1_4, List.forall_mem_cons.mpr ⟨mx_okl1_5, List.forall_mem_cons.mpr ⟨mx_okl1_6, List.forall_mem_cons.mpr ⟨mx_okl1_7, fun _ h => absurd h List.not_mem_nil⟩⟩⟩⟩⟩⟩⟩⟩
set_option maxRecDepth 100000 in
theorem mx_okl2_0 : mx_okL 2 (3, 27, 0, 0) := mx_in 117 rfl rfl
set_option maxRecDepth 100000 in
theorem mx_okl2_1 : mx_okL 2 (9, 0, 200, 0) := ⟨_, rfl, by decide, rfl, mx_in 118 rfl rfl⟩
set_option maxRecDepth 100000 in
theorem mx_okl2_2 : mx_okL 2 (15, 0, 201, 0) := ⟨_, rfl, by decide, rfl, mx_in 121 rfl rfl⟩
set_option maxRecDepth 100000 in
theorem mx_okl2_3 : mx_okL 2 (18, 0, 202, 0) := ⟨_, rfl, by decide, rfl, mx_in 125 rfl rfl⟩
set_option maxRecDepth 100000 in
theorem mx_okl2_4 : mx_okL 2 (21, 0, 203, 0) := ⟨_, rfl, by decide, rfl, mx_in 131 rfl rfl⟩
set_option maxRecDepth 100000 in
theorem mx_okl2_5 : mx_okL 2 (24, 21, 0, 0) := mx_in 601 rfl rfl
set_option maxRecDepth 100000 in
theorem mx_okl2 : ∀ q ∈ mx_lk 2, mx_okL 2 q := List.forall_mem_cons.mpr ⟨mx_okl2_0, List.forall_mem_cons.mpr ⟨mx_okl2_1, List.forall_mem_cons.mpr ⟨mx_okl2_2, List.forall_mem_cons.mpr ⟨mx_okl2_3, List.forall_mem_cons.mpr ⟨mx_okl2_4, List.forall_mem_cons.mpr ⟨mx_okl2_5, fun _ h => absurd h List.not_mem_nil⟩⟩⟩⟩⟩⟩
set_option maxRecDepth 100000 in
theorem mx_okl3_0 : mx_okL 3 (3, 27, 0, 0) := mx_in 179 rfl rfl
set_option maxRecDepth 100000 in
theorem mx_okl3_1 : mx_okL 3 (9, 0, 300, 0) := ⟨_, rfl, by decide, rfl, mx_in 180 rfl rfl⟩
set_option maxRecDepth 100000 in
theorem mx_okl3_2 : mx_okL 3 (15, 0, 302, 0) := ⟨_, rfl, by decide, rfl, mx_in 183 rfl rfl⟩
set_option maxRecDepth 100000 in
theorem mx_okl3_3 : mx_okL 3 (18, 0, 303, 0) := ⟨_, rfl, by decide, rfl, mx_in 184 rfl rfl⟩
set_option maxRecDepth 100000 in
theorem mx_okl3_4 : mx_okL 3 (21, 0, 306, 0) := ⟨_, rfl, by decide, rfl, mx_in 187 rfl rfl⟩
set_option maxRecDepth 100000 in
theorem mx_okl3_5 : mx_okL 3 (24, 0, 308, 0) := ⟨_, rfl, by decide, rfl, mx_in 189 rfl rfl⟩
set_option maxRecDepth 100000 in
theorem mx_okl3_6 : mx_okL 3 (27, 0, 309, 0) := ⟨_, rfl, by decide, rfl, mx_in 190 rfl rfl⟩
set_option maxRecDepth 100000 in
theorem mx_okl3_7 : mx_okL 3 (31, 0, 301, 0) := ⟨_, rfl, by decide, rfl, mx_in 181 rfl rfl⟩
set_option maxRecDepth 100000 in
theorem mx_okl3_8 : mx_okL 3 (34, 0, 307, 0) := ⟨_, rfl, by decide, rfl, mx_in 188 rfl rfl⟩
set_option maxRecDepth 100000 in
theorem mx_okl3_9 : mx_okL 3 (37, 4, 130, 0) := ⟨by decide, List.mem_of_getElem? (i := 6) rfl, mx_in 457 rfl rfl⟩
set_option maxRecDepth 100000 in
theorem mx_okl3_10 : mx_okL 3 (41, 23, 0, 0) := mx_in 465 rfl rfl
set_option maxRecDepth 100000 in
theorem mx_okl3_11 : mx_okL 3 (47, 7, 6, 0) := ⟨_, rfl, mx_in 468 rfl rfl, mx_in 469 rfl rfl, mx_in 93 rfl rfl⟩
set_option maxRecDepth 100000 in
theorem mx_okl3_12 : mx_okL 3 (49, 24, 0, 0) := mx_in 470 rfl rfl
set_option maxRecDepth 100000 in
theorem mx_okl3_13 : mx_okL 3 (50, 12, 0, 0) := mx_in 476 rfl rfl
set_option maxRecDepth 100000 in
theorem mx_okl3_14 : mx_okL 3 (54, 5, 62, 0) := ⟨by decide, mx_in 477 rfl rfl, mx_in 478 rfl rfl, rfl⟩
set_option maxRecDepth 100000 in
theorem mx_okl3_15 : mx_okL 3 (57, 1, 23, 0) := ⟨by decide, mx_in 361 rfl rfl, mx_in 363 rfl rfl, mx_in 0 rfl rfl⟩
set_option maxRecDepth 100000 in
theorem mx_okl3_16 : mx_okL 3 (60, 0, 304, 0) := ⟨_, rfl, by decide, rfl, mx_in 185 rfl rfl⟩
set_option maxRecDepth 100000 in
theorem mx_okl3_17 : mx_okL 3 (63, 0, 305, 0) := ⟨_, rfl, by decide, rfl, mx_in 186 rfl rfl⟩
set_option maxRecDepth 100000 in
theorem mx_okl3_18 : mx_okL 3 (66, 1, 35, 0) := ⟨by decide, mx_in 413 rfl rfl, mx_in 415 rfl rfl, mx_in 8 rfl rfl⟩
set_option maxRecDepth 100000 in
theorem mx_okl3_19 : mx_okL 3 (70, 1, 39, 0) := ⟨by decide, mx_in 425 rfl rfl, mx_in 427 rfl rfl, mx_in 11 rfl rfl⟩
set_option maxRecDepth 100000 in
theorem mx_okl3_20 : mx_okL 3 (73, 1, 25, 0) := ⟨by decide, mx_in 365 rfl rfl, mx_in 367 rfl rfl, mx_in 1 rfl rfl⟩
set_option maxRecDepth 100000 in
theorem mx_okl3_21 : mx_okL 3 (77, 1, 26, 0) := ⟨by decide, mx_in 373 rfl rfl, mx_in 375 rfl rfl, mx_in 3 rfl rfl⟩
set_option maxRecDepth 100000 in
theorem mx_okl3_22 : mx_okL 3 (80, 1, 29, 0) := ⟨by decide, mx_in 383 rfl rfl, mx_in 385 rfl rfl, mx_in 4 rfl rfl⟩
set_option maxRecDepth 100000 in
theorem mx_okl3_23 : mx_okL 3 (84, 1, 24, 0) := ⟨by decide, mx_in 369 rfl rfl, mx_in 371 rfl rfl, mx_in 2 rfl rfl⟩
set_option maxRecDepth 100000 in
theorem mx_okl3_24 : mx_okL 3 (87, 3, 27, 0) := ⟨by decide, mx_in 377 rfl rfl, mx_in 378 rfl rfl⟩
set_option maxRecDepth 100000 in
theorem mx_okl3_25 : mx_okL 3 (91, 3, 28, 0) := ⟨by decide, mx_in 380 rfl rfl, mx_in 381 rfl rfl⟩
set_option maxRecDepth 100000 in
theorem mx_okl3_26 : mx_okL 3 (94, 1, 31, 0) := ⟨by decide, mx_in 387 rfl rfl, mx_in 389 rfl rfl, mx_in 5 rfl rfl⟩
set_option maxRecDepth 100000 in
theorem mx_okl3_27 : mx_okL 3 (97, 1, 30, 0) := ⟨by decide, mx_in 409 rfl rfl, mx_in 411 rfl rfl, mx_in 7 rfl rfl⟩
set_option maxRecDepth 100000 in
theorem mx_okl3_28 : mx_okL 3 (100, 11, 2, 0) := ⟨_, rfl, by decide, rfl, rfl⟩
set_option maxRecDepth 100000 in
theorem mx_okl3_29 : mx_okL 3 (102, 1, 32, 0) := ⟨by decide, mx_in 392 rfl rfl, mx_in 394 rfl rfl, mx_in 6 rfl rfl⟩
set_option maxRecDepth 100000 in
theorem mx_okl3_30 : mx_okL 3 (106, 11, 3, 0) := ⟨_, rfl, by decide, rfl, rfl⟩
set_option maxRecDepth 100000 in
theorem mx_okl3_31 : mx_okL 3 (108, 11, 4, 0) := ⟨_, rfl, by decide, rfl, rfl⟩
set_option maxRecDepth 100000 in
theorem mx_okl3_32 : mx_okL 3 (110, 11, 5, 0) := ⟨_, rfl, by decide, rfl, rfl⟩
set_option maxRecDepth 100000 in
theorem mx_okl3_33 : mx_okL 3 (112, 11, 6, 0) := ⟨_, rfl, by decide, rfl, rfl⟩
set_option maxRecDepth 100000 in
theorem mx_okl3_34 : mx_okL 3 (114, 11, 7, 0) := ⟨_, rfl, by decide, rfl, rfl⟩
set_option maxRecDepth 100000 in
theorem mx_okl3_35 : mx_okL 3 (116, 11, 8, 0) := ⟨_, rfl, by decide, rfl, rfl⟩
set_option maxRecDepth 100000 in
theorem mx_okl3_36 : mx_okL 3 (118, 11, 9, 0) := ⟨_, rfl, by decide, rfl, rfl⟩
set_option maxRecDepth 100000 in
theorem mx_okl3_37 : mx_okL 3 (120, 11, 10, 0) := ⟨_, rfl, by decide, rfl, rfl⟩
set_option maxRecDepth 100000 in
theorem mx_okl3_38 : mx_okL 3 (122, 11, 11, 0) := ⟨_, rfl, by decide, rfl, rfl⟩
set_option maxRecDepth 100000 in
theorem mx_okl3_39 : mx_okL 3 (124, 11, 12, 0) := ⟨_, rfl, by decide, rfl, rfl⟩
set_option maxRecDepth 100000 in
theorem mx_okl3_40 : mx_okL 3 (126, 11, 13, 0) := ⟨_, rfl, by decide, rfl, rfl⟩
set_option maxRecDepth 100000 in
theorem mx_okl3_41 : mx_okL 3 (128, 25, 0, 0) := mx_in 396 rfl rfl
set_option maxRecDepth 100000 in
theorem mx_okl3_42 : mx_okL 3 (133, 26, 0, 0) := mx_in 397 rfl rfl
set_option maxRecDepth 100000 in
theorem mx_okl3_43 : mx_okL 3 (137, 1, 33, 0) := ⟨by decide, mx_in 417 rfl rfl, mx_in 419 rfl rfl, mx_in 9 rfl rfl⟩
set_option maxRecDepth 100000 in
theorem mx_okl3_44 : mx_okL 3 (140, 1, 34, 0) := ⟨by decide, mx_in 421 rfl rfl, mx_in 423 rfl rfl, mx_in 10 rfl rfl⟩
set_option maxRecDepth 100000 in
theorem mx_okl3_45 : mx_okL 3 (143, 1, 40, 0) := ⟨by decide, mx_in 429 rfl rfl, mx_in 431 rfl rfl, mx_in 12 rfl rfl⟩
set_option maxRecDepth 100000 in
theorem mx_okl3_46 : mx_okL 3 (146, 3, 38, 0) := ⟨by decide, mx_in 449 rfl rfl, mx_in 450 rfl rfl⟩
set_option maxRecDepth 100000 in
theorem mx_okl3_47 : mx_okL 3 (149, 1, 36, 0) := ⟨by decide, mx_in 441 rfl rfl, mx_in 443 rfl rfl, mx_in 15 rfl rfl⟩
set_option maxRecDepth 100000 in
theorem mx_okl3_48 : mx_okL 3 (152, 1, 41, 0) := ⟨by decide, mx_in 433 rfl rfl, mx_in 435 rfl rfl, mx_in 13 rfl rfl⟩
set_option maxRecDepth 100000 in
theorem mx_okl3_49 : mx_okL 3 (155, 1, 42, 0) := ⟨by decide, mx_in 445 rfl rfl, mx_in 447 rfl rfl, mx_in 16 rfl rfl⟩
set_option maxRecDepth 100000 in
theorem mx_okl3_50 : mx_okL 3 (158, 1, 37, 0) := ⟨by decide, mx_in 437 rfl rfl, mx_in 439 rfl rfl, mx_in 14 rfl rfl⟩
set_option maxRecDepth 100000 in
theorem mx_okl3 : ∀ q ∈ mx_lk 3, mx_okL 3 q := List.forall_mem_cons.mpr ⟨mx_okl3_0, List.forall_mem_cons.mpr ⟨mx_okl3_1, List.forall_mem_cons.mpr ⟨mx_okl3_2, List.forall_mem_cons.mpr ⟨mx_okl3_3, List.forall_mem_cons.mpr ⟨mx_okl3_4, List.forall_mem_cons.mpr ⟨mx_okl3_5, List.forall_mem_cons.mpr ⟨mx_okl3_6, List.forall_mem_cons.mpr ⟨mx_okl3_7, List.forall_mem_cons.mpr ⟨mx_okl3_8, List.forall_mem_cons.mpr ⟨mx_okl3_9, List.forall_mem_cons.mpr ⟨mx_okl3_10, List.forall_mem_cons.mpr ⟨mx_okl3_11, List.forall_mem_cons.mpr ⟨mx_okl3_12, List.forall_mem_cons.mpr ⟨mx_okl3_13, List.forall_mem_cons.mpr ⟨mx_okl3_14, List.forall_mem_cons.mpr ⟨mx_okl3_15, List.forall_mem_cons.mpr ⟨mx_okl3_16, List.forall_mem_cons.mpr ⟨mx_okl3_17, List.forall_mem_cons.mpr ⟨mx_okl3_18, List.forall_mem_cons.mpr ⟨mx_okl3_19, List.forall_mem_cons.mpr ⟨mx_okl3_20, List.forall_mem_cons.mpr ⟨mx_okl3_21, List.forall_mem_cons.mpr ⟨mx_okl3_22, List.forall_mem_cons.mpr ⟨mx_okl3_23, List.forall_mem_cons.mpr ⟨mx_okl3_24, List.forall_mem_cons.mpr ⟨mx_okl3_25, List.forall_mem_cons.mpr ⟨mx_okl3_26, List.forall_mem_cons.mpr ⟨mx_okl3_27, List.forall_mem_cons.mpr ⟨mx_okl3_28, List.forall_mem_cons.mpr ⟨mx_okl3_29, List.forall_mem_cons.mpr ⟨mx_okl3_30, List.forall_mem_cons.mpr ⟨mx_okl3_31, List.forall_mem_cons.mpr ⟨mx_okl3_32, List.forall_mem_cons.mpr ⟨mx_okl3_33, List.forall_mem_cons.mpr ⟨mx_okl3_34, List.forall_mem_cons.mpr ⟨mx_okl3_35, List.forall_mem_cons.mpr ⟨mx_okl3_36, List.forall_mem_cons.mpr ⟨mx_okl3_37, List.forall_mem_cons.mpr ⟨mx_okl3_38, List.forall_mem_cons.mpr ⟨mx_okl3_39, List.forall_mem_cons.mpr ⟨mx_okl3_40, List.forall_mem_cons.mpr ⟨mx_okl3_41, List.forall_mem_cons.mpr ⟨mx_okl3_42, List.forall_mem_cons.mpr ⟨mx_okl3_43, List.forall_mem_cons.mpr ⟨mx_okl3_44, List.forall_mem_cons.mpr ⟨mx_okl3_45, List.forall_mem_cons.mpr ⟨mx_okl3_46, List.forall_mem_cons.mpr ⟨mx_okl3_47, List.forall_mem_cons.mpr ⟨mx_okl3_48, List.forall_mem_cons.mpr ⟨mx_okl3_49, List.forall_mem_cons.mpr ⟨mx_okl3_50, fun _ h => absurd h List.not_mem_nil⟩⟩⟩⟩⟩⟩⟩⟩⟩⟩⟩⟩⟩⟩⟩⟩⟩⟩⟩⟩⟩⟩⟩⟩⟩⟩⟩⟩⟩⟩⟩⟩⟩⟩⟩⟩⟩⟩⟩⟩⟩⟩⟩⟩⟩⟩⟩⟩⟩⟩⟩
set_option maxRecDepth 100000 in
theorem mx_okl4_0 : mx_okL 4 (3, 27, 0, 0) := mx_in 218 rfl rfl
set_option maxRecDepth 100000 in
theorem mx_okl4_1 : mx_okL 4 (9, 8, 4, 0) := ⟨_, rfl, by decide, by decide, mx_in 219 rfl rfl⟩
set_option maxRecDepth 100000 in
theorem mx_okl4_2 : mx_okL 4 (11, 0, 400, 0) := ⟨_, rfl, by decide, rfl, mx_in 221 rfl rfl⟩
set_option maxRecDepth 100000 in
theorem mx_okl4_3 : mx_okL 4 (17, 0, 402, 0) := ⟨_, rfl, by decide, rfl, mx_in 224 rfl rfl⟩
set_option maxRecDepth 100000 in
theorem mx_okl4_4 : mx_okL 4 (21, 0, 403, 0) := ⟨_, rfl, by decide, rfl, mx_in 225 rfl rfl⟩
set_option maxRecDepth 100000 in
theorem mx_okl4_5 : mx_okL 4 (24, 0, 404, 0) := ⟨_, rfl, by decide, rfl, mx_in 226 rfl rfl⟩
set_option maxRecDepth 100000 in
theorem mx_okl4_6 : mx_okL 4 (27, 0, 401, 0) := ⟨_, rfl, by decide, rfl, mx_in 222 rfl rfl⟩
set_option maxRecDepth 100000 in
theorem mx_okl4_7 : mx_okL 4 (31, 1, 4, 0) := ⟨by decide, mx_in 567 rfl rfl, mx_in 539 rfl rfl, mx_in 540 rfl rfl⟩
set_option maxRecDepth 100000 in
theorem mx_okl4_8 : mx_okL 4 (37, 0, 201, 0) := ⟨_, rfl, by decide, rfl, mx_in 123 rfl rfl⟩
set_option maxRecDepth 100000 in
theorem mx_okl4_9 : mx_okL 4 (42, 1, 53, 0) := ⟨by decide, mx_in 568 rfl rfl, mx_in 570 rfl rfl, mx_in 17 rfl rfl⟩
set_option maxRecDepth 100000 in
theorem mx_okl4_10 : mx_okL 4 (46, 0, 5, 0) := ⟨_, rfl, by decide, rfl, mx_in 159 rfl rfl⟩
set_option maxRecDepth 100000 in
theorem mx_okl4_11 : mx_okL 4 (49, 1, 54, 0) := ⟨by decide, mx_in 576 rfl rfl, mx_in 578 rfl rfl, mx_in 18 rfl rfl⟩
set_option maxRecDepth 100000 in
theorem mx_okl4_12 : mx_okL 4 (53, 4, 130, 0) := ⟨by decide, List.mem_of_getElem? (i := 8) rfl, mx_in 457 rfl rfl⟩
set_option maxRecDepth 100000 in
theorem mx_okl4_13 : mx_okL 4 (57, 1, 16, 0) := ⟨by decide, mx_in 589 rfl rfl, mx_in 590 rfl rfl, mx_in 591 rfl rfl⟩
set_option maxRecDepth 100000 in
theorem mx_okl4_14 : mx_okL 4 (60, 1, 17, 0) := ⟨by decide, mx_in 597 rfl rfl, mx_in 598 rfl rfl, mx_in 599 rfl rfl⟩
set_option maxRecDepth 100000 in
theorem mx_okl4_15 : mx_okL 4 (63, 4, 126, 0) := ⟨by decide, List.mem_of_getElem? (i := 10) rfl, mx_in 536 rfl rfl⟩
set_option maxRecDepth 100000 in
theorem mx_okl4_16 : mx_okL 4 (67, 0, 0, 0) := ⟨_, rfl, by decide, rfl, mx_in 147 rfl rfl⟩
set_option maxRecDepth 100000 in
theorem mx_okl4_17 : mx_okL 4 (70, 0, 202, 0) := ⟨_, rfl, by decide, rfl, mx_in 130 rfl rfl⟩
set_option maxRecDepth 100000 in
theorem mx_okl4_18 : mx_okL 4 (73, 4, 127, 0) := ⟨by decide, List.mem_of_getElem? (i := 9) rfl, mx_in 603 rfl rfl⟩
set_option maxRecDepth 100000 in
theorem mx_okl4_19 : mx_okL 4 (76, 1, 46, 0) := ⟨by decide, mx_in 613 rfl rfl, mx_in 564 rfl rfl, mx_in 565 rfl rfl⟩
set_option maxRecDepth 100000 in
theorem mx_okl4_20 : mx_okL 4 (80, 1, 47, 0) := ⟨by decide, mx_in 665 rfl rfl, mx_in 594 rfl rfl, mx_in 595 rfl rfl⟩
set_option maxRecDepth 100000 in
theorem mx_okl4_21 : mx_okL 4 (83, 0, 203, 0) := ⟨_, rfl, by decide, rfl, mx_in 134 rfl rfl⟩
set_option maxRecDepth 100000 in
theorem mx_okl4_22 : mx_okL 4 (86, 21, 0, 0) := mx_in 666 rfl rfl
set_option maxRecDepth 100000 in
theorem mx_okl4_23 : mx_okL 4 (91, 1, 48, 0) := ⟨by decide, mx_in 635 rfl rfl, mx_in 636 rfl rfl, mx_in 637 rfl rfl⟩
set_option maxRecDepth 100000 in
theorem mx_okl4_24 : mx_okL 4 (95, 0, 4, 0) := ⟨_, rfl, by decide, rfl, mx_in 157 rfl rfl⟩
set_option maxRecDepth 100000 in
theorem mx_okl4_25 : mx_okL 4 (98, 0, 1, 0) := ⟨_, rfl, by decide, rfl, mx_in 150 rfl rfl⟩
set_option maxRecDepth 100000 in
theorem mx_okl4_26 : mx_okL 4 (101, 4, 128, 0) := ⟨by decide, List.mem_of_getElem? (i := 15) rfl, mx_in 649 rfl rfl⟩
set_option maxRecDepth 100000 in
theorem mx_okl4_27 : mx_okL 4 (105, 1, 9, 0) := ⟨by decide, mx_in 572 rfl rfl, mx_in 573 rfl rfl, mx_in 574 rfl rfl⟩
set_option maxRecDepth 100000 in
theorem mx_okl4_28 : mx_okL 4 (108, 1, 45, 0) := ⟨by decide, mx_in 580 rfl rfl, mx_in 581 rfl rfl, mx_in 582 rfl rfl⟩
set_option maxRecDepth 100000 in
theorem mx_okl4_29 : mx_okL 4 (112, 0, 601, 0) := ⟨_, rfl, by decide, rfl, mx_in 484 rfl rfl⟩
set_option maxRecDepth 100000 in
theorem mx_okl4_30 : mx_okL 4 (115, 20, 0, 0) := mx_in 584 rfl rfl
set_option maxRecDepth 100000 in
theorem mx_okl4_31 : mx_okL 4 (118, 0, 600, 0) := ⟨_, rfl, by decide, rfl, mx_in 482 rfl rfl⟩
set_option maxRecDepth 100000 in
theorem mx_okl4_32 : mx_okL 4 (121, 3, 55, 0) := ⟨by decide, mx_in 585 rfl rfl, mx_in 586 rfl rfl⟩
set_option maxRecDepth 100000 in
theorem mx_okl4 : ∀ q ∈ mx_lk 4, mx_okL 4 q := List.forall_mem_cons.mpr ⟨mx_okl4_0, List.forall_mem_cons.mpr ⟨mx_okl4_1, List.forall_mem_cons.mpr ⟨mx_okl4_2, List.forall_mem_cons.mpr ⟨mx_okl4_3, List.forall_mem_cons.mpr ⟨mx_okl4_4, List.forall_mem_cons.mpr ⟨mx_okl4_5, List.forall_mem_cons.mpr ⟨mx_okl4_6, List.forall_mem_cons.mpr ⟨mx_okl4_7, List.forall_mem_cons.mpr ⟨mx_okl4_8, List.forall_mem_cons.mpr ⟨mx_okl4_9, List.forall_mem_cons.mpr ⟨mx_okl4_10, List.forall_mem_cons.mpr ⟨mx_okl4_11, List.forall_mem_cons.mpr ⟨mx_okl4_12, List.forall_mem_cons.mpr ⟨mx_okl4_13, List.forall_mem_cons.mpr ⟨mx_okl4_14, List.forall_mem_cons.mpr ⟨mx_okl4_15, List.forall_mem_cons.mpr ⟨mx_okl4_16, List.forall_mem_cons.mpr ⟨mx_okl4_17, List.forall_mem_cons.mpr ⟨mx_okl4_18, List.forall_mem_cons.mpr ⟨mx_okl4_19, List.forall_mem_cons.mpr ⟨mx_okl4_20, List.forall_mem_cons.mpr ⟨mx_okl4_21, List.forall_mem_cons.mpr ⟨mx_okl4_22, List.forall_mem_cons.mpr ⟨mx_okl4_23, List.forall_mem_cons.mpr ⟨mx_okl4_24, List.forall_mem_cons.mpr ⟨mx_okl4_25, List.forall_mem_cons.mpr ⟨mx_okl4_26, List.forall_mem_cons.mpr ⟨mx_okl4_27, List.forall_mem_cons.mpr ⟨mx_okl4_28, List.forall_mem_cons.mpr ⟨mx_okl4_29, List.forall_mem_cons.mpr ⟨mx_okl4_30, List.forall_mem_cons.mpr ⟨mx_okl4_31, List.forall_mem_cons.mpr ⟨mx_okl4_32, fun _ h => absurd h List.not_mem_nil⟩⟩⟩⟩⟩⟩⟩⟩⟩⟩⟩⟩⟩⟩⟩⟩⟩⟩⟩⟩⟩⟩⟩⟩⟩⟩⟩⟩⟩⟩⟩⟩⟩
set_option maxRecDepth 100000 in
theorem mx_okl5_0 : mx_okL 5 (3, 27, 0, 0) := mx_in 289 rfl rfl
set_option maxRecDepth 100000 in
theorem mx_okl5_1 : mx_okL 5 (9, 0, 500, 0) := ⟨_, rfl, by decide, rfl, mx_in 290 rfl rfl⟩
set_option maxRecDepth 100000 in
theorem mx_okl5_2 : mx_okL 5 (15, 0, 501, 0) := ⟨_, rfl, by decide, rfl, mx_in 292 rfl rfl⟩
set_option maxRecDepth 100000 in
theorem mx_okl5_3 : mx_okL 5 (19, 4, 130, 0) := ⟨by decide, List.mem_of_getElem? (i := 20) rfl, mx_in 457 rfl rfl⟩
set_option maxRecDepth 100000 in
theorem mx_okl5_4 : mx_okL 5 (23, 0, 502, 0) := ⟨_, rfl, by decide, rfl, mx_in 294 rfl rfl⟩
set_option maxRecDepth 100000 in
theorem mx_okl5_5 : mx_okL 5 (26, 1, 59, 0) := ⟨by decide, mx_in 760 rfl rfl, mx_in 761 rfl rfl, mx_in 762 rfl rfl⟩
set_option maxRecDepth 100000 in
theorem mx_okl5_6 : mx_okL 5 (30, 4, 126, 0) := ⟨by decide, List.mem_of_getElem? (i := 16) rfl, mx_in 536 rfl rfl⟩
set_option maxRecDepth 100000 in
theorem mx_okl5_7 : mx_okL 5 (34, 4, 129, 0) := ⟨by decide, List.mem_of_getElem? (i := 17) rfl, mx_in 680 rfl rfl⟩
set_option maxRecDepth 100000 in
theorem mx_okl5_8 : mx_okL 5 (38, 4, 128, 0) := ⟨by decide, List.mem_of_getElem? (i := 18) rfl, mx_in 649 rfl rfl⟩
set_option maxRecDepth 100000 in
theorem mx_okl5 : ∀ q ∈ mx_lk 5, mx_okL 5 q := List.forall_mem_cons.mpr ⟨mx_okl5_0, List.forall_mem_cons.mpr ⟨mx_okl5_1, List.forall_mem_cons.mpr ⟨mx_okl5_2, List.forall_mem_cons.mpr ⟨mx_okl5_3, List.forall_mem_cons.mpr ⟨mx_okl5_4, List.forall_mem_cons.mpr ⟨mx_okl5_5, List.forall_mem_cons.mpr ⟨mx_okl5_6, List.forall_mem_cons.mpr ⟨mx_okl5_7, List.forall_mem_cons.mpr ⟨mx_okl5_8, fun _ h => absurd h List.not_mem_nil⟩⟩⟩⟩⟩⟩⟩⟩⟩
set_option maxRecDepth 100000 in
theorem mx_okl6_0 : mx_okL 6 (1, 27, 0, 0) := mx_in 480 rfl rfl
set_option maxRecDepth 100000 in
theorem mx_okl6_1 : mx_okL 6 (7, 0, 600, 0) := ⟨_, rfl, by decide, rfl, mx_in 481 rfl rfl⟩
set_option maxRecDepth 100000 in
theorem mx_okl6_2 : mx_okL 6 (13, 0, 601, 0) := ⟨_, rfl, by decide, rfl, mx_in 483 rfl rfl⟩
set_option maxRecDepth 100000 in
theorem mx_okl6 : ∀ q ∈ mx_lk 6, mx_okL 6 q := List.forall_mem_cons.mpr ⟨mx_okl6_0, List.forall_mem_cons.mpr ⟨mx_okl6_1, List.forall_mem_cons.mpr ⟨mx_okl6_2, fun _ h => absurd h List.not_mem_nil⟩⟩⟩
set_option maxRecDepth 100000 in
theorem mx_okl7_0 : mx_okL 7 (3, 27, 0, 0) := mx_in 258 rfl rfl
set_option maxRecDepth 100000 in
theorem mx_okl7_1 : mx_okL 7 (9, 0, 700, 0) := ⟨_, rfl, by decide, rfl, mx_in 259 rfl rfl⟩
set_option maxRecDepth 100000 in
theorem mx_okl7_2 : mx_okL 7 (15, 0, 702, 0) := ⟨_, rfl, by decide, rfl, mx_in 261 rfl rfl⟩
set_option maxRecDepth 100000 in
theorem mx_okl7_3 : mx_okL 7 (18, 0, 703, 0) := ⟨_, rfl, by decide, rfl, mx_in 262 rfl rfl⟩
set_option maxRecDepth 100000 in
theorem mx_okl7_4 : mx_okL 7 (21, 0, 704, 0) := ⟨_, rfl, by decide, rfl, mx_in 263 rfl rfl⟩
set_option maxRecDepth 100000 in
theorem mx_okl7_5 : mx_okL 7 (24, 0, 701, 0) := ⟨_, rfl, by decide, rfl, mx_in 260 rfl rfl⟩
set_option maxRecDepth 100000 in
theorem mx_okl7_6 : mx_okL 7 (28, 1, 5, 0) := ⟨by decide, mx_in 776 rfl rfl, mx_in 777 rfl rfl, mx_in 778 rfl rfl⟩
set_option maxRecDepth 100000 in
theorem mx_okl7_7 : mx_okL 7 (34, 1, 66, 0) := ⟨by decide, mx_in 784 rfl rfl, mx_in 786 rfl rfl, mx_in 22 rfl rfl⟩
set_option maxRecDepth 100000 in
theorem mx_okl7_8 : mx_okL 7 (38, 1, 75, 0) := ⟨by decide, mx_in 799 rfl rfl, mx_in 801 rfl rfl, mx_in 25 rfl rfl⟩
set_option maxRecDepth 100000 in
theorem mx_okl7_9 : mx_okL 7 (42, 0, 705, 0) := ⟨_, rfl, by decide, rfl, mx_in 264 rfl rfl⟩
set_option maxRecDepth 100000 in
theorem mx_okl7_10 : mx_okL 7 (45, 0, 706, 0) := ⟨_, rfl, by decide, rfl, mx_in 266 rfl rfl⟩
set_option maxRecDepth 100000 in
theorem mx_okl7_11 : mx_okL 7 (48, 0, 202, 0) := ⟨_, rfl, by decide, rfl, mx_in 128 rfl rfl⟩
set_option maxRecDepth 100000 in
theorem mx_okl7_12 : mx_okL 7 (53, 1, 73, 0) := ⟨by decide, mx_in 789 rfl rfl, mx_in 791 rfl rfl, mx_in 23 rfl rfl⟩
set_option maxRecDepth 100000 in
theorem mx_okl7_13 : mx_okL 7 (57, 4, 127, 0) := ⟨by decide, List.mem_of_getElem? (i := 19) rfl, mx_in 603 rfl rfl⟩
set_option maxRecDepth 100000 in
theorem mx_okl7_14 : mx_okL 7 (60, 1, 74, 0) := ⟨by decide, mx_in 794 rfl rfl, mx_in 796 rfl rfl, mx_in 24 rfl rfl⟩
set_option maxRecDepth 100000 in
theorem mx_okl7_15 : mx_okL 7 (63, 1, 46, 0) := ⟨by decide, mx_in 803 rfl rfl, mx_in 564 rfl rfl, mx_in 565 rfl rfl⟩
set_option maxRecDepth 100000 in
theorem mx_okl7_16 : mx_okL 7 (69, 9, 0, 1000000) := mx_in 788 rfl rfl
set_option maxRecDepth 100000 in
theorem mx_okl7_17 : mx_okL 7 (70, 21, 0, 0) := mx_in 798 rfl rfl
set_option maxRecDepth 100000 in
theorem mx_okl7_18 : mx_okL 7 (75, 0, 3, 0) := ⟨_, rfl, by decide, rfl, mx_in 153 rfl rfl⟩
set_option maxRecDepth 100000 in
theorem mx_okl7_19 : mx_okL 7 (78, 1, 68, 0) := ⟨by decide, mx_in 812 rfl rfl, mx_in 814 rfl rfl, mx_in 26 rfl rfl⟩
set_option maxRecDepth 100000 in
theorem mx_okl7_20 : mx_okL 7 (82, 3, 212, 0) := ⟨by decide, mx_in 818 rfl rfl, mx_in 819 rfl rfl⟩
set_option maxRecDepth 100000 in
theorem mx_okl7_21 : mx_okL 7 (87, 1, 69, 0) := ⟨by decide, mx_in 824 rfl rfl, mx_in 826 rfl rfl, mx_in 27 rfl rfl⟩
set_option maxRecDepth 100000 in
theorem mx_okl7_22 : mx_okL 7 (90, 1, 71, 0) := ⟨by decide, mx_in 832 rfl rfl, mx_in 834 rfl rfl, mx_in 29 rfl rfl⟩
set_option maxRecDepth 100000 in
theorem mx_okl7_23 : mx_okL 7 (94, 1, 2, 0) := ⟨by decide, mx_in 816 rfl rfl, mx_in 544 rfl rfl, mx_in 545 rfl rfl⟩
set_option maxRecDepth 100000 in
theorem mx_okl7_24 : mx_okL 7 (98, 1, 49, 0) := ⟨by decide, mx_in 817 rfl rfl, mx_in 609 rfl rfl, mx_in 610 rfl rfl⟩
set_option maxRecDepth 100000 in
theorem mx_okl7_25 : mx_okL 7 (101, 1, 70, 0) := ⟨by decide, mx_in 828 rfl rfl, mx_in 830 rfl rfl, mx_in 28 rfl rfl⟩
set_option maxRecDepth 100000 in
theorem mx_okl7 : ∀ q ∈ mx_lk 7, mx_okL 7 q := List.forall_mem_cons.mpr ⟨mx_okl7_0, List.forall_mem_cons.mpr ⟨mx_okl7_1, List.forall_mem_cons.mpr ⟨mx_okl7_2, List.forall_mem_cons.mpr ⟨mx_okl7_3, List.forall_mem_cons.mpr ⟨mx_okl7_4, List.forall_mem_cons.mpr ⟨mx_okl7_5, List.forall_mem_cons.mpr ⟨mx_okl7_6, List.forall_mem_cons.mpr ⟨mx_okl7_7, List.forall_mem_cons.mpr ⟨mx_okl7_8, List.forall_mem_cons.mpr ⟨mx_okl7_9, List.forall_mem_cons.mpr ⟨mx_okl7_10, List.forall_mem_cons.mpr ⟨mx_okl7_11, List.forall_mem_cons.mpr ⟨mx_okl7_12, List.forall_mem_cons.mpr ⟨mx_okl7_13, List.forall_mem_cons.mpr ⟨mx_okl7_14, List.forall_mem_cons.mpr ⟨mx_okl7_15, List.forall_mem_cons.mpr ⟨mx_okl7_16, List.forall_mem_cons.mpr ⟨mx_okl7_17, List.forall_mem_cons.mpr ⟨mx_okl7_18, List.forall_mem_cons.mpr ⟨mx_okl7_19, List.forall_mem_cons.mpr ⟨mx_okl7_20, List.forall_mem_cons.mpr ⟨mx_okl7_21, List.forall_mem_cons.mpr ⟨mx_okl7_22, List.forall_mem_cons.mpr ⟨mx_okl7_23, List.forall_mem_cons.mpr ⟨mx_okl7_24, List.forall_mem_cons.mpr ⟨mx_okl7_25, fun _ h => absurd h List.not_mem_nil⟩⟩⟩⟩⟩⟩⟩⟩⟩⟩⟩⟩⟩⟩⟩⟩⟩⟩⟩⟩⟩⟩⟩⟩⟩⟩
set_option maxRecDepth 100000 in
theorem mx_okl8_0 : mx_okL 8 (1, 27, 0, 0) := mx_in 102 rfl rfl
set_option maxRecDepth 100000 in
theorem mx_okl8_1 : mx_okL 8 (7, 7, 0, 0) := ⟨_, rfl, mx_in 105 rfl rfl, mx_in 106 rfl rfl, mx_in 80 rfl rfl⟩
set_option maxRecDepth 100000 in
theorem mx_okl8_2 : mx_okL 8 (9, 5, 0, 0) := ⟨by decide, mx_in 107 rfl rfl, mx_in 108 rfl rfl, rfl⟩
set_option maxRecDepth 100000 in
theorem mx_okl8_3 : mx_okL 8 (10, 0, 800, 0) := ⟨_, rfl, by decide, rfl, mx_in 499 rfl rfl⟩
set_option maxRecDepth 100000 in
theorem mx_okl8_4 : mx_okL 8 (16, 0, 801, 0) := ⟨_, rfl, by decide, rfl, mx_in 500 rfl rfl⟩
set_option maxRecDepth 100000 in
theorem mx_okl8_5 : mx_okL 8 (19, 0, 802, 0) := ⟨_, rfl, by decide, rfl, mx_in 501 rfl rfl⟩
set_option maxRecDepth 100000 in
theorem mx_okl8_6 : mx_okL 8 (22, 0, 803, 0) := ⟨_, rfl, by decide, rfl, mx_in 502 rfl rfl⟩
set_option maxRecDepth 100000 in
theorem mx_okl8_7 : mx_okL 8 (26, 7, 3, 0) := ⟨_, rfl, mx_in 174 rfl rfl, mx_in 175 rfl rfl, mx_in 82 rfl rfl⟩
set_option maxRecDepth 100000 in
theorem mx_okl8_8 : mx_okL 8 (28, 6, 18, 0) := ⟨by decide, List.mem_of_getElem? (i := 1) rfl, mx_in 177 rfl rfl, rfl⟩
set_option maxRecDepth 100000 in
theorem mx_okl8_9 : mx_okL 8 (29, 0, 804, 0) := ⟨_, rfl, by decide, rfl, mx_in 503 rfl rfl⟩
set_option maxRecDepth 100000 in
theorem mx_okl8_10 : mx_okL 8 (33, 7, 4, 0) := ⟨_, rfl, mx_in 213 rfl rfl, mx_in 214 rfl rfl, mx_in 83 rfl rfl⟩
set_option maxRecDepth 100000 in
theorem mx_okl8_11 : mx_okL 8 (35, 6, 43, 0) := ⟨by decide, List.mem_of_getElem? (i := 2) rfl, mx_in 216 rfl rfl, rfl⟩
set_option maxRecDepth 100000 in
theorem mx_okl8_12 : mx_okL 8 (36, 0, 805, 0) := ⟨_, rfl, by decide, rfl, mx_in 504 rfl rfl⟩
set_option maxRecDepth 100000 in
theorem mx_okl8_13 : mx_okL 8 (40, 7, 1, 0) := ⟨_, rfl, mx_in 238 rfl rfl, mx_in 239 rfl rfl, mx_in 84 rfl rfl⟩
set_option maxRecDepth 100000 in
theorem mx_okl8_14 : mx_okL 8 (42, 6, 12, 0) := ⟨by decide, List.mem_of_getElem? (i := 3) rfl, mx_in 241 rfl rfl, rfl⟩
set_option maxRecDepth 100000 in
theorem mx_okl8_15 : mx_okL 8 (43, 0, 806, 0) := ⟨_, rfl, by decide, rfl, mx_in 505 rfl rfl⟩
set_option maxRecDepth 100000 in
theorem mx_okl8_16 : mx_okL 8 (47, 7, 7, 0) := ⟨_, rfl, mx_in 253 rfl rfl, mx_in 254 rfl rfl, mx_in 85 rfl rfl⟩
set_option maxRecDepth 100000 in
theorem mx_okl8_17 : mx_okL 8 (49, 6, 63, 0) := ⟨by decide, List.mem_of_getElem? (i := 4) rfl, mx_in 256 rfl rfl, rfl⟩
set_option maxRecDepth 100000 in
theorem mx_okl8_18 : mx_okL 8 (50, 0, 807, 0) := ⟨_, rfl, by decide, rfl, mx_in 506 rfl rfl⟩
set_option maxRecDepth 100000 in
theorem mx_okl8_19 : mx_okL 8 (54, 7, 5, 0) := ⟨_, rfl, mx_in 283 rfl rfl, mx_in 285 rfl rfl, mx_in 86 rfl rfl⟩
set_option maxRecDepth 100000 in
theorem mx_okl8_20 : mx_okL 8 (54, 8, 5, 0) := ⟨_, rfl, by decide, by decide, mx_in 283 rfl rfl⟩
set_option maxRecDepth 100000 in
theorem mx_okl8_21 : mx_okL 8 (56, 0, 808, 0) := ⟨_, rfl, by decide, rfl, mx_in 507 rfl rfl⟩
set_option maxRecDepth 100000 in
theorem mx_okl8_22 : mx_okL 8 (60, 6, 56, 0) := ⟨by decide, List.mem_of_getElem? (i := 5) rfl, mx_in 287 rfl rfl, rfl⟩
set_option maxRecDepth 100000 in
theorem mx_okl8_23 : mx_okL 8 (61, 11, 1, 0) := ⟨_, rfl, by decide, rfl, rfl⟩
set_option maxRecDepth 100000 in
theorem mx_okl8_24 : mx_okL 8 (63, 25, 0, 0) := mx_in 305 rfl rfl
set_option maxRecDepth 100000 in
theorem mx_okl8_25 : mx_okL 8 (69, 26, 0, 0) := mx_in 315 rfl rfl
set_option maxRecDepth 100000 in
theorem mx_okl8_26 : mx_okL 8 (73, 1, 19, 0) := ⟨by decide, mx_in 353 rfl rfl, mx_in 354 rfl rfl, mx_in 355 rfl rfl⟩
set_option maxRecDepth 100000 in
theorem mx_okl8_27 : mx_okL 8 (77, 1, 22, 0) := ⟨by decide, mx_in 357 rfl rfl, mx_in 358 rfl rfl, mx_in 359 rfl rfl⟩
set_option maxRecDepth 100000 in
theorem mx_okl8_28 : mx_okL 8 (80, 1, 21, 0) := ⟨by decide, mx_in 452 rfl rfl, mx_in 453 rfl rfl, mx_in 454 rfl rfl⟩
set_option maxRecDepth 100000 in
theorem mx_okl8_29 : mx_okL 8 (84, 1, 44, 0) := ⟨by decide, mx_in 491 rfl rfl, mx_in 492 rfl rfl, mx_in 493 rfl rfl⟩
set_option maxRecDepth 100000 in
theorem mx_okl8_30 : mx_okL 8 (88, 1, 20, 0) := ⟨by decide, mx_in 495 rfl rfl, mx_in 496 rfl rfl, mx_in 497 rfl rfl⟩
set_option maxRecDepth 100000 in
theorem mx_okl8_31 : mx_okL 8 (91, 1, 80, 0) := ⟨by decide, mx_in 531 rfl rfl, mx_in 532 rfl rfl, mx_in 533 rfl rfl⟩
set_option maxRecDepth 100000 in
theorem mx_okl8_32 : mx_okL 8 (95, 3, 78, 0) := ⟨by decide, mx_in 547 rfl rfl, mx_in 548 rfl rfl⟩
set_option maxRecDepth 100000 in
theorem mx_okl8_33 : mx_okL 8 (98, 1, 2, 0) := ⟨by decide, mx_in 543 rfl rfl, mx_in 544 rfl rfl, mx_in 545 rfl rfl⟩
set_option maxRecDepth 100000 in
theorem mx_okl8_34 : mx_okL 8 (102, 0, 4, 0) := ⟨_, rfl, by decide, rfl, mx_in 155 rfl rfl⟩
set_option maxRecDepth 100000 in
theorem mx_okl8_35 : mx_okL 8 (106, 3, 126, 0) := ⟨by decide, mx_in 535 rfl rfl, mx_in 536 rfl rfl⟩
set_option maxRecDepth 100000 in
theorem mx_okl8_36 : mx_okL 8 (110, 0, 0, 0) := ⟨_, rfl, by decide, rfl, mx_in 146 rfl rfl⟩
set_option maxRecDepth 100000 in
theorem mx_okl8_37 : mx_okL 8 (114, 0, 1, 0) := ⟨_, rfl, by decide, rfl, mx_in 149 rfl rfl⟩
set_option maxRecDepth 100000 in
theorem mx_okl8_38 : mx_okL 8 (117, 0, 201, 0) := ⟨_, rfl, by decide, rfl, mx_in 122 rfl rfl⟩
set_option maxRecDepth 100000 in
theorem mx_okl8_39 : mx_okL 8 (122, 0, 202, 0) := ⟨_, rfl, by decide, rfl, mx_in 127 rfl rfl⟩
set_option maxRecDepth 100000 in
theorem mx_okl8_40 : mx_okL 8 (125, 1, 3, 0) := ⟨by decide, mx_in 554 rfl rfl, mx_in 555 rfl rfl, mx_in 556 rfl rfl⟩
set_option maxRecDepth 100000 in
theorem mx_okl8_41 : mx_okL 8 (129, 1, 4, 0) := ⟨by decide, mx_in 538 rfl rfl, mx_in 539 rfl rfl, mx_in 540 rfl rfl⟩
set_option maxRecDepth 100000 in
theorem mx_okl8_42 : mx_okL 8 (132, 0, 200, 0) := ⟨_, rfl, by decide, rfl, mx_in 120 rfl rfl⟩
set_option maxRecDepth 100000 in
theorem mx_okl8_43 : mx_okL 8 (135, 0, 203, 0) := ⟨_, rfl, by decide, rfl, mx_in 133 rfl rfl⟩
set_option maxRecDepth 100000 in
theorem mx_okl8_44 : mx_okL 8 (138, 1, 46, 0) := ⟨by decide, mx_in 563 rfl rfl, mx_in 564 rfl rfl, mx_in 565 rfl rfl⟩
set_option maxRecDepth 100000 in
theorem mx_okl8_45 : mx_okL 8 (142, 1, 47, 0) := ⟨by decide, mx_in 593 rfl rfl, mx_in 594 rfl rfl, mx_in 595 rfl rfl⟩
set_option maxRecDepth 100000 in
theorem mx_okl8_46 : mx_okL 8 (145, 3, 127, 0) := ⟨by decide, mx_in 602 rfl rfl, mx_in 603 rfl rfl⟩
set_option maxRecDepth 100000 in
theorem mx_okl8_47 : mx_okL 8 (148, 1, 49, 0) := ⟨by decide, mx_in 608 rfl rfl, mx_in 609 rfl rfl, mx_in 610 rfl rfl⟩
set_option maxRecDepth 100000 in
theorem mx_okl8_48 : mx_okL 8 (151, 0, 401, 0) := ⟨_, rfl, by decide, rfl, mx_in 223 rfl rfl⟩
set_option maxRecDepth 100000 in
theorem mx_okl8_49 : mx_okL 8 (154, 0, 309, 0) := ⟨_, rfl, by decide, rfl, mx_in 191 rfl rfl⟩
set_option maxRecDepth 100000 in
theorem mx_okl8_50 : mx_okL 8 (157, 1, 45, 0) := ⟨by decide, mx_in 626 rfl rfl, mx_in 581 rfl rfl, mx_in 582 rfl rfl⟩
set_option maxRecDepth 100000 in
theorem mx_okl8_51 : mx_okL 8 (161, 0, 5, 0) := ⟨_, rfl, by decide, rfl, mx_in 160 rfl rfl⟩
set_option maxRecDepth 100000 in
theorem mx_okl8_52 : mx_okL 8 (164, 1, 51, 0) := ⟨by decide, mx_in 631 rfl rfl, mx_in 632 rfl rfl, mx_in 633 rfl rfl⟩
set_option maxRecDepth 100000 in
theorem mx_okl8_53 : mx_okL 8 (168, 1, 6, 0) := ⟨by decide, mx_in 640 rfl rfl, mx_in 641 rfl rfl, mx_in 642 rfl rfl⟩
set_option maxRecDepth 100000 in
theorem mx_okl8_54 : mx_okL 8 (171, 1, 50, 0) := ⟨by decide, mx_in 661 rfl rfl, mx_in 662 rfl rfl, mx_in 663 rfl rfl⟩
set_option maxRecDepth 100000 in
theorem mx_okl8_55 : mx_okL 8 (174, 1, 13, 0) := ⟨by decide, mx_in 671 rfl rfl, mx_in 672 rfl rfl, mx_in 673 rfl rfl⟩
set_option maxRecDepth 100000 in
theorem mx_okl8_56 : mx_okL 8 (178, 0, 101, 0) := ⟨_, rfl, by decide, rfl, mx_in 247 rfl rfl⟩
set_option maxRecDepth 100000 in
theorem mx_okl8_57 : mx_okL 8 (181, 1, 1, 0) := ⟨by decide, mx_in 691 rfl rfl, mx_in 692 rfl rfl, mx_in 693 rfl rfl⟩
set_option maxRecDepth 100000 in
theorem mx_okl8_58 : mx_okL 8 (185, 0, 100, 0) := ⟨_, rfl, by decide, rfl, mx_in 245 rfl rfl⟩
set_option maxRecDepth 100000 in
theorem mx_okl8_59 : mx_okL 8 (188, 1, 7, 0) := ⟨by decide, mx_in 704 rfl rfl, mx_in 645 rfl rfl, mx_in 646 rfl rfl⟩
set_option maxRecDepth 100000 in
theorem mx_okl8_60 : mx_okL 8 (192, 3, 93, 0) := ⟨by decide, mx_in 705 rfl rfl, mx_in 706 rfl rfl⟩
set_option maxRecDepth 100000 in
theorem mx_okl8_61 : mx_okL 8 (196, 10, 0, (-4611686018427387904)) := mx_in 714 rfl rfl
set_option maxRecDepth 100000 in
theorem mx_okl8_62 : mx_okL 8 (198, 1, 52, 0) := ⟨by decide, mx_in 715 rfl rfl, mx_in 716 rfl rfl, mx_in 717 rfl rfl⟩
set_option maxRecDepth 100000 in
theorem mx_okl8_63 : mx_okL 8 (202, 3, 91, 0) := ⟨by decide, mx_in 724 rfl rfl, mx_in 725 rfl rfl⟩
set_option maxRecDepth 100000 in
theorem mx_okl8_64 : mx_okL 8 (206, 3, 92, 0) := ⟨by decide, mx_in 728 rfl rfl, mx_in 729 rfl rfl⟩
set_option maxRecDepth 100000 in
theorem mx_okl8_65 : mx_okL 8 (209, 1, 95, 0) := ⟨by decide, mx_in 732 rfl rfl, mx_in 734 rfl rfl, mx_in 19 rfl rfl⟩
set_option maxRecDepth 100000 in
theorem mx_okl8_66 : mx_okL 8 (212, 1, 96, 0) := ⟨by decide, mx_in 736 rfl rfl, mx_in 738 rfl rfl, mx_in 20 rfl rfl⟩
set_option maxRecDepth 100000 in
theorem mx_okl8_67 : mx_okL 8 (215, 1, 8, 0) := ⟨by decide, mx_in 740 rfl rfl, mx_in 741 rfl rfl, mx_in 742 rfl rfl⟩
set_option maxRecDepth 100000 in
theorem mx_okl8_68 : mx_okL 8 (218, 3, 129, 0) := ⟨by decide, mx_in 708 rfl rfl, mx_in 680 rfl rfl⟩
set_option maxRecDepth 100000 in
theorem mx_okl8_69 : mx_okL 8 (222, 10, 0, (-1)) := mx_in 727 rfl rfl
set_option maxRecDepth 100000 in
theorem mx_okl8_70 : mx_okL 8 (224, 3, 213, 0) := ⟨by decide, mx_in 731 rfl rfl, mx_in 652 rfl rfl⟩
set_option maxRecDepth 100000 in
theorem mx_okl8_71 : mx_okL 8 (229, 20, 0, 0) := mx_in 462 rfl rfl
set_option maxRecDepth 100000 in
theorem mx_okl8_72 : mx_okL 8 (234, 3, 128, 0) := ⟨by decide, mx_in 682 rfl rfl, mx_in 649 rfl rfl⟩
set_option maxRecDepth 100000 in
theorem mx_okl8_73 : mx_okL 8 (238, 3, 94, 0) := ⟨by decide, mx_in 709 rfl rfl, mx_in 710 rfl rfl⟩
set_option maxRecDepth 100000 in
theorem mx_okl8_74 : mx_okL 8 (242, 10, 0, (-34905131041)) := mx_in 712 rfl rfl
set_option maxRecDepth 100000 in
theorem mx_okl8_75 : mx_okL 8 (244, 10, 0, (-1090785346)) := mx_in 713 rfl rfl
set_option maxRecDepth 100000 in
theorem mx_okl8_76 : mx_okL 8 (246, 1, 125, 0) := ⟨by decide, mx_in 748 rfl rfl, mx_in 750 rfl rfl, mx_in 21 rfl rfl⟩
set_option maxRecDepth 100000 in
theorem mx_okl8_77 : mx_okL 8 (250, 1, 57, 0) := ⟨by decide, mx_in 752 rfl rfl, mx_in 753 rfl rfl, mx_in 754 rfl rfl⟩
set_option maxRecDepth 100000 in
theorem mx_okl8_78 : mx_okL 8 (254, 1, 61, 0) := ⟨by decide, mx_in 756 rfl rfl, mx_in 757 rfl rfl, mx_in 758 rfl rfl⟩
set_option maxRecDepth 100000 in
theorem mx_okl8_79 : mx_okL 8 (257, 0, 502, 0) := ⟨_, rfl, by decide, rfl, mx_in 296 rfl rfl⟩
set_option maxRecDepth 100000 in
theorem mx_okl8_80 : mx_okL 8 (260, 1, 59, 0) := ⟨by decide, mx_in 767 rfl rfl, mx_in 761 rfl rfl, mx_in 762 rfl rfl⟩
set_option maxRecDepth 100000 in
theorem mx_okl8_81 : mx_okL 8 (263, 1, 64, 0) := ⟨by decide, mx_in 772 rfl rfl, mx_in 773 rfl rfl, mx_in 774 rfl rfl⟩
set_option maxRecDepth 100000 in
theorem mx_okl8_82 : mx_okL 8 (267, 1, 65, 0) := ⟨by decide, mx_in 780 rfl rfl, mx_in 781 rfl rfl, mx_in 782 rfl rfl⟩
set_option maxRecDepth 100000 in
theorem mx_okl8_83 : mx_okL 8 (271, 0, 705, 0) := ⟨_, rfl, by decide, rfl, mx_in 265 rfl rfl⟩
set_option maxRecDepth 100000 in
theorem mx_okl8_84 : mx_okL 8 (274, 0, 706, 0) := ⟨_, rfl, by decide, rfl, mx_in 267 rfl rfl⟩
set_option maxRecDepth 100000 in
theorem mx_okl8_85 : mx_okL 8 (277, 1, 67, 0) := ⟨by decide, mx_in 808 rfl rfl, mx_in 809 rfl rfl, mx_in 810 rfl rfl⟩
set_option maxRecDepth 100000 in
theorem mx_okl8_86 : mx_okL 8 (281, 1, 72, 0) := ⟨by decide, mx_in 836 rfl rfl, mx_in 837 rfl rfl, mx_in 838 rfl rfl⟩
set_option maxRecDepth 100000 in
theorem mx_okl8_87 : mx_okL 8 (284, 1, 5, 0) := ⟨by decide, mx_in 848 rfl rfl, mx_in 777 rfl rfl, mx_in 778 rfl rfl⟩
set_option maxRecDepth 100000 in
theorem mx_okl8_88 : mx_okL 8 (287, 3, 102, 0) := ⟨by decide, mx_in 849 rfl rfl, mx_in 850 rfl rfl⟩
set_option maxRecDepth 100000 in
theorem mx_okl8_89 : mx_okL 8 (291, 3, 103, 0) := ⟨by decide, mx_in 852 rfl rfl, mx_in 853 rfl rfl⟩
set_option maxRecDepth 100000 in
theorem mx_okl8_90 : mx_okL 8 (294, 1, 105, 0) := ⟨by decide, mx_in 859 rfl rfl, mx_in 861 rfl rfl, mx_in 30 rfl rfl⟩
set_option maxRecDepth 100000 in
theorem mx_okl8_91 : mx_okL 8 (298, 1, 106, 0) := ⟨by decide, mx_in 863 rfl rfl, mx_in 865 rfl rfl, mx_in 31 rfl rfl⟩
set_option maxRecDepth 100000 in
theorem mx_okl8_92 : mx_okL 8 (301, 1, 107, 0) := ⟨by decide, mx_in 867 rfl rfl, mx_in 869 rfl rfl, mx_in 32 rfl rfl⟩
set_option maxRecDepth 100000 in
theorem mx_okl8_93 : mx_okL 8 (304, 1, 108, 0) := ⟨by decide, mx_in 871 rfl rfl, mx_in 873 rfl rfl, mx_in 33 rfl rfl⟩
set_option maxRecDepth 100000 in
theorem mx_okl8_94 : mx_okL 8 (307, 1, 109, 0) := ⟨by decide, mx_in 875 rfl rfl, mx_in 877 rfl rfl, mx_in 34 rfl rfl⟩
set_option maxRecDepth 100000 in
theorem mx_okl8_95 : mx_okL 8 (310, 1, 110, 0) := ⟨by decide, mx_in 879 rfl rfl, mx_in 881 rfl rfl, mx_in 35 rfl rfl⟩
set_option maxRecDepth 100000 in
theorem mx_okl8_96 : mx_okL 8 (313, 1, 111, 0) := ⟨by decide, mx_in 883 rfl rfl, mx_in 885 rfl rfl, mx_in 36 rfl rfl⟩
set_option maxRecDepth 100000 in
theorem mx_okl8_97 : mx_okL 8 (317, 1, 11, 0) := ⟨by decide, mx_in 887 rfl rfl, mx_in 888 rfl rfl, mx_in 889 rfl rfl⟩
set_option maxRecDepth 100000 in
theorem mx_okl8_98 : mx_okL 8 (321, 1, 58, 0) := ⟨by decide, mx_in 896 rfl rfl, mx_in 897 rfl rfl, mx_in 898 rfl rfl⟩
set_option maxRecDepth 100000 in
theorem mx_okl8_99 : mx_okL 8 (324, 1, 60, 0) := ⟨by decide, mx_in 901 rfl rfl, mx_in 902 rfl rfl, mx_in 903 rfl rfl⟩
set_option maxRecDepth 100000 in
theorem mx_okl8_100 : mx_okL 8 (327, 3, 114, 0) := ⟨by decide, mx_in 909 rfl rfl, mx_in 910 rfl rfl⟩
set_option maxRecDepth 100000 in
theorem mx_okl8_101 : mx_okL 8 (330, 9, 0, 1103515245) := mx_in 912 rfl rfl
set_option maxRecDepth 100000 in
theorem mx_okl8_102 : mx_okL 8 (331, 0, 3, 0) := ⟨_, rfl, by decide, rfl, mx_in 154 rfl rfl⟩
set_option maxRecDepth 100000 in
theorem mx_okl8_103 : mx_okL 8 (332, 0, 301, 0) := ⟨_, rfl, by decide, rfl, mx_in 182 rfl rfl⟩
set_option maxRecDepth 100000 in
theorem mx_okl8_104 : mx_okL 8 (333, 0, 501, 0) := ⟨_, rfl, by decide, rfl, mx_in 293 rfl rfl⟩
set_option maxRecDepth 100000 in
theorem mx_okl8_105 : mx_okL 8 (336, 0, 500, 0) := ⟨_, rfl, by decide, rfl, mx_in 291 rfl rfl⟩
set_option maxRecDepth 100000 in
theorem mx_okl8_106 : mx_okL 8 (339, 23, 0, 0) := mx_in 941 rfl rfl
set_option maxRecDepth 100000 in
theorem mx_okl8_107 : mx_okL 8 (345, 1, 79, 0) := ⟨by decide, mx_in 946 rfl rfl, mx_in 551 rfl rfl, mx_in 552 rfl rfl⟩
set_option maxRecDepth 100000 in
theorem mx_okl8_108 : mx_okL 8 (348, 3, 124, 0) := ⟨by decide, mx_in 951 rfl rfl, mx_in 952 rfl rfl⟩
set_option maxRecDepth 100000 in
theorem mx_okl8_109 : mx_okL 8 (351, 22, 0, 0) := mx_in 605 rfl rfl
set_option maxRecDepth 100000 in
theorem mx_okl8_110 : mx_okL 8 (354, 21, 0, 0) := mx_in 459 rfl rfl
set_option maxRecDepth 100000 in
theorem mx_okl8 : ∀ q ∈ mx_lk 8, mx_okL 8 q := List.forall_mem_cons.mpr ⟨mx_okl8_0, List.forall_mem_cons.mpr ⟨mx_okl8_1, List.forall_mem_cons.mpr ⟨mx_okl8_2, List.forall_mem_cons.mpr ⟨mx_okl8_3, List.forall_mem_cons.mpr ⟨mx_okl8_4, List.forall_mem_cons.mpr ⟨mx_okl8_5, List.forall_mem_cons.mpr ⟨mx_okl8_6, List.forall_mem_cons.mpr ⟨mx_okl8_7, List.forall_mem_cons.mpr ⟨mx_okl8_8, List.forall_mem_cons.mpr ⟨mx_okl8_9, List.forall_mem_cons.mpr ⟨mx_okl8_10, List.forall_mem_cons.mpr ⟨mx_okl8_11, List.forall_mem_cons.mpr ⟨mx_okl8_12, List.forall_mem_cons.mpr ⟨mx_okl8_13, List.forall_mem_cons.mpr ⟨mx_okl8_14, List.forall_mem_cons.mpr ⟨mx_okl8_15, List.forall_mem_cons.mpr ⟨mx_okl8_16, List.forall_mem_cons.mpr ⟨mx_okl8_17, List.forall_mem_cons.mpr ⟨mx_okl8_18, List.forall_mem_cons.mpr ⟨mx_okl8_19, List.forall_mem_cons.mpr ⟨mx_okl8_20, List.forall_mem_cons.mpr ⟨mx_okl8_21, List.forall_mem_cons.mpr ⟨mx_okl8_22, List.forall_mem_cons.mpr ⟨mx_okl8_23, List.forall_mem_cons.mpr ⟨mx_okl8_24, List.forall_mem_cons.mpr ⟨mx_okl8_25, List.forall_mem_cons.mpr ⟨mx_okl8_26, List.forall_mem_cons.mpr ⟨mx_okl8_27, List.forall_mem_cons.mpr ⟨mx_okl8_28, List.forall_mem_cons.mpr ⟨mx_okl8_29, List.forall_mem_cons.mpr ⟨mx_okl8_30, List.forall_mem_cons.mpr ⟨mx_okl8_31, List.forall_mem_cons.mpr ⟨mx_okl8_32, List.forall_mem_cons.mpr ⟨mx_okl8_33, List.forall_mem_cons.mpr ⟨mx_okl8_34, List.forall_mem_cons.mpr ⟨mx_okl8_35, List.forall_mem_cons.mpr ⟨mx_okl8_36, List.forall_mem_cons.mpr ⟨mx_okl8_37, List.forall_mem_cons.mpr ⟨mx_okl8_38, List.forall_mem_cons.mpr ⟨mx_okl8_39, List.forall_mem_cons.mpr ⟨mx_okl8_40, List.forall_mem_cons.mpr ⟨mx_okl8_41, List.forall_mem_cons.mpr ⟨mx_okl8_42, List.forall_mem_cons.mpr ⟨mx_okl8_43, List.forall_mem_cons.mpr ⟨mx_okl8_44, List.forall_mem_cons.mpr ⟨mx_okl8_45, List.forall_mem_cons.mpr ⟨mx_okl8_46, List.forall_mem_cons.mpr ⟨mx_okl8_47, List.forall_mem_cons.mpr ⟨mx_okl8_48, List.forall_mem_cons.mpr ⟨mx_okl8_49, List.forall_mem_cons.mpr ⟨mx_okl8_50, List.forall_mem_cons.mpr ⟨mx_okl8_51, List.forall_mem_cons.mpr ⟨mx_okl8_52, List.forall_mem_cons.mpr ⟨mx_okl8_53, List.forall_mem_cons.mpr ⟨mx_okl8_54, List.forall_mem_cons.mpr ⟨mx_okl8_55, List.forall_mem_cons.mpr ⟨mx_okl8_56, List.forall_mem_cons.mpr ⟨mx_okl8_57, List.forall_mem_cons.mpr ⟨mx_okl8_58, List.forall_mem_cons.mpr ⟨mx_okl8_59, List.forall_mem_cons.mpr ⟨mx_okl8_60, List.forall_mem_cons.mpr ⟨mx_okl8_61, List.forall_mem_cons.mpr ⟨mx_okl8_62, List.forall_mem_cons.mpr ⟨mx_okl8_63, List.forall_mem_cons.mpr ⟨mx_okl8_64, List.forall_mem_cons.mpr ⟨mx_okl8_65, List.forall_mem_cons.mpr ⟨mx_okl8_66, List.forall_mem_cons.mpr ⟨mx_okl8_67, List.forall_mem_cons.mpr ⟨mx_okl8_68, List.forall_mem_cons.mpr ⟨mx_okl8_69, List.forall_mem_cons.mpr ⟨mx_okl8_70, List.forall_mem_cons.mpr ⟨mx_okl8_71, List.forall_mem_cons.mpr ⟨mx_okl8_72, List.forall_mem_cons.mpr ⟨mx_okl8_73, List.forall_mem_cons.mpr ⟨mx_okl8_74, List.forall_mem_cons.mpr ⟨mx_okl8_75, List.forall_mem_cons.mpr ⟨mx_okl8_76, List.forall_mem_cons.mpr ⟨mx_okl8_77, List.forall_mem_cons.mpr ⟨mx_okl8_78, List.forall_mem_cons.mpr ⟨mx_okl8_79, List.forall_mem_cons.mpr ⟨mx_okl8_80, List.forall_mem_cons.mpr ⟨mx_okl8_81, List.forall_mem_cons.mpr ⟨mx_okl8_82, List.forall_mem_cons.mpr ⟨mx_okl8_83, List.forall_mem_cons.mpr ⟨mx_okl8_84, List.forall_mem_cons.mpr ⟨mx_okl8_85, List.forall_mem_cons.mpr ⟨mx_okl8_86, List.forall_mem_cons.mpr ⟨mx_okl8_87, List.forall_mem_cons.mpr ⟨mx_okl8_88, List.forall_mem_cons.mpr ⟨mx_okl8_89, List.forall_mem_cons.mpr ⟨mx_okl8_90, List.forall_mem_cons.mpr ⟨mx_okl8_91, List.forall_mem_cons.mpr ⟨mx_okl8_92, List.forall_mem_cons.mpr ⟨mx_okl8_93, List.forall_mem_cons.mpr ⟨mx_okl8_94, List.forall_mem_cons.mpr ⟨mx_okl8_95, List.forall_mem_cons.mpr ⟨mx_okl8_96, List.forall_mem_cons.mpr ⟨mx_okl8_97, List.forall_mem_cons.mpr ⟨mx_okl8_98, List.forall_mem_cons.mpr ⟨mx_okl8_99, List.forall_mem_cons.mpr ⟨mx_okl8_100, List.forall_mem_cons.mpr ⟨mx_okl8_101, List.forall_mem_cons.mpr ⟨mx_okl8_102, List.forall_mem_cons.mpr ⟨mx_okl8_103, List.forall_mem_cons.mpr ⟨mx_okl8_104, List.forall_mem_cons.mpr ⟨mx_okl8_105, List.forall_mem_cons.mpr ⟨mx_okl8_106, List.forall_mem_cons.mpr ⟨mx_okl8_107, List.forall_mem_cons.mpr ⟨mx_okl8_108, List.forall_mem_cons.mpr ⟨mx_okl8_109, List.forall_mem_cons.mpr ⟨mx_okl8_110, fun _ h => absurd h List.not_mem_nil⟩⟩⟩⟩⟩⟩⟩⟩⟩⟩⟩⟩⟩⟩⟩⟩⟩⟩⟩⟩⟩⟩⟩⟩⟩⟩⟩⟩⟩⟩⟩⟩⟩⟩⟩⟩⟩⟩⟩⟩⟩⟩⟩⟩⟩⟩⟩⟩⟩⟩⟩⟩⟩⟩⟩⟩⟩⟩⟩⟩⟩⟩⟩⟩⟩⟩⟩⟩⟩⟩⟩⟩⟩⟩⟩⟩⟩⟩⟩⟩⟩⟩⟩⟩⟩⟩⟩⟩⟩⟩⟩⟩⟩⟩⟩⟩⟩⟩⟩⟩⟩⟩⟩⟩⟩⟩⟩⟩⟩⟩⟩
set_option maxRecDepth 100000 in
theorem mx_okl9_0 : mx_okL 9 (1, 27, 0, 0) := mx_in 959 rfl rfl
set_option maxRecDepth 100000 in
theorem mx_okl9_1 : mx_okL 9 (7, 0, 900, 0) := ⟨_, rfl, by decide, rfl, mx_in 964 rfl rfl⟩
set_option maxRecDepth 100000 in
theorem mx_okl9_2 : mx_okL 9 (13, 0, 901, 0) := ⟨_, rfl, by decide, rfl, mx_in 965 rfl rfl⟩
set_option maxRecDepth 100000 in
theorem mx_okl9_3 : mx_okL 9 (16, 0, 902, 0) := ⟨_, rfl, by decide, rfl, mx_in 966 rfl rfl⟩
set_option maxRecDepth 100000 in
theorem mx_okl9_4 : mx_okL 9 (19, 0, 904, 0) := ⟨_, rfl, by decide, rfl, mx_in 968 rfl rfl⟩
set_option maxRecDepth 100000 in
theorem mx_okl9_5 : mx_okL 9 (22, 0, 910, 0) := ⟨_, rfl, by decide, rfl, mx_in 974 rfl rfl⟩
set_option maxRecDepth 100000 in
theorem mx_okl9_6 : mx_okL 9 (25, 0, 911, 0) := ⟨_, rfl, by decide, rfl, mx_in 975 rfl rfl⟩
set_option maxRecDepth 100000 in
theorem mx_okl9_7 : mx_okL 9 (28, 1, 146, 0) := ⟨by decide, mx_in 960 rfl rfl, mx_in 962 rfl rfl, mx_in 37 rfl rfl⟩
set_option maxRecDepth 100000 in
theorem mx_okl9_8 : mx_okL 9 (32, 0, 912, 0) := ⟨_, rfl, by decide, rfl, mx_in 976 rfl rfl⟩
set_option maxRecDepth 100000 in
theorem mx_okl9_9 : mx_okL 9 (36, 0, 914, 0) := ⟨_, rfl, by decide, rfl, mx_in 978 rfl rfl⟩
set_option maxRecDepth 100000 in
theorem mx_okl9_10 : mx_okL 9 (40, 0, 915, 0) := ⟨_, rfl, by decide, rfl, mx_in 979 rfl rfl⟩
set_option maxRecDepth 100000 in
theorem mx_okl9_11 : mx_okL 9 (43, 0, 917, 0) := ⟨_, rfl, by decide, rfl, mx_in 981 rfl rfl⟩
set_option maxRecDepth 100000 in
theorem mx_okl9_12 : mx_okL 9 (46, 0, 921, 0) := ⟨_, rfl, by decide, rfl, mx_in 985 rfl rfl⟩
set_option maxRecDepth 100000 in
theorem mx_okl9_13 : mx_okL 9 (49, 0, 922, 0) := ⟨_, rfl, by decide, rfl, mx_in 986 rfl rfl⟩
set_option maxRecDepth 100000 in
theorem mx_okl9_14 : mx_okL 9 (53, 0, 924, 0) := ⟨_, rfl, by decide, rfl, mx_in 988 rfl rfl⟩
set_option maxRecDepth 100000 in
theorem mx_okl9_15 : mx_okL 9 (56, 0, 925, 0) := ⟨_, rfl, by decide, rfl, mx_in 989 rfl rfl⟩
set_option maxRecDepth 100000 in
theorem mx_okl9_16 : mx_okL 9 (59, 0, 929, 0) := ⟨_, rfl, by decide, rfl, mx_in 993 rfl rfl⟩
set_option maxRecDepth 100000 in
theorem mx_okl9_17 : mx_okL 9 (62, 0, 930, 0) := ⟨_, rfl, by decide, rfl, mx_in 994 rfl rfl⟩
set_option maxRecDepth 100000 in
theorem mx_okl9_18 : mx_okL 9 (65, 0, 931, 0) := ⟨_, rfl, by decide, rfl, mx_in 995 rfl rfl⟩
set_option maxRecDepth 100000 in
theorem mx_okl9_19 : mx_okL 9 (68, 0, 932, 0) := ⟨_, rfl, by decide, rfl, mx_in 996 rfl rfl⟩
set_option maxRecDepth 100000 in
theorem mx_okl9_20 : mx_okL 9 (71, 0, 933, 0) := ⟨_, rfl, by decide, rfl, mx_in 997 rfl rfl⟩
set_option maxRecDepth 100000 in
theorem mx_okl9_21 : mx_okL 9 (74, 0, 934, 0) := ⟨_, rfl, by decide, rfl, mx_in 998 rfl rfl⟩
set_option maxRecDepth 100000 in
theorem mx_okl9_22 : mx_okL 9 (77, 0, 935, 0) := ⟨_, rfl, by decide, rfl, mx_in 999 rfl rfl⟩
set_option maxRecDepth 100000 in
theorem mx_okl9_23 : mx_okL 9 (80, 21, 0, 0) := mx_in 1209 rfl rfl
set_option maxRecDepth 100000 in
theorem mx_okl9_24 : mx_okL 9 (86, 20, 0, 0) := mx_in 1210 rfl rfl
set_option maxRecDepth 100000 in
theorem mx_okl9_25 : mx_okL 9 (89, 3, 132, 0) := ⟨by decide, mx_in 1079 rfl rfl, mx_in 1080 rfl rfl⟩
set_option maxRecDepth 100000 in
theorem mx_okl9_26 : mx_okL 9 (93, 22, 0, 0) := mx_in 1195 rfl rfl
set_option maxRecDepth 100000 in
theorem mx_okl9_27 : mx_okL 9 (97, 3, 138, 0) := ⟨by decide, mx_in 1086 rfl rfl, mx_in 1087 rfl rfl⟩
set_option maxRecDepth 100000 in
theorem mx_okl9_28 : mx_okL 9 (101, 1, 137, 0) := ⟨by decide, mx_in 1089 rfl rfl, mx_in 1091 rfl rfl, mx_in 39 rfl rfl⟩
set_option maxRecDepth 100000 in
theorem mx_okl9_29 : mx_okL 9 (104, 1, 142, 0) := ⟨by decide, mx_in 1082 rfl rfl, mx_in 1084 rfl rfl, mx_in 38 rfl rfl⟩
set_option maxRecDepth 100000 in
theorem mx_okl9_30 : mx_okL 9 (107, 1, 136, 0) := ⟨by decide, mx_in 1097 rfl rfl, mx_in 1099 rfl rfl, mx_in 40 rfl rfl⟩
set_option maxRecDepth 100000 in
theorem mx_okl9_31 : mx_okL 9 (110, 0, 905, 0) := ⟨_, rfl, by decide, rfl, mx_in 969 rfl rfl⟩
set_option maxRecDepth 100000 in
theorem mx_okl9_32 : mx_okL 9 (113, 0, 906, 0) := ⟨_, rfl, by decide, rfl, mx_in 970 rfl rfl⟩
set_option maxRecDepth 100000 in
theorem mx_okl9_33 : mx_okL 9 (116, 0, 907, 0) := ⟨_, rfl, by decide, rfl, mx_in 971 rfl rfl⟩
set_option maxRecDepth 100000 in
theorem mx_okl9_34 : mx_okL 9 (119, 1, 148, 0) := ⟨by decide, mx_in 1121 rfl rfl, mx_in 1123 rfl rfl, mx_in 43 rfl rfl⟩
set_option maxRecDepth 100000 in
theorem mx_okl9_35 : mx_okL 9 (122, 0, 908, 0) := ⟨_, rfl, by decide, rfl, mx_in 972 rfl rfl⟩
set_option maxRecDepth 100000 in
theorem mx_okl9_36 : mx_okL 9 (125, 0, 913, 0) := ⟨_, rfl, by decide, rfl, mx_in 977 rfl rfl⟩
set_option maxRecDepth 100000 in
theorem mx_okl9_37 : mx_okL 9 (128, 0, 916, 0) := ⟨_, rfl, by decide, rfl, mx_in 980 rfl rfl⟩
set_option maxRecDepth 100000 in
theorem mx_okl9_38 : mx_okL 9 (131, 3, 153, 0) := ⟨by decide, mx_in 1153 rfl rfl, mx_in 1154 rfl rfl⟩
set_option maxRecDepth 100000 in
theorem mx_okl9_39 : mx_okL 9 (134, 1, 155, 0) := ⟨by decide, mx_in 1149 rfl rfl, mx_in 1151 rfl rfl, mx_in 50 rfl rfl⟩
set_option maxRecDepth 100000 in
theorem mx_okl9_40 : mx_okL 9 (137, 1, 152, 0) := ⟨by decide, mx_in 1137 rfl rfl, mx_in 1139 rfl rfl, mx_in 47 rfl rfl⟩
set_option maxRecDepth 100000 in
theorem mx_okl9_41 : mx_okL 9 (141, 0, 909, 0) := ⟨_, rfl, by decide, rfl, mx_in 973 rfl rfl⟩
set_option maxRecDepth 100000 in
theorem mx_okl9_42 : mx_okL 9 (144, 1, 150, 0) := ⟨by decide, mx_in 1125 rfl rfl, mx_in 1127 rfl rfl, mx_in 44 rfl rfl⟩
set_option maxRecDepth 100000 in
theorem mx_okl9_43 : mx_okL 9 (147, 1, 151, 0) := ⟨by decide, mx_in 1145 rfl rfl, mx_in 1147 rfl rfl, mx_in 49 rfl rfl⟩
set_option maxRecDepth 100000 in
theorem mx_okl9_44 : mx_okL 9 (150, 1, 158, 0) := ⟨by decide, mx_in 1141 rfl rfl, mx_in 1143 rfl rfl, mx_in 48 rfl rfl⟩
set_option maxRecDepth 100000 in
theorem mx_okl9_45 : mx_okL 9 (153, 1, 154, 0) := ⟨by decide, mx_in 1156 rfl rfl, mx_in 1158 rfl rfl, mx_in 51 rfl rfl⟩
set_option maxRecDepth 100000 in
theorem mx_okl9_46 : mx_okL 9 (156, 1, 159, 0) := ⟨by decide, mx_in 1133 rfl rfl, mx_in 1135 rfl rfl, mx_in 46 rfl rfl⟩
set_option maxRecDepth 100000 in
theorem mx_okl9_47 : mx_okL 9 (159, 1, 149, 0) := ⟨by decide, mx_in 1117 rfl rfl, mx_in 1119 rfl rfl, mx_in 42 rfl rfl⟩
set_option maxRecDepth 100000 in
theorem mx_okl9_48 : mx_okL 9 (162, 1, 156, 0) := ⟨by decide, mx_in 1160 rfl rfl, mx_in 1162 rfl rfl, mx_in 52 rfl rfl⟩
set_option maxRecDepth 100000 in
theorem mx_okl9_49 : mx_okL 9 (165, 1, 157, 0) := ⟨by decide, mx_in 1164 rfl rfl, mx_in 1166 rfl rfl, mx_in 53 rfl rfl⟩
set_option maxRecDepth 100000 in
theorem mx_okl9_50 : mx_okL 9 (168, 1, 160, 0) := ⟨by decide, mx_in 1129 rfl rfl, mx_in 1131 rfl rfl, mx_in 45 rfl rfl⟩
set_option maxRecDepth 100000 in
theorem mx_okl9_51 : mx_okL 9 (172, 1, 161, 0) := ⟨by decide, mx_in 1113 rfl rfl, mx_in 1115 rfl rfl, mx_in 41 rfl rfl⟩
set_option maxRecDepth 100000 in
theorem mx_okl9_52 : mx_okL 9 (175, 3, 164, 0) := ⟨by decide, mx_in 1200 rfl rfl, mx_in 1201 rfl rfl⟩
set_option maxRecDepth 100000 in
theorem mx_okl9_53 : mx_okL 9 (179, 0, 920, 0) := ⟨_, rfl, by decide, rfl, mx_in 984 rfl rfl⟩
set_option maxRecDepth 100000 in
theorem mx_okl9_54 : mx_okL 9 (182, 1, 167, 0) := ⟨by decide, mx_in 1188 rfl rfl, mx_in 1190 rfl rfl, mx_in 57 rfl rfl⟩
set_option maxRecDepth 100000 in
theorem mx_okl9_55 : mx_okL 9 (185, 0, 919, 0) := ⟨_, rfl, by decide, rfl, mx_in 983 rfl rfl⟩
set_option maxRecDepth 100000 in
theorem mx_okl9_56 : mx_okL 9 (188, 3, 165, 0) := ⟨by decide, mx_in 1203 rfl rfl, mx_in 1204 rfl rfl⟩
set_option maxRecDepth 100000 in
theorem mx_okl9_57 : mx_okL 9 (192, 3, 140, 0) := ⟨by decide, mx_in 1192 rfl rfl, mx_in 1193 rfl rfl⟩
set_option maxRecDepth 100000 in
theorem mx_okl9_58 : mx_okL 9 (195, 1, 139, 0) := ⟨by decide, mx_in 1196 rfl rfl, mx_in 1198 rfl rfl, mx_in 58 rfl rfl⟩
set_option maxRecDepth 100000 in
theorem mx_okl9_59 : mx_okL 9 (198, 0, 918, 0) := ⟨_, rfl, by decide, rfl, mx_in 982 rfl rfl⟩
set_option maxRecDepth 100000 in
theorem mx_okl9_60 : mx_okL 9 (201, 1, 166, 0) := ⟨by decide, mx_in 1184 rfl rfl, mx_in 1186 rfl rfl, mx_in 56 rfl rfl⟩
set_option maxRecDepth 100000 in
theorem mx_okl9_61 : mx_okL 9 (204, 3, 133, 0) := ⟨by decide, mx_in 1206 rfl rfl, mx_in 1207 rfl rfl⟩
set_option maxRecDepth 100000 in
theorem mx_okl9_62 : mx_okL 9 (207, 1, 168, 0) := ⟨by decide, mx_in 1176 rfl rfl, mx_in 1178 rfl rfl, mx_in 54 rfl rfl⟩
set_option maxRecDepth 100000 in
theorem mx_okl9_63 : mx_okL 9 (210, 1, 141, 0) := ⟨by decide, mx_in 1215 rfl rfl, mx_in 1217 rfl rfl, mx_in 60 rfl rfl⟩
set_option maxRecDepth 100000 in
theorem mx_okl9_64 : mx_okL 9 (212, 1, 169, 0) := ⟨by decide, mx_in 1180 rfl rfl, mx_in 1182 rfl rfl, mx_in 55 rfl rfl⟩
set_option maxRecDepth 100000 in
theorem mx_okl9_65 : mx_okL 9 (215, 1, 170, 0) := ⟨by decide, mx_in 1211 rfl rfl, mx_in 1213 rfl rfl, mx_in 59 rfl rfl⟩
set_option maxRecDepth 100000 in
theorem mx_okl9_66 : mx_okL 9 (218, 1, 171, 0) := ⟨by decide, mx_in 1219 rfl rfl, mx_in 1221 rfl rfl, mx_in 61 rfl rfl⟩
set_option maxRecDepth 100000 in
theorem mx_okl9_67 : mx_okL 9 (221, 1, 173, 0) := ⟨by decide, mx_in 1227 rfl rfl, mx_in 1229 rfl rfl, mx_in 62 rfl rfl⟩
set_option maxRecDepth 100000 in
theorem mx_okl9_68 : mx_okL 9 (224, 1, 174, 0) := ⟨by decide, mx_in 1231 rfl rfl, mx_in 1233 rfl rfl, mx_in 63 rfl rfl⟩
set_option maxRecDepth 100000 in
theorem mx_okl9_69 : mx_okL 9 (227, 1, 176, 0) := ⟨by decide, mx_in 1239 rfl rfl, mx_in 1241 rfl rfl, mx_in 64 rfl rfl⟩
set_option maxRecDepth 100000 in
theorem mx_okl9_70 : mx_okL 9 (230, 1, 178, 0) := ⟨by decide, mx_in 1251 rfl rfl, mx_in 1253 rfl rfl, mx_in 66 rfl rfl⟩
set_option maxRecDepth 100000 in
theorem mx_okl9_71 : mx_okL 9 (233, 0, 923, 0) := ⟨_, rfl, by decide, rfl, mx_in 987 rfl rfl⟩
set_option maxRecDepth 100000 in
theorem mx_okl9_72 : mx_okL 9 (236, 1, 179, 0) := ⟨by decide, mx_in 1247 rfl rfl, mx_in 1249 rfl rfl, mx_in 65 rfl rfl⟩
set_option maxRecDepth 100000 in
theorem mx_okl9_73 : mx_okL 9 (239, 1, 134, 0) := ⟨by decide, mx_in 1259 rfl rfl, mx_in 1261 rfl rfl, mx_in 67 rfl rfl⟩
set_option maxRecDepth 100000 in
theorem mx_okl9_74 : mx_okL 9 (243, 1, 135, 0) := ⟨by decide, mx_in 1263 rfl rfl, mx_in 1265 rfl rfl, mx_in 68 rfl rfl⟩
set_option maxRecDepth 100000 in
theorem mx_okl9_75 : mx_okL 9 (246, 1, 182, 0) := ⟨by decide, mx_in 1271 rfl rfl, mx_in 1273 rfl rfl, mx_in 69 rfl rfl⟩
set_option maxRecDepth 100000 in
theorem mx_okl9_76 : mx_okL 9 (250, 10, 0, (-4611686018427387904)) := mx_in 1275 rfl rfl
set_option maxRecDepth 100000 in
theorem mx_okl9_77 : mx_okL 9 (252, 1, 185, 0) := ⟨by decide, mx_in 1284 rfl rfl, mx_in 1286 rfl rfl, mx_in 71 rfl rfl⟩
set_option maxRecDepth 100000 in
theorem mx_okl9_78 : mx_okL 9 (255, 1, 184, 0) := ⟨by decide, mx_in 1280 rfl rfl, mx_in 1282 rfl rfl, mx_in 70 rfl rfl⟩
set_option maxRecDepth 100000 in
theorem mx_okl9_79 : mx_okL 9 (258, 3, 213, 0) := ⟨by decide, mx_in 1288 rfl rfl, mx_in 652 rfl rfl⟩
set_option maxRecDepth 100000 in
theorem mx_okl9_80 : mx_okL 9 (264, 3, 196, 0) := ⟨by decide, mx_in 1293 rfl rfl, mx_in 1294 rfl rfl⟩
set_option maxRecDepth 100000 in
theorem mx_okl9_81 : mx_okL 9 (267, 0, 926, 0) := ⟨_, rfl, by decide, rfl, mx_in 990 rfl rfl⟩
set_option maxRecDepth 100000 in
theorem mx_okl9_82 : mx_okL 9 (270, 0, 927, 0) := ⟨_, rfl, by decide, rfl, mx_in 991 rfl rfl⟩
set_option maxRecDepth 100000 in
theorem mx_okl9_83 : mx_okL 9 (273, 0, 928, 0) := ⟨_, rfl, by decide, rfl, mx_in 992 rfl rfl⟩
set_option maxRecDepth 100000 in
theorem mx_okl9_84 : mx_okL 9 (276, 1, 189, 0) := ⟨by decide, mx_in 1305 rfl rfl, mx_in 1307 rfl rfl, mx_in 73 rfl rfl⟩
set_option maxRecDepth 100000 in
theorem mx_okl9_85 : mx_okL 9 (280, 1, 188, 0) := ⟨by decide, mx_in 1300 rfl rfl, mx_in 1302 rfl rfl, mx_in 72 rfl rfl⟩
set_option maxRecDepth 100000 in
theorem mx_okl9_86 : mx_okL 9 (285, 9, 0, 2147483647) := mx_in 1304 rfl rfl
set_option maxRecDepth 100000 in
theorem mx_okl9_87 : mx_okL 9 (286, 1, 191, 0) := ⟨by decide, mx_in 1313 rfl rfl, mx_in 1315 rfl rfl, mx_in 74 rfl rfl⟩
set_option maxRecDepth 100000 in
theorem mx_okl9_88 : mx_okL 9 (289, 3, 194, 0) := ⟨by decide, mx_in 1325 rfl rfl, mx_in 1326 rfl rfl⟩
set_option maxRecDepth 100000 in
theorem mx_okl9_89 : mx_okL 9 (293, 1, 144, 0) := ⟨by decide, mx_in 1344 rfl rfl, mx_in 1094 rfl rfl, mx_in 1095 rfl rfl⟩
set_option maxRecDepth 100000 in
theorem mx_okl9_90 : mx_okL 9 (296, 1, 202, 0) := ⟨by decide, mx_in 1353 rfl rfl, mx_in 1355 rfl rfl, mx_in 75 rfl rfl⟩
set_option maxRecDepth 100000 in
theorem mx_okl9_91 : mx_okL 9 (299, 1, 203, 0) := ⟨by decide, mx_in 1357 rfl rfl, mx_in 1359 rfl rfl, mx_in 76 rfl rfl⟩
set_option maxRecDepth 100000 in
theorem mx_okl9_92 : mx_okL 9 (303, 1, 204, 0) := ⟨by decide, mx_in 1361 rfl rfl, mx_in 1363 rfl rfl, mx_in 77 rfl rfl⟩
set_option maxRecDepth 100000 in
theorem mx_okl9_93 : mx_okL 9 (307, 1, 197, 0) := ⟨by decide, mx_in 1369 rfl rfl, mx_in 1329 rfl rfl, mx_in 1330 rfl rfl⟩
set_option maxRecDepth 100000 in
theorem mx_okl9_94 : mx_okL 9 (310, 9, 0, 1103515245) := mx_in 1374 rfl rfl
set_option maxRecDepth 100000 in
theorem mx_okl9_95 : mx_okL 9 (311, 1, 207, 0) := ⟨by decide, mx_in 1379 rfl rfl, mx_in 1371 rfl rfl, mx_in 1372 rfl rfl⟩
set_option maxRecDepth 100000 in
theorem mx_okl9_96 : mx_okL 9 (314, 0, 903, 0) := ⟨_, rfl, by decide, rfl, mx_in 967 rfl rfl⟩
set_option maxRecDepth 100000 in
theorem mx_okl9 : ∀ q ∈ mx_lk 9, mx_okL 9 q := List.forall_mem_cons.mpr ⟨mx_okl9_0, List.forall_mem_cons.mpr ⟨mx_okl9_1, List.forall_mem_cons.mpr ⟨mx_okl9_2, List.forall_mem_cons.mpr ⟨mx_okl9_3, List.forall_mem_cons.mpr ⟨mx_okl9_4, List.forall_mem_cons.mpr ⟨mx_okl9_5, List.forall_mem_cons.mpr ⟨mx_okl9_6, List.forall_mem_cons.mpr ⟨mx_okl9_7, List.forall_mem_cons.mpr ⟨mx_okl9_8, List.forall_mem_cons.mpr ⟨mx_okl9_9, List.forall_mem_cons.mpr ⟨mx_okl9_10, List.forall_mem_cons.mpr ⟨mx_okl9_11, List.forall_mem_cons.mpr ⟨mx_okl9_12, List.forall_mem_cons.mpr ⟨mx_okl9_13, List.forall_mem_cons.mpr ⟨mx_okl9_14, List.forall_mem_cons.mpr ⟨mx_okl9_15, List.forall_mem_cons.mpr ⟨mx_okl9_16, List.forall_mem_cons.mpr ⟨mx_okl9_17, List.forall_mem_cons.mpr ⟨mx_okl9_18, List.forall_mem_cons.mpr ⟨mx_okl9_19, List.forall_mem_cons.mpr ⟨mx_okl9_20, List.forall_mem_cons.mpr ⟨mx_okl9_21, List.forall_mem_cons.mpr ⟨mx_okl9_22, List.forall_mem_cons.mpr ⟨mx_okl9_23, List.forall_mem_cons.mpr ⟨mx_okl9_24, List.forall_mem_cons.mpr ⟨mx_okl9_25, List.forall_mem_cons.mpr ⟨mx_okl9_26, List.forall_mem_cons.mpr ⟨mx_okl9_27, List.forall_mem_cons.mpr ⟨mx_okl9_28, List.forall_mem_cons.mpr ⟨mx_okl9_29, List.forall_mem_cons.mpr ⟨mx_okl9_30, List.forall_mem_cons.mpr ⟨mx_okl9_31, List.forall_mem_cons.mpr ⟨mx_okl9_32, List.forall_mem_cons.mpr ⟨mx_okl9_33, List.forall_mem_cons.mpr ⟨mx_okl9_34, List.forall_mem_cons.mpr ⟨mx_okl9_35, List.forall_mem_cons.mpr ⟨mx_okl9_36, List.forall_mem_cons.mpr ⟨mx_okl9_37, List.forall_mem_cons.mpr ⟨mx_okl9_38, List.forall_mem_cons.mpr ⟨mx_okl9_39, List.forall_mem_cons.mpr ⟨mx_okl9_40, List.forall_mem_cons.mpr ⟨mx_okl9_41, List.forall_mem_cons.mpr ⟨mx_okl9_42, List.forall_mem_cons.mpr ⟨mx_okl9_43, List.forall_mem_cons.mpr ⟨mx_okl9_44, List.forall_mem_cons.mpr ⟨mx_okl9_45, List.forall_mem_cons.mpr ⟨mx_okl9_46, List.forall_mem_cons.mpr ⟨mx_okl9_47, List.forall_mem_cons.mpr ⟨mx_okl9_48, List.forall_mem_cons.mpr ⟨mx_okl9_49, List.forall_mem_cons.mpr ⟨mx_okl9_50, List.forall_mem_cons.mpr ⟨mx_okl9_51, List.forall_mem_cons.mpr ⟨mx_okl9_52, List.forall_mem_cons.mpr ⟨mx_okl9_53, List.forall_mem_cons.mpr ⟨mx_okl9_54, List.forall_mem_cons.mpr ⟨mx_okl9_55, List.forall_mem_cons.mpr ⟨mx_okl9_56, List.forall_mem_cons.mpr ⟨mx_okl9_57, List.forall_mem_cons.mpr ⟨mx_okl9_58, List.forall_mem_cons.mpr ⟨mx_okl9_59, List.forall_mem_cons.mpr ⟨mx_okl9_60, List.forall_mem_cons.mpr ⟨mx_okl9_61, List.forall_mem_cons.mpr ⟨mx_okl9_62, List.forall_mem_cons.mpr ⟨mx_okl9_63, List.forall_mem_cons.mpr ⟨mx_okl9_64, List.forall_mem_cons.mpr ⟨mx_okl9_65, List.forall_mem_cons.mpr ⟨mx_okl9_66, List.forall_mem_cons.mpr ⟨mx_okl9_67, List.forall_mem_cons.mpr ⟨mx_okl9_68, List.forall_mem_cons.mpr ⟨mx_okl9_69, List.forall_mem_cons.mpr ⟨mx_okl9_70, List.forall_mem_cons.mpr ⟨mx_okl9_71, List.forall_mem_cons.mpr ⟨mx_okl9_72, List.forall_mem_cons.mpr ⟨mx_okl9_73, List.forall_mem_cons.mpr ⟨mx_okl9_74, List.forall_mem_cons.mpr ⟨mx_okl9_75, List.forall_mem_cons.mpr ⟨mx_okl9_76, List.forall_mem_cons.mpr ⟨mx_okl9_77, List.forall_mem_cons.mpr ⟨mx_okl9_78, List.forall_mem_cons.mpr ⟨mx_okl9_79, List.forall_mem_cons.mpr ⟨mx_okl9_80, List.forall_mem_cons.mpr ⟨mx_okl9_81, List.forall_mem_cons.mpr ⟨mx_okl9_82, List.forall_mem_cons.mpr ⟨mx_okl9_83, List.forall_mem_cons.mpr ⟨mx_okl9_84, List.forall_mem_cons.mpr ⟨mx_okl9_85, List.forall_mem_cons.mpr ⟨mx_okl9_86, List.forall_mem_cons.mpr ⟨mx_okl9_87, List.forall_mem_cons.mpr ⟨mx_okl9_88, List.forall_mem_cons.mpr ⟨mx_okl9_89, List.forall_mem_cons.mpr ⟨mx_okl9_90, List.forall_mem_cons.mpr ⟨mx_okl9_91, List.forall_mem_cons.mpr ⟨mx_okl9_92, List.forall_mem_cons.mpr ⟨mx_okl9_93, List.forall_mem_cons.mpr ⟨mx_okl9_94, List.forall_mem_cons.mpr ⟨mx_okl9_95, List.forall_mem_cons.mpr ⟨mx_okl9_96, fun _ h => absurd h List.not_mem_nil⟩⟩⟩⟩⟩⟩⟩⟩⟩⟩⟩⟩⟩⟩⟩⟩⟩⟩⟩⟩⟩⟩⟩⟩⟩⟩⟩⟩⟩⟩⟩⟩⟩⟩⟩⟩⟩⟩⟩⟩⟩⟩⟩⟩⟩⟩⟩⟩⟩⟩⟩⟩⟩⟩⟩⟩⟩⟩⟩⟩⟩⟩⟩⟩⟩⟩⟩⟩⟩⟩⟩⟩⟩⟩⟩⟩⟩⟩⟩⟩⟩⟩⟩⟩⟩⟩⟩⟩⟩⟩⟩⟩⟩⟩⟩⟩⟩
set_option maxRecDepth 100000 in
theorem mx_okl10_0 : mx_okL 10 (7, 7, 8, 0) := ⟨_, rfl, mx_in 97 rfl rfl, mx_in 98 rfl rfl, mx_in 79 rfl rfl⟩
set_option maxRecDepth 100000 in
theorem mx_okl10_1 : mx_okL 10 (9, 5, 76, 0) := ⟨by decide, mx_in 99 rfl rfl, mx_in 100 rfl rfl, rfl⟩
set_option maxRecDepth 100000 in
theorem mx_okl10_2 : mx_okL 10 (10, 7, 9, 0) := ⟨_, rfl, mx_in 954 rfl rfl, mx_in 955 rfl rfl, mx_in 94 rfl rfl⟩
set_option maxRecDepth 100000 in
theorem mx_okl10_3 : mx_okL 10 (12, 5, 131, 0) := ⟨by decide, mx_in 956 rfl rfl, mx_in 957 rfl rfl, rfl⟩
set_option maxRecDepth 100000 in
theorem mx_okl10_4 : mx_okL 10 (13, 1, 77, 0) := ⟨by decide, mx_in 527 rfl rfl, mx_in 528 rfl rfl, mx_in 529 rfl rfl⟩
set_option maxRecDepth 100000 in
theorem mx_okl10_5 : mx_okL 10 (17, 1, 143, 0) := ⟨by decide, mx_in 1075 rfl rfl, mx_in 1076 rfl rfl, mx_in 1077 rfl rfl⟩
set_option maxRecDepth 100000 in
theorem mx_okl10_6 : mx_okL 10 (18, 1, 79, 0) := ⟨by decide, mx_in 550 rfl rfl, mx_in 551 rfl rfl, mx_in 552 rfl rfl⟩
set_option maxRecDepth 100000 in
theorem mx_okl10_7 : mx_okL 10 (21, 1, 144, 0) := ⟨by decide, mx_in 1093 rfl rfl, mx_in 1094 rfl rfl, mx_in 1095 rfl rfl⟩
set_option maxRecDepth 100000 in
theorem mx_okl10_8 : mx_okL 10 (22, 1, 80, 0) := ⟨by decide, mx_in 558 rfl rfl, mx_in 532 rfl rfl, mx_in 533 rfl rfl⟩
set_option maxRecDepth 100000 in
theorem mx_okl10_9 : mx_okL 10 (26, 1, 145, 0) := ⟨by decide, mx_in 1101 rfl rfl, mx_in 1102 rfl rfl, mx_in 1103 rfl rfl⟩
set_option maxRecDepth 100000 in
theorem mx_okl10_10 : mx_okL 10 (27, 1, 81, 0) := ⟨by decide, mx_in 559 rfl rfl, mx_in 560 rfl rfl, mx_in 561 rfl rfl⟩
set_option maxRecDepth 100000 in
theorem mx_okl10_11 : mx_okL 10 (30, 1, 172, 0) := ⟨by decide, mx_in 1172 rfl rfl, mx_in 1173 rfl rfl, mx_in 1174 rfl rfl⟩
set_option maxRecDepth 100000 in
theorem mx_okl10_12 : mx_okL 10 (31, 1, 82, 0) := ⟨by decide, mx_in 614 rfl rfl, mx_in 615 rfl rfl, mx_in 616 rfl rfl⟩
set_option maxRecDepth 100000 in
theorem mx_okl10_13 : mx_okL 10 (35, 1, 147, 0) := ⟨by decide, mx_in 1105 rfl rfl, mx_in 1106 rfl rfl, mx_in 1107 rfl rfl⟩
set_option maxRecDepth 100000 in
theorem mx_okl10_14 : mx_okL 10 (36, 1, 83, 0) := ⟨by decide, mx_in 618 rfl rfl, mx_in 619 rfl rfl, mx_in 620 rfl rfl⟩
set_option maxRecDepth 100000 in
theorem mx_okl10_15 : mx_okL 10 (40, 1, 162, 0) := ⟨by decide, mx_in 1109 rfl rfl, mx_in 1110 rfl rfl, mx_in 1111 rfl rfl⟩
set_option maxRecDepth 100000 in
theorem mx_okl10_16 : mx_okL 10 (41, 1, 84, 0) := ⟨by decide, mx_in 622 rfl rfl, mx_in 623 rfl rfl, mx_in 624 rfl rfl⟩
set_option maxRecDepth 100000 in
theorem mx_okl10_17 : mx_okL 10 (44, 1, 163, 0) := ⟨by decide, mx_in 1168 rfl rfl, mx_in 1169 rfl rfl, mx_in 1170 rfl rfl⟩
set_option maxRecDepth 100000 in
theorem mx_okl10_18 : mx_okL 10 (45, 1, 85, 0) := ⟨by decide, mx_in 627 rfl rfl, mx_in 628 rfl rfl, mx_in 629 rfl rfl⟩
set_option maxRecDepth 100000 in
theorem mx_okl10_19 : mx_okL 10 (48, 1, 175, 0) := ⟨by decide, mx_in 1223 rfl rfl, mx_in 1224 rfl rfl, mx_in 1225 rfl rfl⟩
set_option maxRecDepth 100000 in
theorem mx_okl10_20 : mx_okL 10 (49, 1, 86, 0) := ⟨by decide, mx_in 657 rfl rfl, mx_in 658 rfl rfl, mx_in 659 rfl rfl⟩
set_option maxRecDepth 100000 in
theorem mx_okl10_21 : mx_okL 10 (52, 1, 177, 0) := ⟨by decide, mx_in 1235 rfl rfl, mx_in 1236 rfl rfl, mx_in 1237 rfl rfl⟩
set_option maxRecDepth 100000 in
theorem mx_okl10_22 : mx_okL 10 (53, 1, 87, 0) := ⟨by decide, mx_in 667 rfl rfl, mx_in 668 rfl rfl, mx_in 669 rfl rfl⟩
set_option maxRecDepth 100000 in
theorem mx_okl10_23 : mx_okL 10 (56, 1, 180, 0) := ⟨by decide, mx_in 1243 rfl rfl, mx_in 1244 rfl rfl, mx_in 1245 rfl rfl⟩
set_option maxRecDepth 100000 in
theorem mx_okl10_24 : mx_okL 10 (57, 1, 88, 0) := ⟨by decide, mx_in 687 rfl rfl, mx_in 688 rfl rfl, mx_in 689 rfl rfl⟩
set_option maxRecDepth 100000 in
theorem mx_okl10_25 : mx_okL 10 (60, 1, 181, 0) := ⟨by decide, mx_in 1255 rfl rfl, mx_in 1256 rfl rfl, mx_in 1257 rfl rfl⟩
set_option maxRecDepth 100000 in
theorem mx_okl10_26 : mx_okL 10 (61, 1, 89, 0) := ⟨by decide, mx_in 700 rfl rfl, mx_in 701 rfl rfl, mx_in 702 rfl rfl⟩
set_option maxRecDepth 100000 in
theorem mx_okl10_27 : mx_okL 10 (65, 1, 183, 0) := ⟨by decide, mx_in 1267 rfl rfl, mx_in 1268 rfl rfl, mx_in 1269 rfl rfl⟩
set_option maxRecDepth 100000 in
theorem mx_okl10_28 : mx_okL 10 (66, 1, 90, 0) := ⟨by decide, mx_in 720 rfl rfl, mx_in 721 rfl rfl, mx_in 722 rfl rfl⟩
set_option maxRecDepth 100000 in
theorem mx_okl10_29 : mx_okL 10 (69, 1, 186, 0) := ⟨by decide, mx_in 1276 rfl rfl, mx_in 1277 rfl rfl, mx_in 1278 rfl rfl⟩
set_option maxRecDepth 100000 in
theorem mx_okl10_30 : mx_okL 10 (70, 1, 97, 0) := ⟨by decide, mx_in 744 rfl rfl, mx_in 745 rfl rfl, mx_in 746 rfl rfl⟩
set_option maxRecDepth 100000 in
theorem mx_okl10_31 : mx_okL 10 (73, 1, 187, 0) := ⟨by decide, mx_in 1289 rfl rfl, mx_in 1290 rfl rfl, mx_in 1291 rfl rfl⟩
set_option maxRecDepth 100000 in
theorem mx_okl10_32 : mx_okL 10 (74, 1, 98, 0) := ⟨by decide, mx_in 768 rfl rfl, mx_in 769 rfl rfl, mx_in 770 rfl rfl⟩
set_option maxRecDepth 100000 in
theorem mx_okl10_33 : mx_okL 10 (77, 1, 190, 0) := ⟨by decide, mx_in 1296 rfl rfl, mx_in 1297 rfl rfl, mx_in 1298 rfl rfl⟩
set_option maxRecDepth 100000 in
theorem mx_okl10_34 : mx_okL 10 (78, 1, 99, 0) := ⟨by decide, mx_in 804 rfl rfl, mx_in 805 rfl rfl, mx_in 806 rfl rfl⟩
set_option maxRecDepth 100000 in
theorem mx_okl10_35 : mx_okL 10 (81, 1, 192, 0) := ⟨by decide, mx_in 1309 rfl rfl, mx_in 1310 rfl rfl, mx_in 1311 rfl rfl⟩
set_option maxRecDepth 100000 in
theorem mx_okl10_36 : mx_okL 10 (82, 1, 100, 0) := ⟨by decide, mx_in 840 rfl rfl, mx_in 841 rfl rfl, mx_in 842 rfl rfl⟩
set_option maxRecDepth 100000 in
theorem mx_okl10_37 : mx_okL 10 (85, 1, 193, 0) := ⟨by decide, mx_in 1317 rfl rfl, mx_in 1318 rfl rfl, mx_in 1319 rfl rfl⟩
set_option maxRecDepth 100000 in
theorem mx_okl10_38 : mx_okL 10 (86, 1, 101, 0) := ⟨by decide, mx_in 844 rfl rfl, mx_in 845 rfl rfl, mx_in 846 rfl rfl⟩
set_option maxRecDepth 100000 in
theorem mx_okl10_39 : mx_okL 10 (90, 1, 195, 0) := ⟨by decide, mx_in 1321 rfl rfl, mx_in 1322 rfl rfl, mx_in 1323 rfl rfl⟩
set_option maxRecDepth 100000 in
theorem mx_okl10_40 : mx_okL 10 (91, 1, 104, 0) := ⟨by decide, mx_in 855 rfl rfl, mx_in 856 rfl rfl, mx_in 857 rfl rfl⟩
set_option maxRecDepth 100000 in
theorem mx_okl10_41 : mx_okL 10 (94, 1, 205, 0) := ⟨by decide, mx_in 1349 rfl rfl, mx_in 1350 rfl rfl, mx_in 1351 rfl rfl⟩
set_option maxRecDepth 100000 in
theorem mx_okl10_42 : mx_okL 10 (95, 1, 112, 0) := ⟨by decide, mx_in 892 rfl rfl, mx_in 893 rfl rfl, mx_in 894 rfl rfl⟩
set_option maxRecDepth 100000 in
theorem mx_okl10_43 : mx_okL 10 (98, 1, 206, 0) := ⟨by decide, mx_in 1365 rfl rfl, mx_in 1366 rfl rfl, mx_in 1367 rfl rfl⟩
set_option maxRecDepth 100000 in
theorem mx_okl10_44 : mx_okL 10 (99, 1, 113, 0) := ⟨by decide, mx_in 905 rfl rfl, mx_in 906 rfl rfl, mx_in 907 rfl rfl⟩
set_option maxRecDepth 100000 in
theorem mx_okl10_45 : mx_okL 10 (102, 1, 207, 0) := ⟨by decide, mx_in 1370 rfl rfl, mx_in 1371 rfl rfl, mx_in 1372 rfl rfl⟩
set_option maxRecDepth 100000 in
theorem mx_okl10_46 : mx_okL 10 (103, 1, 115, 0) := ⟨by decide, mx_in 913 rfl rfl, mx_in 914 rfl rfl, mx_in 915 rfl rfl⟩
set_option maxRecDepth 100000 in
theorem mx_okl10_47 : mx_okL 10 (107, 1, 208, 0) := ⟨by decide, mx_in 1375 rfl rfl, mx_in 1376 rfl rfl, mx_in 1377 rfl rfl⟩
set_option maxRecDepth 100000 in
theorem mx_okl10_48 : mx_okL 10 (108, 1, 116, 0) := ⟨by decide, mx_in 917 rfl rfl, mx_in 918 rfl rfl, mx_in 919 rfl rfl⟩
set_option maxRecDepth 100000 in
theorem mx_okl10_49 : mx_okL 10 (111, 1, 209, 0) := ⟨by decide, mx_in 1380 rfl rfl, mx_in 1381 rfl rfl, mx_in 1382 rfl rfl⟩
set_option maxRecDepth 100000 in
theorem mx_okl10_50 : mx_okL 10 (112, 1, 117, 0) := ⟨by decide, mx_in 921 rfl rfl, mx_in 922 rfl rfl, mx_in 923 rfl rfl⟩
set_option maxRecDepth 100000 in
theorem mx_okl10_51 : mx_okL 10 (115, 1, 210, 0) := ⟨by decide, mx_in 1384 rfl rfl, mx_in 1385 rfl rfl, mx_in 1386 rfl rfl⟩
set_option maxRecDepth 100000 in
theorem mx_okl10_52 : mx_okL 10 (116, 1, 118, 0) := ⟨by decide, mx_in 925 rfl rfl, mx_in 926 rfl rfl, mx_in 927 rfl rfl⟩
set_option maxRecDepth 100000 in
theorem mx_okl10_53 : mx_okL 10 (119, 1, 211, 0) := ⟨by decide, mx_in 1388 rfl rfl, mx_in 1389 rfl rfl, mx_in 1390 rfl rfl⟩
set_option maxRecDepth 100000 in
theorem mx_okl10_54 : mx_okL 10 (120, 1, 119, 0) := ⟨by decide, mx_in 929 rfl rfl, mx_in 930 rfl rfl, mx_in 931 rfl rfl⟩
set_option maxRecDepth 100000 in
theorem mx_okl10_55 : mx_okL 10 (123, 1, 197, 0) := ⟨by decide, mx_in 1328 rfl rfl, mx_in 1329 rfl rfl, mx_in 1330 rfl rfl⟩
set_option maxRecDepth 100000 in
theorem mx_okl10_56 : mx_okL 10 (124, 1, 120, 0) := ⟨by decide, mx_in 933 rfl rfl, mx_in 934 rfl rfl, mx_in 935 rfl rfl⟩
set_option maxRecDepth 100000 in
theorem mx_okl10_57 : mx_okL 10 (127, 1, 198, 0) := ⟨by decide, mx_in 1332 rfl rfl, mx_in 1333 rfl rfl, mx_in 1334 rfl rfl⟩
set_option maxRecDepth 100000 in
theorem mx_okl10_58 : mx_okL 10 (128, 1, 121, 0) := ⟨by decide, mx_in 937 rfl rfl, mx_in 938 rfl rfl, mx_in 939 rfl rfl⟩
set_option maxRecDepth 100000 in
theorem mx_okl10_59 : mx_okL 10 (132, 1, 199, 0) := ⟨by decide, mx_in 1336 rfl rfl, mx_in 1337 rfl rfl, mx_in 1338 rfl rfl⟩
set_option maxRecDepth 100000 in
theorem mx_okl10_60 : mx_okL 10 (133, 1, 122, 0) := ⟨by decide, mx_in 942 rfl rfl, mx_in 943 rfl rfl, mx_in 944 rfl rfl⟩
set_option maxRecDepth 100000 in
theorem mx_okl10_61 : mx_okL 10 (137, 1, 200, 0) := ⟨by decide, mx_in 1340 rfl rfl, mx_in 1341 rfl rfl, mx_in 1342 rfl rfl⟩
set_option maxRecDepth 100000 in
theorem mx_okl10_62 : mx_okL 10 (138, 1, 123, 0) := ⟨by decide, mx_in 947 rfl rfl, mx_in 948 rfl rfl, mx_in 949 rfl rfl⟩
set_option maxRecDepth 100000 in
theorem mx_okl10_63 : mx_okL 10 (141, 1, 201, 0) := ⟨by decide, mx_in 1345 rfl rfl, mx_in 1346 rfl rfl, mx_in 1347 rfl rfl⟩
set_option maxRecDepth 100000 in
theorem mx_okl10 : ∀ q ∈ mx_lk 10, mx_okL 10 q := List.forall_mem_cons.mpr ⟨mx_okl10_0, List.forall_mem_cons.mpr ⟨mx_okl10_1, List.forall_mem_cons.mpr ⟨mx_okl10_2, List.forall_mem_cons.mpr ⟨mx_okl10_3, List.forall_mem_cons.mpr ⟨mx_okl10_4, List.forall_mem_cons.mpr ⟨mx_okl10_5, List.forall_mem_cons.mpr ⟨mx_okl10_6, List.forall_mem_cons.mpr ⟨mx_okl10_7, List.forall_mem_cons.mpr ⟨mx_okl10_8, List.forall_mem_cons.mpr ⟨mx_okl10_9, List.forall_mem_cons.mpr ⟨mx_okl10_10, List.forall_mem_cons.mpr ⟨mx_okl10_11, List.forall_mem_cons.mpr ⟨mx_okl10_12, List.forall_mem_cons.mpr ⟨mx_okl10_13, List.forall_mem_cons.mpr ⟨mx_okl10_14, List.forall_mem_cons.mpr ⟨mx_okl10_15, List.forall_mem_cons.mpr ⟨mx_okl10_16, List.forall_mem_cons.mpr ⟨mx_okl10_17, List.forall_mem_cons.mpr ⟨mx_okl10_18, List.forall_mem_cons.mpr ⟨mx_okl10_19, List.forall_mem_cons.mpr ⟨mx_okl10_20, List.forall_mem_cons.mpr ⟨mx_okl10_21, List.forall_mem_cons.mpr ⟨mx_okl10_22, List.forall_mem_cons.mpr ⟨mx_okl10_23, List.forall_mem_cons.mpr ⟨mx_okl10_24, List.forall_mem_cons.mpr ⟨mx_okl10_25, List.forall_mem_cons.mpr ⟨mx_okl10_26, List.forall_mem_cons.mpr ⟨mx_okl10_27, List.forall_mem_cons.mpr ⟨mx_okl10_28, List.forall_mem_cons.mpr ⟨mx_okl10_29, List.forall_mem_cons.mpr ⟨mx_okl10_30, List.forall_mem_cons.mpr ⟨mx_okl10_31, List.forall_mem_cons.mpr ⟨mx_okl10_32, List.forall_mem_cons.mpr ⟨mx_okl10_33, List.forall_mem_cons.mpr ⟨mx_okl10_34, List.forall_mem_cons.mpr ⟨mx_okl10_35, List.forall_mem_cons.mpr ⟨mx_okl10_36, List.forall_mem_cons.mpr ⟨mx_okl10_37, List.forall_mem_cons.mpr ⟨mx_okl10_38, List.forall_mem_cons.mpr ⟨mx_okl10_39, List.forall_mem_cons.mpr ⟨mx_okl10_40, List.forall_mem_cons.mpr ⟨mx_okl10_41, List.forall_mem_cons.mpr ⟨mx_okl10_42, List.forall_mem_cons.mpr ⟨mx_okl10_43, List.forall_mem_cons.mpr ⟨mx_okl10_44, List.forall_mem_cons.mpr ⟨mx_okl10_45, List.forall_mem_cons.mpr ⟨mx_okl10_46, List.forall_mem_cons.mpr ⟨mx_okl10_47, List.forall_mem_cons.mpr ⟨mx_okl10_48, List.forall_mem_cons.mpr ⟨mx_okl10_49, List.forall_mem_cons.mpr ⟨mx_okl10_50, List.forall_mem_cons.mpr ⟨mx_okl10_51, List.forall_mem_cons.mpr ⟨mx_okl10_52, List.forall_mem_cons.mpr ⟨mx_okl10_53, List.forall_mem_cons.mpr ⟨mx_okl10_54, List.forall_mem_cons.mpr ⟨mx_okl10_55, List.forall_mem_cons.mpr ⟨mx_okl10_56, List.forall_mem_cons.mpr ⟨mx_okl10_57, List.forall_mem_cons.mpr ⟨mx_okl10_58, List.forall_mem_cons.mpr ⟨mx_okl10_59, List.forall_mem_cons.mpr ⟨mx_okl10_60, List.forall_mem_cons.mpr ⟨mx_okl10_61, List.forall_mem_cons.mpr ⟨mx_okl10_62, List.forall_mem_cons.mpr ⟨mx_okl10_63, fun _ h => absurd h List.not_mem_nil⟩⟩⟩⟩⟩⟩⟩⟩⟩⟩⟩⟩⟩⟩⟩⟩⟩⟩⟩⟩⟩⟩⟩⟩⟩⟩⟩⟩⟩⟩⟩⟩⟩⟩⟩⟩⟩⟩⟩⟩⟩⟩⟩⟩⟩⟩⟩⟩⟩⟩⟩⟩⟩⟩⟩⟩⟩⟩⟩⟩⟩⟩⟩⟩
set_option maxRecDepth 100000 in
theorem mx_okl11_0 : mx_okL 11 (265, 9, 0, 1431655765) := mx_in 821 rfl rfl
set_option maxRecDepth 100000 in
theorem mx_okl11_1 : mx_okL 11 (266, 9, 0, 858993459) := mx_in 822 rfl rfl
set_option maxRecDepth 100000 in
theorem mx_okl11_2 : mx_okL 11 (267, 9, 0, 252645135) := mx_in 823 rfl rfl
set_option maxRecDepth 100000 in
theorem mx_okl11 : ∀ q ∈ mx_lk 11, mx_okL 11 q := List.forall_mem_cons.mpr ⟨mx_okl11_0, List.forall_mem_cons.mpr ⟨mx_okl11_1, List.forall_mem_cons.mpr ⟨mx_okl11_2, fun _ h => absurd h List.not_mem_nil⟩⟩⟩
set_option maxRecDepth 100000 in
theorem mx_okl12_0 : mx_okL 12 (314, 10, 0, 6148914691236517205) := mx_in 654 rfl rfl
set_option maxRecDepth 100000 in
theorem mx_okl12_1 : mx_okL 12 (316, 10, 0, 3689348814741910323) := mx_in 655 rfl rfl
set_option maxRecDepth 100000 in
theorem mx_okl12_2 : mx_okL 12 (318, 10, 0, 1085102592571150095) := mx_in 656 rfl rfl
set_option maxRecDepth 100000 in
theorem mx_okl12 : ∀ q ∈ mx_lk 12, mx_okL 12 q := List.forall_mem_cons.mpr ⟨mx_okl12_0, List.forall_mem_cons.mpr ⟨mx_okl12_1, List.forall_mem_cons.mpr ⟨mx_okl12_2, fun _ h => absurd h List.not_mem_nil⟩⟩⟩
set_option maxRecDepth 100000 in
theorem mx_okl_0 : ∀ k, k < 13 → ∀ q ∈ mx_lk k, mx_okL k q := lt_s (lt_s (lt_s (lt_s (lt_s (lt_s (lt_s (lt_s (lt_s (lt_s (lt_s (lt_s (lt_s (lt_0) mx_okl0) mx_okl1) mx_okl2) mx_okl3) mx_okl4) mx_okl5) mx_okl6) mx_okl7) mx_okl8) mx_okl9) mx_okl10) mx_okl11) mx_okl12
theorem mx_okl : ∀ k, k < 13 → ∀ q ∈ mx_lk k, mx_okL k q := mx_okl_0
