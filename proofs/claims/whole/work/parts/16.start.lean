/-! ===== from the law's entry: the machine holds what the small machine asks ===== -/
def mx_h0 (Ls : Nat) (xs : Nat → Int32) : mx_H := (0, 0, fun i => if i = mx_big then .inl (0, Ls, .inl xs) else mx_nil)
def mx_tm (i : Nat) : Term := Term.string (mx_strs.getD i ("", 0, "")).1 (mx_strs.getD i ("", 0, "")).2.1
def mx_gn : List Cond := flatC (Jvm.Cond.and given_1 narrow_1)
set_option maxRecDepth 100000 in
theorem mx_g1 : ∀ i, i < mx_byt.length → Cond.exactly (mx_tm i) "java/lang/String" ∈ mx_gn := by decide +kernel
set_option maxRecDepth 100000 in
theorem mx_g2 : ∀ i, i < mx_byt.length → Cond.eq (.field (mx_tm i) "java/lang/String" "coder" "B") (.int 0) ∈ mx_gn := by decide +kernel
set_option maxRecDepth 100000 in
theorem mx_g3 : ∀ i, i < mx_byt.length → Cond.arrayOf (.field (mx_tm i) "java/lang/String" "value" "[B") .byte ∈ mx_gn := by decide +kernel
set_option maxRecDepth 100000 in
theorem mx_g4 : ∀ i, i < mx_byt.length → Cond.eq (.length (.field (mx_tm i) "java/lang/String" "value" "[B")) (.int (Int32.ofNat (mx_slens.getD i 0))) ∈ mx_gn := by decide +kernel
set_option maxRecDepth 100000 in
theorem mx_g5 : ∀ i, i < mx_byt.length → ∀ j, j < mx_slens.getD i 0 → Cond.eq (.elem (.field (mx_tm i) "java/lang/String" "value" "[B") (.int (Int32.ofNat j))) (.int ((mx_byt.getD i []).getD j 0)) ∈ mx_gn := by decide +kernel
def mx_np6 : List (Nat × Nat × Nat) := [(0, 1, 90), (0, 2, 98), (0, 3, 110), (0, 4, 121), (0, 5, 135), (0, 6, 150), (0, 7, 165), (0, 8, 180), (0, 9, 198), (0, 10, 213), (0, 11, 230), (0, 12, 248), (1, 2, 99), (1, 3, 111), (1, 4, 122), (1, 5, 136), (1, 6, 151), (1, 7, 166), (1, 8, 181), (1, 9, 199), (1, 10, 214), (1, 11, 231), (1, 12, 249), (2, 3, 112), (2, 4, 123), (2, 5, 137), (2, 6, 152), (2, 7, 167), (2, 8, 182), (2, 9, 200), (2, 10, 215), (2, 11, 232), (2, 12, 250), (3, 4, 124), (3, 5, 138), (3, 6, 153), (3, 7, 168), (3, 8, 183), (3, 9, 201), (3, 10, 216), (3, 11, 233), (3, 12, 251), (4, 5, 139), (4, 6, 154), (4, 7, 169), (4, 8, 184), (4, 9, 202), (4, 10, 217), (4, 11, 234), (4, 12, 252), (5, 6, 155), (5, 7, 170), (5, 8, 185), (5, 9, 203), (5, 10, 218), (5, 11, 235), (5, 12, 253), (6, 7, 171), (6, 8, 186), (6, 9, 204), (6, 10, 219), (6, 11, 236), (6, 12, 254), (7, 8, 187), (7, 9, 205), (7, 10, 220), (7, 11, 237), (7, 12, 255), (8, 9, 206), (8, 10, 221), (8, 11, 238), (8, 12, 256), (9, 10, 222), (9, 11, 239), (9, 12, 257), (10, 11, 240), (10, 12, 258), (11, 12, 259)]
set_option maxRecDepth 100000 in
theorem mx_g6a : mx_np6.all (fun q => decide (mx_gn[q.2.2]? = some (Cond.not (Cond.eq (mx_tm q.1) (mx_tm q.2.1))))) = true := by decide +kernel
set_option maxRecDepth 100000 in
theorem mx_g6b : ∀ i, i < mx_byt.length → ∀ j, j < mx_byt.length → i ≠ j → (mx_np6.any (fun q => (q.1 == i && q.2.1 == j) || (q.1 == j && q.2.1 == i))) = true := by decide +kernel
theorem mx_g6 : ∀ i, i < mx_byt.length → ∀ j, j < mx_byt.length → i ≠ j → Cond.not (Cond.eq (mx_tm i) (mx_tm j)) ∈ mx_gn ∨ Cond.not (Cond.eq (mx_tm j) (mx_tm i)) ∈ mx_gn := by
  intro i hi j hj hij
  obtain ⟨q, hq, h⟩ := List.any_eq_true.mp (mx_g6b i hi j hj hij)
  have h2 := List.mem_of_getElem? (of_decide_eq_true (List.all_eq_true.mp mx_g6a q hq))
  simp only [Bool.or_eq_true, Bool.and_eq_true, beq_iff_eq] at h
  rcases h with ⟨h3, h4⟩ | ⟨h3, h4⟩
  · rw [h3, h4] at h2
    exact Or.inl h2
  · rw [h3, h4] at h2
    exact Or.inr h2
set_option maxRecDepth 100000 in
theorem mx_g7 : Cond.eq (.static "java/lang/String" "COMPACT_STRINGS" "Z") (.int 1) ∈ mx_gn ∧ Cond.isRef (.static "jdk/internal/util/Preconditions" "SIOOBE_FORMATTER" "Ljava/util/function/BiFunction;") ∈ mx_gn := by decide +kernel
set_option maxRecDepth 100000 in
theorem mx_g8 : ∀ i, i < mx_byt.length → mx_slens.getD i 0 < 2 ^ 31 := by decide +kernel
set_option maxRecDepth 100000 in
theorem mx_i0 : Cond.instantiable RX0 6 ∈ lw_tbl := List.mem_of_getElem? (i := 106) rfl
set_option maxRecDepth 100000 in
theorem mx_i1 : Cond.instantiable RX1 2 ∈ lw_tbl := List.mem_of_getElem? (i := 239) rfl
set_option maxRecDepth 100000 in
theorem mx_i2 : Cond.instantiable RX2 4 ∈ lw_tbl := List.mem_of_getElem? (i := 113) rfl
set_option maxRecDepth 100000 in
theorem mx_i3 : Cond.instantiable RX3 10 ∈ lw_tbl := List.mem_of_getElem? (i := 175) rfl
set_option maxRecDepth 100000 in
theorem mx_i4 : Cond.instantiable RX4 5 ∈ lw_tbl := List.mem_of_getElem? (i := 214) rfl
set_option maxRecDepth 100000 in
theorem mx_i5 : Cond.instantiable RX5 3 ∈ lw_tbl := List.mem_of_getElem? (i := 285) rfl
set_option maxRecDepth 100000 in
theorem mx_i6 : Cond.instantiable RX6 2 ∈ lw_tbl := List.mem_of_getElem? (i := 469) rfl
set_option maxRecDepth 100000 in
theorem mx_i7 : Cond.instantiable RX7 7 ∈ lw_tbl := List.mem_of_getElem? (i := 254) rfl
set_option maxRecDepth 100000 in
theorem mx_i8 : Cond.instantiable RX8 9 ∈ lw_tbl := List.mem_of_getElem? (i := 98) rfl
set_option maxRecDepth 100000 in
theorem mx_i9 : Cond.instantiable RX9 36 ∈ lw_tbl := List.mem_of_getElem? (i := 955) rfl
set_option maxRecDepth 100000 in
theorem mx_o0 : Cond.arrayOver (.object "BeachIsRelaid$One") ∈ lw_tbl := List.mem_of_getElem? (i := 112) rfl
set_option maxRecDepth 100000 in
theorem mx_o1 : Cond.arrayOver (.object "BeachIsRelaid$Text") ∈ lw_tbl := List.mem_of_getElem? (i := 220) rfl
set_option maxRecDepth 100000 in
theorem mx_o2 : Cond.arrayOver (.object "BeachIsRelaid$Sheet") ∈ lw_tbl := List.mem_of_getElem? (i := 284) rfl
set_option maxRecDepth 100000 in
theorem mx_z1 : Cond.laysStatic "java/lang/String" "COMPACT_STRINGS" "Z" ∈ lw_tbl := List.mem_of_getElem? (i := 314) rfl
set_option maxRecDepth 100000 in
theorem mx_z2 : Cond.laysStatic "jdk/internal/util/Preconditions" "SIOOBE_FORMATTER" "Ljava/util/function/BiFunction;" ∈ lw_tbl := List.mem_of_getElem? (i := 330) rfl
set_option maxRecDepth 100000 in
theorem mx_z3 : Cond.initialized "java/lang/String" ∈ lw_tbl := List.mem_of_getElem? (i := 87) rfl
set_option maxRecDepth 100000 in
theorem mx_z4 : Cond.initialized "jdk/internal/util/Preconditions" ∈ lw_tbl := List.mem_of_getElem? (i := 89) rfl
set_option maxRecDepth 100000 in
theorem mx_z5 : Cond.castable "[I" "java/lang/Cloneable" ∈ lw_tbl := List.mem_of_getElem? (i := 475) rfl
set_option maxRecDepth 100000 in
theorem mx_z6 : ∀ q ∈ mx_nst, Cond.methodLinkNest q.1 q.2.1 q.2.2 "BeachIsRelaid" ∈ lw_tbl := by
  exact List.forall_mem_cons.mpr ⟨List.mem_of_getElem? (i := 114) rfl, List.forall_mem_cons.mpr ⟨List.mem_of_getElem? (i := 176) rfl, List.forall_mem_cons.mpr ⟨List.mem_of_getElem? (i := 215) rfl, List.forall_mem_cons.mpr ⟨List.mem_of_getElem? (i := 240) rfl, List.forall_mem_cons.mpr ⟨List.mem_of_getElem? (i := 255) rfl, List.forall_mem_cons.mpr ⟨List.mem_of_getElem? (i := 286) rfl, List.forall_mem_cons.mpr ⟨List.mem_of_getElem? (i := 456) rfl, List.forall_mem_cons.mpr ⟨List.mem_of_getElem? (i := 542) rfl, List.forall_mem_cons.mpr ⟨List.mem_of_getElem? (i := 588) rfl, List.forall_mem_cons.mpr ⟨List.mem_of_getElem? (i := 612) rfl, List.forall_mem_cons.mpr ⟨List.mem_of_getElem? (i := 639) rfl, List.forall_mem_cons.mpr ⟨List.mem_of_getElem? (i := 648) rfl, List.forall_mem_cons.mpr ⟨List.mem_of_getElem? (i := 679) rfl, List.forall_mem_cons.mpr ⟨List.mem_of_getElem? (i := 683) rfl, List.forall_mem_cons.mpr ⟨List.mem_of_getElem? (i := 686) rfl, List.forall_mem_cons.mpr ⟨List.mem_of_getElem? (i := 719) rfl, List.forall_mem_cons.mpr ⟨List.mem_of_getElem? (i := 764) rfl, List.forall_mem_cons.mpr ⟨List.mem_of_getElem? (i := 765) rfl, List.forall_mem_cons.mpr ⟨List.mem_of_getElem? (i := 766) rfl, List.forall_mem_cons.mpr ⟨List.mem_of_getElem? (i := 793) rfl, List.forall_mem_cons.mpr ⟨List.mem_of_getElem? (i := 900) rfl, fun _ h => absurd h List.not_mem_nil⟩⟩⟩⟩⟩⟩⟩⟩⟩⟩⟩⟩⟩⟩⟩⟩⟩⟩⟩⟩⟩
set_option maxRecDepth 100000 in
theorem mx_z7 : ∀ q ∈ mx_strs, Cond.stringRef q.1 q.2.1 q.2.2 ∈ lw_tbl := by
  exact List.forall_mem_cons.mpr ⟨List.mem_of_getElem? (i := 304) rfl, List.forall_mem_cons.mpr ⟨List.mem_of_getElem? (i := 391) rfl, List.forall_mem_cons.mpr ⟨List.mem_of_getElem? (i := 398) rfl, List.forall_mem_cons.mpr ⟨List.mem_of_getElem? (i := 399) rfl, List.forall_mem_cons.mpr ⟨List.mem_of_getElem? (i := 400) rfl, List.forall_mem_cons.mpr ⟨List.mem_of_getElem? (i := 401) rfl, List.forall_mem_cons.mpr ⟨List.mem_of_getElem? (i := 402) rfl, List.forall_mem_cons.mpr ⟨List.mem_of_getElem? (i := 403) rfl, List.forall_mem_cons.mpr ⟨List.mem_of_getElem? (i := 404) rfl, List.forall_mem_cons.mpr ⟨List.mem_of_getElem? (i := 405) rfl, List.forall_mem_cons.mpr ⟨List.mem_of_getElem? (i := 406) rfl, List.forall_mem_cons.mpr ⟨List.mem_of_getElem? (i := 407) rfl, List.forall_mem_cons.mpr ⟨List.mem_of_getElem? (i := 408) rfl, fun _ h => absurd h List.not_mem_nil⟩⟩⟩⟩⟩⟩⟩⟩⟩⟩⟩⟩⟩
theorem mx_prim {args : Array Value} {s : State} {ty : FieldType} (h : (Cond.arrayClass ty).before args s = true) (hp : ∀ C, ty ≠ .object C) : ∃ cA : ClassId, ArrOfT s cA ty ∧ va_RA s cA ty := by
  obtain ⟨cA, kA, comp, h1, h2, h3⟩ := Cond.arrayClass_spec h
  refine ⟨cA, fun n z => ⟨fun k h => (by cases h), kA, h2, comp, h3⟩, ?_⟩
  cases ty <;> first | exact h1 | exact absurd rfl (hp _)
theorem mx_refA {args : Array Value} {s : State} {C : String} (h : (Cond.arrayOver (.object C)).before args s = true) : ∃ cA : ClassId, ArrOfT s cA (.object C) ∧ va_RA s cA (.object C) := by
  obtain ⟨comp, cA, kA, h1, h2, h3, h4, h5⟩ := Cond.arrayOver_spec h
  exact ⟨cA, fun n z => ⟨fun k h => (by cases h), kA, h3, comp, h4⟩, kA, comp, h3, h4, h1, h5⟩
set_option maxRecDepth 100000 in
theorem mx_start {s : State} {args : Array Value} {b L : Nat} {xs : Nat → Int32} (hts : ∀ w ∈ lw_tbl, w.before args s = true) (hX : va_X b L xs s s.heap) (hbl : b < s.heap.size) (hgv : (Jvm.Cond.and given_1 narrow_1).before args s = true) :
    ∃ (dC : Nat → ClassId) (dI : Nat → Nat → Nat) (tc : Nat → ClassId) (sa av : Nat → Nat), sa 0 = b ∧ mx_KK dC dI tc sa s ∧ mx_EX sa s.heap.size L xs av s s.heap := by
  have hts2 : ∀ w ∈ mx_ts, w.before args s = true := fun w hw => hts w (List.mem_filter.mp hw).1
  have hg : ∀ c ∈ mx_gn, c.before args s = true := flat_of_before _ hgv
  have hA : ∀ a : Nat, a < s.heap.size → ¬ mx_A s.heap.size a := fun a h1 h2 => absurd h1 (Nat.not_lt.mpr h2)
  obtain ⟨adK, adV, hS, hSe⟩ := vk_Sof (args := args) (s := s) (N := mx_byt.length) (tm := mx_tm) (len := mx_slens) (byt := mx_byt) (A := mx_A s.heap.size) mx_g8 (fun i hi => hg _ (mx_g1 i hi)) (fun i hi => hg _ (mx_g2 i hi)) (fun i hi => hg _ (mx_g3 i hi)) (fun i hi => hg _ (mx_g4 i hi)) (fun i hi j hj => hg _ (mx_g5 i hi j hj)) (fun i j hi hj hij => (mx_g6 i hi j hj hij).imp (hg _) (hg _)) hA
  have hkn : ∀ c : Nat, ∃ q : ClassId × (Nat → Nat), ∀ r : vw_C, mx_cl[c]? = some r → u_Kn s r.1 r.2.1 r.2.2 q.1 q.2 := by
    intro c
    cases hr : mx_cl[c]? with
    | none => exact ⟨(0, fun _ => 0), fun r h => by cases h⟩
    | some r =>
      have hi : Cond.instantiable r.1 r.2.2 ∈ lw_tbl := by
        have hlt : c < 10 := (List.getElem?_eq_some_iff.mp hr).1
        match c, hlt, hr with
        | 0, _, hr => cases hr; exact mx_i0
        | 1, _, hr => cases hr; exact mx_i1
        | 2, _, hr => cases hr; exact mx_i2
        | 3, _, hr => cases hr; exact mx_i3
        | 4, _, hr => cases hr; exact mx_i4
        | 5, _, hr => cases hr; exact mx_i5
        | 6, _, hr => cases hr; exact mx_i6
        | 7, _, hr => cases hr; exact mx_i7
        | 8, _, hr => cases hr; exact mx_i8
        | 9, _, hr => cases hr; exact mx_i9
      obtain ⟨cC, iS, h⟩ := u_known (C := r.1) (T := r.2.1) (N := r.2.2) (n := r.2.2) hts2 (mx_uws c r hr) (hts _ hi)
      exact ⟨(cC, iS), fun r2 h2 => by cases h2; exact h⟩
  obtain ⟨dd, hdd⟩ := Classical.axiomOfChoice hkn
  obtain ⟨t0, a0, r0⟩ := mx_prim (hts2 _ mx_aI) (fun C h => by cases h)
  obtain ⟨t1, a1, r1⟩ := mx_prim (hts2 _ mx_aZ) (fun C h => by cases h)
  obtain ⟨t2, a2, r2⟩ := mx_prim (hts2 _ mx_aC) (fun C h => by cases h)
  obtain ⟨t3, a3, r3⟩ := mx_refA (hts _ mx_o0)
  obtain ⟨t4, a4, r4⟩ := mx_refA (hts _ mx_o1)
  obtain ⟨t5, a5, r5⟩ := mx_refA (hts _ mx_o2)
  refine ⟨fun c => (dd c).1, fun c => (dd c).2, fun t => [t0, t1, t2, t3, t4, t5].getD t 0, fun j => if j = 0 then b else adK (j - 1), adV, rfl, ⟨⟨fun c q hq => hdd c q hq, ?_⟩, fun q hq => va_Nw.of rfl (hts _ (mx_z6 q hq)), ?_, ⟨va_AO.of (hts _ mx_o0), va_AO.of (hts _ mx_o1), va_AO.of (hts _ mx_o2)⟩, va_Nw.of rfl (hts _ mx_z5)⟩, ⟨hbl, hX, ?_, va_Zof (hts _ mx_z1) (hts _ mx_z3) (va_eqt (hg _ mx_g7.1)) hA, va_Zqof (hts _ mx_z2) (hts _ mx_z4) (hg _ mx_g7.2) hA⟩⟩
  · intro k q hq
    have hlt : k < 6 := (List.getElem?_eq_some_iff.mp hq).1
    match k, hlt, hq with
    | 0, _, hq => cases hq; exact ⟨a0, r0⟩
    | 1, _, hq => cases hq; exact ⟨a1, r1⟩
    | 2, _, hq => cases hq; exact ⟨a2, r2⟩
    | 3, _, hq => cases hq; exact ⟨a3, r3⟩
    | 4, _, hq => cases hq; exact ⟨a4, r4⟩
    | 5, _, hq => cases hq; exact ⟨a5, r5⟩
  · intro j q hq
    have hj : j < mx_byt.length := (List.getElem?_eq_some_iff.mp hq).1
    have he := hSe j hj
    have hg0 : mx_strs.getD j ("", 0, "") = q := by rw [List.getD_eq_getElem?_getD, hq]; rfl
    unfold mx_tm at he
    rw [hg0] at he
    show vk_R q.1 q.2.1 q.2.2 (if j + 1 = 0 then b else adK (j + 1 - 1)) s
    rw [if_neg (Nat.succ_ne_zero j), Nat.add_sub_cancel]
    exact vk_R.of (A := args) (hts _ (mx_z7 q (List.mem_of_getElem? hq))) he
  · have hfe : (fun j => if j + 1 = 0 then b else adK (j + 1 - 1)) = adK := by
      funext j
      rw [if_neg (Nat.succ_ne_zero j), Nat.add_sub_cancel]
    rw [hfe]
    exact hS
