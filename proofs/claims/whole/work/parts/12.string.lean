/-! ===== String constants: length, charAt ===== -/
def ms_ylen : MethodName := ⟨"java/lang/String", "length", "()I"⟩
set_option maxRecDepth 100000 in
theorem ms_wlen : Cond.code ms_ylen prog_16_method_54_code 1 (some .int) ∈ mx_ts ∧ Cond.initialized "java/lang/String" ∈ mx_ts ∧ Cond.instanceMethod ms_ylen ∈ mx_ts := ⟨mx_in 308 rfl rfl, mx_in 87 rfl rfl, mx_in 306 rfl rfl⟩
set_option maxRecDepth 100000 in
theorem ms_slen : Cond.selects "java/lang/String" ms_ylen ms_ylen ∈ mx_ts := mx_in 307 rfl rfl
def ms_wslen : List Cond := Cond.code ms_ylen prog_16_method_54_code 1 (some .int) :: mx_ts
theorem ms_glen : GoodIn mx_ts ms_wslen := by
  intro w hw
  rcases List.mem_cons.mp hw with rfl | hw
  · exact ⟨ms_wlen.1, good_of_word (List.mem_filter.mp ms_wlen.1).2⟩
  · exact ⟨hw, good_of_word (List.mem_filter.mp hw).2⟩
def ms_ycod : MethodName := ⟨"java/lang/String", "coder", "()B"⟩
set_option maxRecDepth 100000 in
theorem ms_wcod : Cond.code ms_ycod prog_16_method_152_code 1 (some .byte) ∈ mx_ts ∧ Cond.initialized "java/lang/String" ∈ mx_ts ∧ Cond.instanceMethod ms_ycod ∈ mx_ts := ⟨mx_in 312 rfl rfl, mx_in 87 rfl rfl, mx_in 310 rfl rfl⟩
set_option maxRecDepth 100000 in
theorem ms_scod : Cond.selects "java/lang/String" ms_ycod ms_ycod ∈ mx_ts := mx_in 311 rfl rfl
def ms_wscod : List Cond := Cond.code ms_ycod prog_16_method_152_code 1 (some .byte) :: mx_ts
theorem ms_gcod : GoodIn mx_ts ms_wscod := by
  intro w hw
  rcases List.mem_cons.mp hw with rfl | hw
  · exact ⟨ms_wcod.1, good_of_word (List.mem_filter.mp ms_wcod.1).2⟩
  · exact ⟨hw, good_of_word (List.mem_filter.mp hw).2⟩
def ms_ylat : MethodName := ⟨"java/lang/String", "isLatin1", "()Z"⟩
set_option maxRecDepth 100000 in
theorem ms_wlat : Cond.code ms_ylat prog_16_method_154_code 1 (some .boolean) ∈ mx_ts ∧ Cond.initialized "java/lang/String" ∈ mx_ts ∧ Cond.instanceMethod ms_ylat ∈ mx_ts := ⟨mx_in 322 rfl rfl, mx_in 87 rfl rfl, mx_in 320 rfl rfl⟩
set_option maxRecDepth 100000 in
theorem ms_slat : Cond.selects "java/lang/String" ms_ylat ms_ylat ∈ mx_ts := mx_in 321 rfl rfl
def ms_wslat : List Cond := Cond.code ms_ylat prog_16_method_154_code 1 (some .boolean) :: mx_ts
theorem ms_glat : GoodIn mx_ts ms_wslat := by
  intro w hw
  rcases List.mem_cons.mp hw with rfl | hw
  · exact ⟨ms_wlat.1, good_of_word (List.mem_filter.mp ms_wlat.1).2⟩
  · exact ⟨hw, good_of_word (List.mem_filter.mp hw).2⟩
def ms_ychr : MethodName := ⟨"java/lang/String", "charAt", "(I)C"⟩
set_option maxRecDepth 100000 in
theorem ms_wchr : Cond.code ms_ychr prog_16_method_56_code 2 (some .char) ∈ mx_ts ∧ Cond.initialized "java/lang/String" ∈ mx_ts ∧ Cond.instanceMethod ms_ychr ∈ mx_ts := ⟨mx_in 318 rfl rfl, mx_in 87 rfl rfl, mx_in 316 rfl rfl⟩
set_option maxRecDepth 100000 in
theorem ms_schr : Cond.selects "java/lang/String" ms_ychr ms_ychr ∈ mx_ts := mx_in 317 rfl rfl
def ms_wschr : List Cond := Cond.code ms_ychr prog_16_method_56_code 2 (some .char) :: mx_ts
theorem ms_gchr : GoodIn mx_ts ms_wschr := by
  intro w hw
  rcases List.mem_cons.mp hw with rfl | hw
  · exact ⟨ms_wchr.1, good_of_word (List.mem_filter.mp ms_wchr.1).2⟩
  · exact ⟨hw, good_of_word (List.mem_filter.mp hw).2⟩
def ms_ylch : MethodName := ⟨"java/lang/StringLatin1", "charAt", "([BI)C"⟩
set_option maxRecDepth 100000 in
theorem ms_wlch : Cond.code ms_ylch prog_17_method_2_code 2 (some .char) ∈ mx_ts ∧ Cond.initialized "java/lang/StringLatin1" ∈ mx_ts ∧ Cond.static ms_ylch ∈ mx_ts := ⟨mx_in 325 rfl rfl, mx_in 88 rfl rfl, mx_in 324 rfl rfl⟩
def ms_wslch : List Cond := Cond.code ms_ylch prog_17_method_2_code 2 (some .char) :: mx_ts
theorem ms_glch : GoodIn mx_ts ms_wslch := by
  intro w hw
  rcases List.mem_cons.mp hw with rfl | hw
  · exact ⟨ms_wlch.1, good_of_word (List.mem_filter.mp ms_wlch.1).2⟩
  · exact ⟨hw, good_of_word (List.mem_filter.mp hw).2⟩
def ms_ychk : MethodName := ⟨"java/lang/String", "checkIndex", "(II)V"⟩
set_option maxRecDepth 100000 in
theorem ms_wchk : Cond.code ms_ychk prog_16_method_155_code 2 none ∈ mx_ts ∧ Cond.initialized "java/lang/String" ∈ mx_ts ∧ Cond.static ms_ychk ∈ mx_ts := ⟨mx_in 328 rfl rfl, mx_in 87 rfl rfl, mx_in 327 rfl rfl⟩
def ms_wschk : List Cond := Cond.code ms_ychk prog_16_method_155_code 2 none :: mx_ts
theorem ms_gchk : GoodIn mx_ts ms_wschk := by
  intro w hw
  rcases List.mem_cons.mp hw with rfl | hw
  · exact ⟨ms_wchk.1, good_of_word (List.mem_filter.mp ms_wchk.1).2⟩
  · exact ⟨hw, good_of_word (List.mem_filter.mp hw).2⟩
def ms_ypre : MethodName := ⟨"jdk/internal/util/Preconditions", "checkIndex", "(IILjava/util/function/BiFunction;)I"⟩
set_option maxRecDepth 100000 in
theorem ms_wpre : Cond.code ms_ypre prog_20_method_11_code 3 (some .int) ∈ mx_ts ∧ Cond.initialized "jdk/internal/util/Preconditions" ∈ mx_ts ∧ Cond.static ms_ypre ∈ mx_ts := ⟨mx_in 333 rfl rfl, mx_in 89 rfl rfl, mx_in 332 rfl rfl⟩
def ms_wspre : List Cond := Cond.code ms_ypre prog_20_method_11_code 3 (some .int) :: mx_ts
theorem ms_gpre : GoodIn mx_ts ms_wspre := by
  intro w hw
  rcases List.mem_cons.mp hw with rfl | hw
  · exact ⟨ms_wpre.1, good_of_word (List.mem_filter.mp ms_wpre.1).2⟩
  · exact ⟨hw, good_of_word (List.mem_filter.mp hw).2⟩
set_option maxRecDepth 100000 in
theorem ms_llen_cod : Cond.methodLink "java/lang/String" 335 ms_ycod ∈ mx_ts := mx_in 309 rfl rfl
set_option maxRecDepth 100000 in
theorem ms_lchr_lat : Cond.methodLink "java/lang/String" 492 ms_ylat ∈ mx_ts := mx_in 319 rfl rfl
set_option maxRecDepth 100000 in
theorem ms_lchr_lch : Cond.methodLink "java/lang/String" 495 ms_ylch ∈ mx_ts := mx_in 323 rfl rfl
set_option maxRecDepth 100000 in
theorem ms_llch_chk : Cond.methodLink "java/lang/StringLatin1" 9 ms_ychk ∈ mx_ts := mx_in 326 rfl rfl
set_option maxRecDepth 100000 in
theorem ms_lchk_pre : Cond.methodLink "java/lang/String" 1059 ms_ypre ∈ mx_ts := mx_in 331 rfl rfl
set_option maxRecDepth 100000 in
theorem ms_fcom : Cond.fieldLink "java/lang/String" 38 "java/lang/String" "COMPACT_STRINGS" "Z" ∈ mx_ts := mx_in 313 rfl rfl
set_option maxRecDepth 100000 in
theorem ms_fval : Cond.fieldLink "java/lang/String" 9 "java/lang/String" "value" "[B" ∈ mx_ts := mx_in 1392 rfl rfl
set_option maxRecDepth 100000 in
theorem ms_fcod : Cond.fieldLink "java/lang/String" 15 "java/lang/String" "coder" "B" ∈ mx_ts := mx_in 1393 rfl rfl
set_option maxRecDepth 100000 in
theorem ms_fsio : Cond.fieldLink "java/lang/String" 1053 "jdk/internal/util/Preconditions" "SIOOBE_FORMATTER" "Ljava/util/function/BiFunction;" ∈ mx_ts := mx_in 329 rfl rfl
theorem ms_dlen_0 : decode prog_16_method_54_code 0 = .ok (.aload_n 0, 1) := by decide +kernel
theorem ms_dlen_1 : decode prog_16_method_54_code 1 = .ok (.getfield 9, 3) := by decide +kernel
theorem ms_dlen_4 : decode prog_16_method_54_code 4 = .ok (.arraylength, 1) := by decide +kernel
theorem ms_dlen_5 : decode prog_16_method_54_code 5 = .ok (.aload_n 0, 1) := by decide +kernel
theorem ms_dlen_6 : decode prog_16_method_54_code 6 = .ok (.invokevirtual 335, 3) := by decide +kernel
theorem ms_dlen_9 : decode prog_16_method_54_code 9 = .ok (.ishr, 1) := by decide +kernel
theorem ms_dlen_10 : decode prog_16_method_54_code 10 = .ok (.ireturn, 1) := by decide +kernel
theorem ms_dcod_0 : decode prog_16_method_152_code 0 = .ok (.getstatic 38, 3) := by decide +kernel
theorem ms_dcod_3 : decode prog_16_method_152_code 3 = .ok (.ifCond .eq 10, 3) := by decide +kernel
theorem ms_dcod_6 : decode prog_16_method_152_code 6 = .ok (.aload_n 0, 1) := by decide +kernel
theorem ms_dcod_7 : decode prog_16_method_152_code 7 = .ok (.getfield 15, 3) := by decide +kernel
theorem ms_dcod_10 : decode prog_16_method_152_code 10 = .ok (.goto 4, 3) := by decide +kernel
theorem ms_dcod_14 : decode prog_16_method_152_code 14 = .ok (.ireturn, 1) := by decide +kernel
theorem ms_dlat_0 : decode prog_16_method_154_code 0 = .ok (.getstatic 38, 3) := by decide +kernel
theorem ms_dlat_3 : decode prog_16_method_154_code 3 = .ok (.ifCond .eq 14, 3) := by decide +kernel
theorem ms_dlat_6 : decode prog_16_method_154_code 6 = .ok (.aload_n 0, 1) := by decide +kernel
theorem ms_dlat_7 : decode prog_16_method_154_code 7 = .ok (.getfield 15, 3) := by decide +kernel
theorem ms_dlat_10 : decode prog_16_method_154_code 10 = .ok (.ifCond .ne 7, 3) := by decide +kernel
theorem ms_dlat_13 : decode prog_16_method_154_code 13 = .ok (.iconst 1, 1) := by decide +kernel
theorem ms_dlat_14 : decode prog_16_method_154_code 14 = .ok (.goto 4, 3) := by decide +kernel
theorem ms_dlat_18 : decode prog_16_method_154_code 18 = .ok (.ireturn, 1) := by decide +kernel
theorem ms_dchr_0 : decode prog_16_method_56_code 0 = .ok (.aload_n 0, 1) := by decide +kernel
theorem ms_dchr_1 : decode prog_16_method_56_code 1 = .ok (.invokevirtual 492, 3) := by decide +kernel
theorem ms_dchr_4 : decode prog_16_method_56_code 4 = .ok (.ifCond .eq 12, 3) := by decide +kernel
theorem ms_dchr_7 : decode prog_16_method_56_code 7 = .ok (.aload_n 0, 1) := by decide +kernel
theorem ms_dchr_8 : decode prog_16_method_56_code 8 = .ok (.getfield 9, 3) := by decide +kernel
theorem ms_dchr_11 : decode prog_16_method_56_code 11 = .ok (.iload_n 1, 1) := by decide +kernel
theorem ms_dchr_12 : decode prog_16_method_56_code 12 = .ok (.invokestatic 495, 3) := by decide +kernel
theorem ms_dchr_15 : decode prog_16_method_56_code 15 = .ok (.ireturn, 1) := by decide +kernel
theorem ms_dlch_0 : decode prog_17_method_2_code 0 = .ok (.iload_n 1, 1) := by decide +kernel
theorem ms_dlch_1 : decode prog_17_method_2_code 1 = .ok (.aload_n 0, 1) := by decide +kernel
theorem ms_dlch_2 : decode prog_17_method_2_code 2 = .ok (.arraylength, 1) := by decide +kernel
theorem ms_dlch_3 : decode prog_17_method_2_code 3 = .ok (.invokestatic 9, 3) := by decide +kernel
theorem ms_dlch_6 : decode prog_17_method_2_code 6 = .ok (.aload_n 0, 1) := by decide +kernel
theorem ms_dlch_7 : decode prog_17_method_2_code 7 = .ok (.iload_n 1, 1) := by decide +kernel
theorem ms_dlch_8 : decode prog_17_method_2_code 8 = .ok (.baload, 1) := by decide +kernel
theorem ms_dlch_9 : decode prog_17_method_2_code 9 = .ok (.sipush 255, 3) := by decide +kernel
theorem ms_dlch_12 : decode prog_17_method_2_code 12 = .ok (.iand, 1) := by decide +kernel
theorem ms_dlch_13 : decode prog_17_method_2_code 13 = .ok (.i2c, 1) := by decide +kernel
theorem ms_dlch_14 : decode prog_17_method_2_code 14 = .ok (.ireturn, 1) := by decide +kernel
theorem ms_dchk_0 : decode prog_16_method_155_code 0 = .ok (.iload_n 0, 1) := by decide +kernel
theorem ms_dchk_1 : decode prog_16_method_155_code 1 = .ok (.iload_n 1, 1) := by decide +kernel
theorem ms_dchk_2 : decode prog_16_method_155_code 2 = .ok (.getstatic 1053, 3) := by decide +kernel
theorem ms_dchk_5 : decode prog_16_method_155_code 5 = .ok (.invokestatic 1059, 3) := by decide +kernel
theorem ms_dchk_8 : decode prog_16_method_155_code 8 = .ok (.pop, 1) := by decide +kernel
theorem ms_dchk_9 : decode prog_16_method_155_code 9 = .ok (.return_, 1) := by decide +kernel
theorem ms_dpre_0 : decode prog_20_method_11_code 0 = .ok (.iload_n 0, 1) := by decide +kernel
theorem ms_dpre_1 : decode prog_20_method_11_code 1 = .ok (.ifCond .lt 8, 3) := by decide +kernel
theorem ms_dpre_4 : decode prog_20_method_11_code 4 = .ok (.iload_n 0, 1) := by decide +kernel
theorem ms_dpre_5 : decode prog_20_method_11_code 5 = .ok (.iload_n 1, 1) := by decide +kernel
theorem ms_dpre_6 : decode prog_20_method_11_code 6 = .ok (.if_icmp .lt 10, 3) := by decide +kernel
theorem ms_dpre_16 : decode prog_20_method_11_code 16 = .ok (.iload_n 0, 1) := by decide +kernel
theorem ms_dpre_17 : decode prog_20_method_11_code 17 = .ok (.ireturn, 1) := by decide +kernel
set_option maxRecDepth 100000 in
theorem ms_tab : ∀ i, i < mx_byt.length → ∀ j, j < mx_slens.getD i 0 → (((mx_byt.getD i []).getD j 0 &&& 255).toUInt32 % 65536).toInt32 = (mx_byt.getD i []).getD j 0 ∧ narrow .char (.int ((mx_byt.getD i []).getD j 0)) = .int ((mx_byt.getD i []).getD j 0) ∧ mx_slens.getD i 0 = (mx_byt.getD i []).length ∧ mx_slens.getD i 0 < 2 ^ 31 := by decide +kernel
theorem ms_tab2 : ∀ i, i < mx_byt.length → mx_slens.getD i 0 = (mx_byt.getD i []).length ∧ mx_slens.getD i 0 < 2 ^ 31 ∧ (Int32.ofNat (mx_slens.getD i 0)) >>> ((0 : Int32) &&& 31) = Int32.ofNat (mx_slens.getD i 0) := by decide +kernel
section MSC
variable {p : Program} {l : Launch} {e : Env} {R : Room} {s : State} {m : MethodId} {args : Array Value} {below : List Frame} {meth : Method} {c : Code} {H : Heap} {locs : List Loc} {cells slots : Nat} {Q : State → Prop}
variable {sa : Nat → Nat} {base Ls : Nat} {xs : Nat → Int32} {av : Nat → Nat} {pc : Nat} {ls : Array Slot}
theorem ms_callp {rest st0 : List Value} {v0 : Option Value} {Qa : State → Outcome → State → Prop} (hr : va_Run p l e R s m args below meth c H locs cells slots 0 0 (F0 m pc ls st0) rest Qa (fun _ => False)) (hQ : ∀ (x t : State) (v : Option Value), Qa x (.returned v) t → v = v0 ∧ t.heap = x.heap) (kk : W p l e R s m args below meth c H locs cells slots Q (F0 m (pc + 3) ls (v0.toList ++ rest))) : W p l e R s m args below meth c H locs cells slots Q (F0 m pc ls st0) := by
  intro T hT X
  obtain ⟨v, x, t, T', L, h0, X', hL, e1, e2, hq, st⟩ := hr T hT X
  obtain ⟨hv, hh⟩ := hQ _ _ _ hq
  subst hv
  have hnil : L = [] := List.eq_nil_iff_forall_not_mem.mpr (fun q hq => hL q hq)
  subst hnil
  rw [List.append_nil] at X'
  obtain ⟨t2, a1, b1⟩ := kk T' (by rw [e1, hh, h0]) X'
  exact ⟨t2, st t2 a1, b1⟩
def ms_P (sa : Nat → Nat) (base Ls : Nat) (xs : Nat → Int32) (av : Nat → Nat) (vs : List Value) : Array Value → State → Prop := fun v U => v = vs.toArray ∧ mx_EX sa base Ls xs av U U.heap
def ms_Q (v0 : Option Value) : Array Value → State → Outcome → State → Prop := fun _ x o t => o = .returned v0 ∧ t.heap = x.heap
theorem ms_blind {vs : List Value} : FrameBlind (ms_P sa base Ls xs av vs) := by
  intro v U g mk q
  obtain ⟨q1, z1, z2, z3, z4, z5⟩ := q
  exact ⟨q1, z1, va_X.moved (u := U) (U := U.calling g mk v) (Vm.Alike.refl U.vm) z2, vk_S.moved (u := U) (U := U.calling g mk v) (Vm.Alike.refl U.vm) z3, va_Z.moved (u := U) (U := U.calling g mk v) (Vm.Alike.refl U.vm) z4, va_Zq.moved (u := U) (U := U.calling g mk v) (Vm.Alike.refl U.vm) z5⟩
theorem ms_EXw {s U : State} {H : Heap} (hW : s.WarmedH U.vm) (h : mx_EX sa base Ls xs av s H) : mx_EX sa base Ls xs av U H := by
  obtain ⟨h1, h2, h3, h4, h5⟩ := h
  exact ⟨h1, h2.moved hW.alike, h3.moved hW.alike, va_Z.moved hW.alike h4, va_Zq.moved hW.alike h5⟩
theorem ms_pre {vs : List Value} (hE : mx_EX sa base Ls xs av s H) : ∀ U : State, U.heap = H → s.WarmedH U.vm → ms_P sa base Ls xs av vs vs.toArray U := by
  intro U hU hW
  refine ⟨rfl, ?_⟩
  rw [hU]
  exact ms_EXw hW hE
theorem ms_ccod {i : Nat} (hi : i < mx_byt.length) : Met l ms_ycod ms_wscod { frames := 0, cells := 0, slots := 0, locals := 0 } (ms_P sa base Ls xs av [.ref (sa (i + 1))]) (ms_Q (some (.int 0))) 0 0 (fun _ => False) := by
  refine Met.ofW (cc := prog_16_method_152_code) (maxL := 1) (ret := (some .byte)) (by decide +kernel) rfl ?_
  intro p e s m args below meth c s₁ B hml hv
  obtain ⟨rfl, hE⟩ := hv
  have hx := B.exec
  have hb := B.bytes
  have hr := B.returns
  have hts0 := atoms_spec (ws := ms_wscod) B.pre
  have hts : ∀ w ∈ mx_ts, w.before _ s = true := fun w hw => hts0 w (List.mem_cons_of_mem _ hw)
  have hown : s.vm.findClass "java/lang/String" = some m.cls := findClass_of_methodNamed B.named
  have hlocks := B.notSynchronized
  have hS : va_S (mx_A base) s.heap s.heap [] := va_S.rf
  have hl := lv_entry ([.ref (sa (i + 1))]) (n := 1) (Nat.le_of_ble_eq_true rfl)
  rw [lg_entry_eq]
  generalize (lg_sl ([.ref (sa (i + 1))]) ++ List.replicate (1 - (lg_sl ([.ref (sa (i + 1))])).length) Slot.unset).toArray = ls at hl ⊢
  have hl : lv_has ls 1 [(0, .ref (sa (i + 1)))] := hl
  have hsz : ls.size = 1 := hl.1
  refine va_gets hx hb hE.2.2.2.1 hS hown (hts _ ms_fcom) (fun _ z => z) ms_dcod_0 ?_
  refine lv_if_eq (tgt := 13) hx hb ms_dcod_3 (by decide) (fun z => absurd z (by decide)) (fun _ => ?_)
  refine lv_aload_n hx hb ms_dcod_6 rfl (lv_at hl 0 rfl) ?_
  refine vk_getf hx hb (hE.2.2.1.1 i hi).2.1 hS hown (hts _ ms_fcod) (fun _ z => z) ms_dcod_7 ?_
  refine lv_goto (tgt := 14) hx hb ms_dcod_10 (by decide) ?_
  exact W.zret hx hb hr rfl (fun t ht hW => ⟨rfl, ht⟩) (fun q hq => by cases hq) ms_dcod_14
theorem ms_clat {i : Nat} (hi : i < mx_byt.length) : Met l ms_ylat ms_wslat { frames := 0, cells := 0, slots := 0, locals := 0 } (ms_P sa base Ls xs av [.ref (sa (i + 1))]) (ms_Q (some (.int 1))) 0 0 (fun _ => False) := by
  refine Met.ofW (cc := prog_16_method_154_code) (maxL := 1) (ret := (some .boolean)) (by decide +kernel) rfl ?_
  intro p e s m args below meth c s₁ B hml hv
  obtain ⟨rfl, hE⟩ := hv
  have hx := B.exec
  have hb := B.bytes
  have hr := B.returns
  have hts0 := atoms_spec (ws := ms_wslat) B.pre
  have hts : ∀ w ∈ mx_ts, w.before _ s = true := fun w hw => hts0 w (List.mem_cons_of_mem _ hw)
  have hown : s.vm.findClass "java/lang/String" = some m.cls := findClass_of_methodNamed B.named
  have hlocks := B.notSynchronized
  have hS : va_S (mx_A base) s.heap s.heap [] := va_S.rf
  have hl := lv_entry ([.ref (sa (i + 1))]) (n := 1) (Nat.le_of_ble_eq_true rfl)
  rw [lg_entry_eq]
  generalize (lg_sl ([.ref (sa (i + 1))]) ++ List.replicate (1 - (lg_sl ([.ref (sa (i + 1))])).length) Slot.unset).toArray = ls at hl ⊢
  have hl : lv_has ls 1 [(0, .ref (sa (i + 1)))] := hl
  have hsz : ls.size = 1 := hl.1
  refine va_gets hx hb hE.2.2.2.1 hS hown (hts _ ms_fcom) (fun _ z => z) ms_dlat_0 ?_
  refine lv_if_eq (tgt := 17) hx hb ms_dlat_3 (by decide) (fun z => absurd z (by decide)) (fun _ => ?_)
  refine lv_aload_n hx hb ms_dlat_6 rfl (lv_at hl 0 rfl) ?_
  refine vk_getf hx hb (hE.2.2.1.1 i hi).2.1 hS hown (hts _ ms_fcod) (fun _ z => z) ms_dlat_7 ?_
  refine lv_if_ne (tgt := 17) hx hb ms_dlat_10 (by decide) (fun z => absurd rfl z) (fun _ => ?_)
  refine lv_iconst (v := 1) hx hb ms_dlat_13 (by decide) ?_
  refine lv_goto (tgt := 18) hx hb ms_dlat_14 (by decide) ?_
  exact W.zret hx hb hr rfl (fun t ht hW => ⟨rfl, ht⟩) (fun q hq => by cases hq) ms_dlat_18
theorem ms_clen {i : Nat} (hi : i < mx_byt.length) : Met l ms_ylen ms_wslen { frames := 1, cells := 0, slots := 0, locals := 20 } (ms_P sa base Ls xs av [.ref (sa (i + 1))]) (ms_Q (some (.int (Int32.ofNat (mx_slens.getD i 0))))) 0 0 (fun _ => False) := by
  refine Met.ofW (cc := prog_16_method_54_code) (maxL := 1) (ret := (some .int)) (by decide +kernel) rfl ?_
  intro p e s m args below meth c s₁ B hml hv
  obtain ⟨rfl, hE⟩ := hv
  have hx := B.exec
  have hb := B.bytes
  have hr := B.returns
  have hts0 := atoms_spec (ws := ms_wslen) B.pre
  have hts : ∀ w ∈ mx_ts, w.before _ s = true := fun w hw => hts0 w (List.mem_cons_of_mem _ hw)
  have hown : s.vm.findClass "java/lang/String" = some m.cls := findClass_of_methodNamed B.named
  have hlocks := B.notSynchronized
  have hS : va_S (mx_A base) s.heap s.heap [] := va_S.rf
  have hl := lv_entry ([.ref (sa (i + 1))]) (n := 1) (Nat.le_of_ble_eq_true rfl)
  rw [lg_entry_eq]
  generalize (lg_sl ([.ref (sa (i + 1))]) ++ List.replicate (1 - (lg_sl ([.ref (sa (i + 1))])).length) Slot.unset).toArray = ls at hl ⊢
  have hl : lv_has ls 1 [(0, .ref (sa (i + 1)))] := hl
  have hsz : ls.size = 1 := hl.1
  refine lv_aload_n hx hb ms_dlen_0 rfl (lv_at hl 0 rfl) ?_
  refine vk_getf hx hb (hE.2.2.1.1 i hi).2.2.1 hS hown (hts _ ms_fval) (fun _ z => z) ms_dlen_1 ?_
  refine va_tlen hx hb (hE.2.2.1.1 i hi).2.2.2 hS rfl ms_dlen_4 ?_
  refine lv_aload_n hx hb ms_dlen_5 rfl (lv_at hl 0 rfl) ?_
  have hcb := callB_of (R := (headSpec ms_wslen { frames := 1, cells := 0, slots := 0, locals := 20 }).room) (rm := { frames := 0, cells := 0, slots := 0, locals := 0 }) (mc := 0) (ms := 0) (bytes := prog_16_method_152_code) (maxL := 1) (ret := (some .byte)) 0 hts ms_gcod rfl rfl rfl (hts _ ms_wcod.2.1) (hts _ ms_llen_cod) ⟨by decide +kernel, by decide +kernel, by decide +kernel⟩ ⟨by decide, by decide⟩
  refine ms_callp (v0 := some (.int 0)) (va_runV (As := []) (b := sa (i + 1)) (rest := [.int (Int32.ofNat (mx_slens.getD i 0))]) ⟨hx, hb, hml, hown, hts⟩ (ms_ccod (sa := sa) (base := base) (Ls := Ls) (xs := xs) (av := av) hi) ⟨hcb, hts _ ms_wcod.2.2, hts _ ms_scod⟩ ⟨ms_blind, vk_recv (adK := fun j => sa (j + 1)) (i := i) hE.2.2.1 hi hS, ms_pre hE⟩ rfl rfl hsz rfl (Nat.le_of_ble_eq_true rfl) ms_dlen_6 ⟨by decide, by decide⟩) (fun x t v z => ⟨Outcome.returned.inj z.1, z.2⟩) ?_
  refine lv_ishr hx hb ms_dlen_9 ?_
  rw [(ms_tab2 i hi).2.2]
  exact W.zret hx hb hr rfl (fun t ht hW => ⟨rfl, ht⟩) (fun q hq => by cases hq) ms_dlen_10
theorem ms_cpreN {j : Int32} {n : Nat} (hj : vp_in j n) (hn : n < 2 ^ 31) : Met l ms_ypre ms_wspre { frames := 0, cells := 0, slots := 0, locals := 0 } (ms_P sa base Ls xs av [.int j, .int (Int32.ofNat n), .null]) (ms_Q (some (.int j))) 0 0 (fun _ => False) := by
  refine Met.ofW (cc := prog_20_method_11_code) (maxL := 3) (ret := (some .int)) (by decide +kernel) rfl ?_
  intro p e s m args below meth c s₁ B hml hv
  obtain ⟨rfl, hE⟩ := hv
  have hx := B.exec
  have hb := B.bytes
  have hr := B.returns
  have hts0 := atoms_spec (ws := ms_wspre) B.pre
  have hts : ∀ w ∈ mx_ts, w.before _ s = true := fun w hw => hts0 w (List.mem_cons_of_mem _ hw)
  have hown : s.vm.findClass "jdk/internal/util/Preconditions" = some m.cls := findClass_of_methodNamed B.named
  have hlocks := B.notSynchronized
  have hS : va_S (mx_A base) s.heap s.heap [] := va_S.rf
  have hl := lv_entry ([.int j, .int (Int32.ofNat n), .null]) (n := 3) (Nat.le_of_ble_eq_true rfl)
  rw [lg_entry_eq]
  generalize (lg_sl ([.int j, .int (Int32.ofNat n), .null]) ++ List.replicate (3 - (lg_sl ([.int j, .int (Int32.ofNat n), .null])).length) Slot.unset).toArray = ls at hl ⊢
  have hl : lv_has ls 3 [(0, .int j), (1, .int (Int32.ofNat n)), (2, .null)] := hl
  have hsz : ls.size = 3 := hl.1
  have hj2 := vp_in_iff.mp hj
  refine lv_iload_n hx hb ms_dpre_0 rfl (lv_at hl 0 rfl) ?_
  refine lv_if_lt (tgt := 9) hx hb ms_dpre_1 (by decide) (fun z => ?_) (fun _ => ?_)
  · exact absurd (Int32.lt_iff_toInt_lt.mp z) (by rw [Int32.toInt_zero]; omega)
  · refine lv_iload_n hx hb ms_dpre_4 rfl (lv_at hl 0 rfl) ?_
    refine lv_iload_n hx hb ms_dpre_5 rfl (lv_at hl 1 rfl) ?_
    refine lv_icmp_lt (tgt := 16) hx hb ms_dpre_6 (by decide) (fun _ => ?_) (fun z => ?_)
    · refine lv_iload_n hx hb ms_dpre_16 rfl (lv_at hl 0 rfl) ?_
      exact W.zret hx hb hr rfl (fun t ht hW => ⟨rfl, ht⟩) (fun q hq => by cases hq) ms_dpre_17
    · exact absurd (Int32.lt_iff_toInt_lt.mpr (by rw [show (Int32.ofNat n).toInt = (n : Int) from nI_toInt hn]; exact hj2.2)) z
theorem ms_cpreR {j : Int32} {n t0 : Nat} (hj : vp_in j n) (hn : n < 2 ^ 31) : Met l ms_ypre ms_wspre { frames := 0, cells := 0, slots := 0, locals := 0 } (ms_P sa base Ls xs av [.int j, .int (Int32.ofNat n), .ref t0]) (ms_Q (some (.int j))) 0 0 (fun _ => False) := by
  refine Met.ofW (cc := prog_20_method_11_code) (maxL := 3) (ret := (some .int)) (by decide +kernel) rfl ?_
  intro p e s m args below meth c s₁ B hml hv
  obtain ⟨rfl, hE⟩ := hv
  have hx := B.exec
  have hb := B.bytes
  have hr := B.returns
  have hts0 := atoms_spec (ws := ms_wspre) B.pre
  have hts : ∀ w ∈ mx_ts, w.before _ s = true := fun w hw => hts0 w (List.mem_cons_of_mem _ hw)
  have hown : s.vm.findClass "jdk/internal/util/Preconditions" = some m.cls := findClass_of_methodNamed B.named
  have hlocks := B.notSynchronized
  have hS : va_S (mx_A base) s.heap s.heap [] := va_S.rf
  have hl := lv_entry ([.int j, .int (Int32.ofNat n), .ref t0]) (n := 3) (Nat.le_of_ble_eq_true rfl)
  rw [lg_entry_eq]
  generalize (lg_sl ([.int j, .int (Int32.ofNat n), .ref t0]) ++ List.replicate (3 - (lg_sl ([.int j, .int (Int32.ofNat n), .ref t0])).length) Slot.unset).toArray = ls at hl ⊢
  have hl : lv_has ls 3 [(0, .int j), (1, .int (Int32.ofNat n)), (2, .ref t0)] := hl
  have hsz : ls.size = 3 := hl.1
  have hj2 := vp_in_iff.mp hj
  refine lv_iload_n hx hb ms_dpre_0 rfl (lv_at hl 0 rfl) ?_
  refine lv_if_lt (tgt := 9) hx hb ms_dpre_1 (by decide) (fun z => ?_) (fun _ => ?_)
  · exact absurd (Int32.lt_iff_toInt_lt.mp z) (by rw [Int32.toInt_zero]; omega)
  · refine lv_iload_n hx hb ms_dpre_4 rfl (lv_at hl 0 rfl) ?_
    refine lv_iload_n hx hb ms_dpre_5 rfl (lv_at hl 1 rfl) ?_
    refine lv_icmp_lt (tgt := 16) hx hb ms_dpre_6 (by decide) (fun _ => ?_) (fun z => ?_)
    · refine lv_iload_n hx hb ms_dpre_16 rfl (lv_at hl 0 rfl) ?_
      exact W.zret hx hb hr rfl (fun t ht hW => ⟨rfl, ht⟩) (fun q hq => by cases hq) ms_dpre_17
    · exact absurd (Int32.lt_iff_toInt_lt.mpr (by rw [show (Int32.ofNat n).toInt = (n : Int) from nI_toInt hn]; exact hj2.2)) z
theorem ms_cpre {j : Int32} {n : Nat} {f : Value} (hf : f = .null ∨ ∃ t, f = .ref t) (hj : vp_in j n) (hn : n < 2 ^ 31) : Met l ms_ypre ms_wspre { frames := 0, cells := 0, slots := 0, locals := 0 } (ms_P sa base Ls xs av [.int j, .int (Int32.ofNat n), f]) (ms_Q (some (.int j))) 0 0 (fun _ => False) := by
  rcases hf with rfl | ⟨t, rfl⟩
  · exact ms_cpreN hj hn
  · exact ms_cpreR hj hn
theorem ms_cchk {j : Int32} {n : Nat} (hj : vp_in j n) (hn : n < 2 ^ 31) : Met l ms_ychk ms_wschk { frames := 1, cells := 0, slots := 0, locals := 22 } (ms_P sa base Ls xs av [.int j, .int (Int32.ofNat n)]) (ms_Q (none)) 0 0 (fun _ => False) := by
  refine Met.ofW (cc := prog_16_method_155_code) (maxL := 2) (ret := none) (by decide +kernel) rfl ?_
  intro p e s m args below meth c s₁ B hml hv
  obtain ⟨rfl, hE⟩ := hv
  have hx := B.exec
  have hb := B.bytes
  have hr := B.returns
  have hts0 := atoms_spec (ws := ms_wschk) B.pre
  have hts : ∀ w ∈ mx_ts, w.before _ s = true := fun w hw => hts0 w (List.mem_cons_of_mem _ hw)
  have hown : s.vm.findClass "java/lang/String" = some m.cls := findClass_of_methodNamed B.named
  have hlocks := B.notSynchronized
  have hS : va_S (mx_A base) s.heap s.heap [] := va_S.rf
  have hl := lv_entry ([.int j, .int (Int32.ofNat n)]) (n := 2) (Nat.le_of_ble_eq_true rfl)
  rw [lg_entry_eq]
  generalize (lg_sl ([.int j, .int (Int32.ofNat n)]) ++ List.replicate (2 - (lg_sl ([.int j, .int (Int32.ofNat n)])).length) Slot.unset).toArray = ls at hl ⊢
  have hl : lv_has ls 2 [(0, .int j), (1, .int (Int32.ofNat n))] := hl
  have hsz : ls.size = 2 := hl.1
  refine lv_iload_n hx hb ms_dchk_0 rfl (lv_at hl 0 rfl) ?_
  refine lv_iload_n hx hb ms_dchk_1 rfl (lv_at hl 1 rfl) ?_
  have hZ : ∃ f : Value, (f = .null ∨ ∃ t, f = .ref t) ∧ va_Z "jdk/internal/util/Preconditions" "SIOOBE_FORMATTER" "Ljava/util/function/BiFunction;" f (mx_A base) s s.heap := by
    rcases hE.2.2.2.2 with z | ⟨t, z⟩
    · exact ⟨.null, Or.inl rfl, z⟩
    · exact ⟨.ref t, Or.inr ⟨t, rfl⟩, z⟩
  obtain ⟨f, hf, hZ⟩ := hZ
  refine va_gets hx hb hZ hS hown (hts _ ms_fsio) (fun _ z => z) ms_dchk_2 ?_
  have hcb := callB_of (R := (headSpec ms_wschk { frames := 1, cells := 0, slots := 0, locals := 22 }).room) (rm := { frames := 0, cells := 0, slots := 0, locals := 0 }) (mc := 0) (ms := 0) (bytes := prog_20_method_11_code) (maxL := 3) (ret := (some .int)) 3 hts ms_gpre rfl rfl rfl (hts _ ms_wpre.2.1) (hts _ ms_lchk_pre) ⟨by decide +kernel, by decide +kernel, by decide +kernel⟩ ⟨by decide, by decide⟩
  refine ms_callp (v0 := some (.int j)) (va_runS (As := [.int j, .int (Int32.ofNat n), f]) (rest := []) ⟨hx, hb, hml, hown, hts⟩ (ms_cpre (sa := sa) (base := base) (Ls := Ls) (xs := xs) (av := av) hf hj hn) ⟨hcb, hts _ ms_wpre.2.2⟩ ⟨ms_blind, ms_pre hE⟩ rfl rfl hsz rfl (Nat.le_of_ble_eq_true rfl) ms_dchk_5 ⟨by decide, by decide⟩) (fun x t v z => ⟨Outcome.returned.inj z.1, z.2⟩) ?_
  refine lv_pop hx hb ms_dchk_8 rfl ?_
  exact W.vret hx hb hr (fun t ht hW => ⟨rfl, ht⟩) (fun q hq => by cases hq) ms_dchk_9
theorem ms_clch {i : Nat} {j : Int32} (hi : i < mx_byt.length) (hj : vp_in j (mx_slens.getD i 0)) : Met l ms_ylch ms_wslch { frames := 2, cells := 0, slots := 0, locals := 43 } (ms_P sa base Ls xs av [.ref (av i), .int j]) (ms_Q (some (.int ((mx_byt.getD i []).getD j.toNatClampNeg 0)))) 0 0 (fun _ => False) := by
  refine Met.ofW (cc := prog_17_method_2_code) (maxL := 2) (ret := (some .char)) (by decide +kernel) rfl ?_
  intro p e s m args below meth c s₁ B hml hv
  obtain ⟨rfl, hE⟩ := hv
  have hx := B.exec
  have hb := B.bytes
  have hr := B.returns
  have hts0 := atoms_spec (ws := ms_wslch) B.pre
  have hts : ∀ w ∈ mx_ts, w.before _ s = true := fun w hw => hts0 w (List.mem_cons_of_mem _ hw)
  have hown : s.vm.findClass "java/lang/StringLatin1" = some m.cls := findClass_of_methodNamed B.named
  have hlocks := B.notSynchronized
  have hS : va_S (mx_A base) s.heap s.heap [] := va_S.rf
  have hl := lv_entry ([.ref (av i), .int j]) (n := 2) (Nat.le_of_ble_eq_true rfl)
  rw [lg_entry_eq]
  generalize (lg_sl ([.ref (av i), .int j]) ++ List.replicate (2 - (lg_sl ([.ref (av i), .int j])).length) Slot.unset).toArray = ls at hl ⊢
  have hl : lv_has ls 2 [(0, .ref (av i)), (1, .int j)] := hl
  have hsz : ls.size = 2 := hl.1
  have hj2 : j.toNatClampNeg < mx_slens.getD i 0 := Nat.not_le.mp fun q => hj (Or.inr q)
  obtain ⟨t1, t2, t3, t4⟩ := ms_tab i hi _ hj2
  refine lv_iload_n hx hb ms_dlch_0 rfl (lv_at hl 1 rfl) ?_
  refine lv_aload_n hx hb ms_dlch_1 rfl (lv_at hl 0 rfl) ?_
  refine va_tlen hx hb (hE.2.2.1.1 i hi).2.2.2 hS rfl ms_dlch_2 ?_
  have hcb := callB_of (R := (headSpec ms_wslch { frames := 2, cells := 0, slots := 0, locals := 43 }).room) (rm := { frames := 1, cells := 0, slots := 0, locals := 22 }) (mc := 0) (ms := 0) (bytes := prog_16_method_155_code) (maxL := 2) (ret := none) 2 hts ms_gchk rfl rfl rfl (hts _ ms_wchk.2.1) (hts _ ms_llch_chk) ⟨by decide +kernel, by decide +kernel, by decide +kernel⟩ ⟨by decide, by decide⟩
  refine ms_callp (v0 := none) (va_runS (As := [.int j, .int (Int32.ofNat (mx_slens.getD i 0))]) (rest := []) ⟨hx, hb, hml, hown, hts⟩ (ms_cchk (sa := sa) (base := base) (Ls := Ls) (xs := xs) (av := av) hj t4) ⟨hcb, hts _ ms_wchk.2.2⟩ ⟨ms_blind, ms_pre hE⟩ rfl rfl hsz rfl (Nat.le_of_ble_eq_true rfl) ms_dlch_3 ⟨by decide, by decide⟩) (fun x t v z => ⟨Outcome.returned.inj z.1, z.2⟩) ?_
  refine lv_aload_n hx hb ms_dlch_6 rfl (lv_at hl 0 rfl) ?_
  refine lv_iload_n hx hb ms_dlch_7 rfl (lv_at hl 1 rfl) ?_
  refine va_tb hx hb (hE.2.2.1.1 i hi).2.2.2 hS hj rfl ms_dlch_8 ?_
  refine lv_sipush (v := 255) hx hb ms_dlch_9 (by decide) ?_
  refine lv_iand hx hb ms_dlch_12 ?_
  refine lv_i2c hx hb ms_dlch_13 t1 ?_
  exact W.zret hx hb hr t2 (fun t ht hW => ⟨rfl, ht⟩) (fun q hq => by cases hq) ms_dlch_14
theorem ms_cchr {i : Nat} {j : Int32} (hi : i < mx_byt.length) (hj : vp_in j (mx_slens.getD i 0)) : Met l ms_ychr ms_wschr { frames := 3, cells := 0, slots := 0, locals := 64 } (ms_P sa base Ls xs av [.ref (sa (i + 1)), .int j]) (ms_Q (some (.int ((mx_byt.getD i []).getD j.toNatClampNeg 0)))) 0 0 (fun _ => False) := by
  refine Met.ofW (cc := prog_16_method_56_code) (maxL := 2) (ret := (some .char)) (by decide +kernel) rfl ?_
  intro p e s m args below meth c s₁ B hml hv
  obtain ⟨rfl, hE⟩ := hv
  have hx := B.exec
  have hb := B.bytes
  have hr := B.returns
  have hts0 := atoms_spec (ws := ms_wschr) B.pre
  have hts : ∀ w ∈ mx_ts, w.before _ s = true := fun w hw => hts0 w (List.mem_cons_of_mem _ hw)
  have hown : s.vm.findClass "java/lang/String" = some m.cls := findClass_of_methodNamed B.named
  have hlocks := B.notSynchronized
  have hS : va_S (mx_A base) s.heap s.heap [] := va_S.rf
  have hl := lv_entry ([.ref (sa (i + 1)), .int j]) (n := 2) (Nat.le_of_ble_eq_true rfl)
  rw [lg_entry_eq]
  generalize (lg_sl ([.ref (sa (i + 1)), .int j]) ++ List.replicate (2 - (lg_sl ([.ref (sa (i + 1)), .int j])).length) Slot.unset).toArray = ls at hl ⊢
  have hl : lv_has ls 2 [(0, .ref (sa (i + 1))), (1, .int j)] := hl
  have hsz : ls.size = 2 := hl.1
  have hj2 : j.toNatClampNeg < mx_slens.getD i 0 := Nat.not_le.mp fun q => hj (Or.inr q)
  obtain ⟨t1, t2, t3, t4⟩ := ms_tab i hi _ hj2
  refine lv_aload_n hx hb ms_dchr_0 rfl (lv_at hl 0 rfl) ?_
  have hcb := callB_of (R := (headSpec ms_wschr { frames := 3, cells := 0, slots := 0, locals := 64 }).room) (rm := { frames := 0, cells := 0, slots := 0, locals := 0 }) (mc := 0) (ms := 0) (bytes := prog_16_method_154_code) (maxL := 1) (ret := (some .boolean)) 0 hts ms_glat rfl rfl rfl (hts _ ms_wlat.2.1) (hts _ ms_lchr_lat) ⟨by decide +kernel, by decide +kernel, by decide +kernel⟩ ⟨by decide, by decide⟩
  refine ms_callp (v0 := some (.int 1)) (va_runV (As := []) (b := sa (i + 1)) (rest := []) ⟨hx, hb, hml, hown, hts⟩ (ms_clat (sa := sa) (base := base) (Ls := Ls) (xs := xs) (av := av) hi) ⟨hcb, hts _ ms_wlat.2.2, hts _ ms_slat⟩ ⟨ms_blind, vk_recv (adK := fun j => sa (j + 1)) (i := i) hE.2.2.1 hi hS, ms_pre hE⟩ rfl rfl hsz rfl (Nat.le_of_ble_eq_true rfl) ms_dchr_1 ⟨by decide, by decide⟩) (fun x t v z => ⟨Outcome.returned.inj z.1, z.2⟩) ?_
  refine lv_if_eq (tgt := 16) hx hb ms_dchr_4 (by decide) (fun z => absurd z (by decide)) (fun _ => ?_)
  refine lv_aload_n hx hb ms_dchr_7 rfl (lv_at hl 0 rfl) ?_
  refine vk_getf hx hb (hE.2.2.1.1 i hi).2.2.1 hS hown (hts _ ms_fval) (fun _ z => z) ms_dchr_8 ?_
  refine lv_iload_n hx hb ms_dchr_11 rfl (lv_at hl 1 rfl) ?_
  have hcb2 := callB_of (R := (headSpec ms_wschr { frames := 3, cells := 0, slots := 0, locals := 64 }).room) (rm := { frames := 2, cells := 0, slots := 0, locals := 43 }) (mc := 0) (ms := 0) (bytes := prog_17_method_2_code) (maxL := 2) (ret := (some .char)) 2 hts ms_glch rfl rfl rfl (hts _ ms_wlch.2.1) (hts _ ms_lchr_lch) ⟨by decide +kernel, by decide +kernel, by decide +kernel⟩ ⟨by decide, by decide⟩
  refine ms_callp (v0 := some (.int ((mx_byt.getD i []).getD j.toNatClampNeg 0))) (va_runS (As := [.ref (av i), .int j]) (rest := []) ⟨hx, hb, hml, hown, hts⟩ (ms_clch (sa := sa) (base := base) (Ls := Ls) (xs := xs) (av := av) hi hj) ⟨hcb2, hts _ ms_wlch.2.2⟩ ⟨ms_blind, ms_pre hE⟩ rfl rfl hsz rfl (Nat.le_of_ble_eq_true rfl) ms_dchr_12 ⟨by decide, by decide⟩) (fun x t v z => ⟨Outcome.returned.inj z.1, z.2⟩) ?_
  exact W.zret hx hb hr t2 (fun t ht hW => ⟨rfl, ht⟩) (fun q hq => by cases hq) ms_dchr_15
end MSC
section MXZ
variable {p : Program} {l : Launch} {e : Env} {R : Room} {s : State} {m : MethodId} {args : Array Value} {below : List Frame} {meth : Method} {c : Code} {H : Heap} {locs : List Loc} {cells slots : Nat} {Q : State → Prop}
variable {dC : Nat → ClassId} {dI : Nat → Nat → Nat} {tc : Nat → ClassId} {sa : Nat → Nat} {base Ls : Nat} {xs : Nat → Int32} {av : Nat → Nat} {k pc c0 s0 a : Nat} {ls : Array Slot} {L : mx_L} {h : mx_H} {st r : List Value} {s' : mx_S}
theorem mx_s_slen (C : mx_Cx dC dI tc sa base Ls xs av k p R s m args meth c c0) (hk : mx_mc k < 13) {i b n : Nat} (hd : decode (mx_mb k) pc = .ok (.invokevirtual i, 3)) (hl : mx_has k (i, 25, a, 0) = true) (X : mx_At dC dI tc sa base Ls xs k s c0 s0 L h H locs ls cells slots) (hn : mx_slen b = some n) (h8 : mx_ok8 r = true) (hrc : h.1 ≤ c0 + R.cells) (hrs : h.2.1 ≤ s0 + R.slots)
    (kk : mx_K p l e R s m args below meth c Q dC dI tc sa base Ls xs k c0 s0 (pc + 3, L, .int (Int32.ofNat n) :: r, h)) : W p l e R s m args below meth c H locs cells slots Q (F0 m pc ls ((Value.ref b :: r).map (mx_cv (mx_ad sa base)))) := by
  obtain ⟨hx, hb, hml, hown, hts, hin, hK, hE, hsz, hfr, hlo⟩ := C
  have e1 := X.2.2.2.1
  have e2 := X.2.2.2.2
  have hE2 : mx_EX sa base Ls xs av s H := hE.kept (fun q z1 z2 => X.2.1.2.1 q z1 z2)
  obtain ⟨j, hj, rfl, hjn⟩ : ∃ j, j < mx_byt.length ∧ b = mx_big + (j + 1) ∧ n = mx_slens.getD j 0 := by
    unfold mx_slen at hn
    split at hn
    · next hc =>
      have hn2 := Option.some.inj hn
      refine ⟨b - mx_big - 1, by omega, by omega, ?_⟩
      rw [(ms_tab2 _ (by omega)).1, ← hn2]
    · cases hn
  have hrc3 := (hE.2.2.1.1 j hj).1.kept X.2.1.2.1
  have hrecv : ∃ cell : Cell, H[sa (j + 1)]? = some cell ∧ cell.vm.isStatics = false ∧ s.vm.findClass "java/lang/String" = some cell.cls := vk_recv (adK := fun j => sa (j + 1)) (i := j) hE.2.2.1 hj X.2.1
  have kz : W p l e R s m args below meth c H locs cells slots Q (F0 m (pc + 3) ls (Value.int (Int32.ofNat n) :: r.map (mx_cv (mx_ad sa base)))) := kk H locs ls cells slots X
  show W p l e R s m args below meth c H locs cells slots Q (F0 m pc ls (Value.ref (mx_ad sa base (mx_big + (j + 1))) :: r.map (mx_cv (mx_ad sa base))))
  rw [mx_ad_big]
  subst hjn
  have hcb := callB_of (R := R) (rm := { frames := 1, cells := 0, slots := 0, locals := 20 }) (mc := 0) (ms := 0) (bytes := prog_16_method_54_code) (maxL := 1) (ret := (some .int)) 0 hts ms_glen rfl rfl rfl (hts _ ms_wlen.2.1) (hts _ (mx_link hk hl)) ⟨by decide +kernel, by decide +kernel, by decide +kernel⟩ ⟨by show 1 + 1 ≤ R.frames; omega, by show 8 + (1 + 11) + 20 ≤ R.locals; omega⟩
  exact ms_callp (v0 := some (.int (Int32.ofNat (mx_slens.getD j 0)))) (va_runV (As := []) (b := sa (j + 1)) (rest := r.map (mx_cv (mx_ad sa base))) ⟨hx, hb, hml, hown, hts⟩ (ms_clen (sa := sa) (base := base) (Ls := Ls) (xs := xs) (av := av) hj) ⟨hcb, hts _ ms_wlen.2.2, hts _ ms_slen⟩ ⟨ms_blind, hrecv, ms_pre hE2⟩ rfl rfl X.2.2.1.1 rfl (by show 2 * 0 + _ ≤ 8; rw [Nat.mul_zero, Nat.zero_add]; exact mx_ok8_le _ h8) hd ⟨by omega, by omega⟩) (fun x t v z => ⟨Outcome.returned.inj z.1, z.2⟩) kz
theorem mx_s_schr (C : mx_Cx dC dI tc sa base Ls xs av k p R s m args meth c c0) (hk : mx_mc k < 13) {i b n : Nat} {x : Int32} (hd : decode (mx_mb k) pc = .ok (.invokevirtual i, 3)) (hl : mx_has k (i, 26, a, 0) = true) (X : mx_At dC dI tc sa base Ls xs k s c0 s0 L h H locs ls cells slots) (hn : mx_slen b = some n) (h8 : mx_ok8 r = true) (hv : mx_vin x n = true) (hrc : h.1 ≤ c0 + R.cells) (hrs : h.2.1 ≤ s0 + R.slots)
    (kk : mx_K p l e R s m args below meth c Q dC dI tc sa base Ls xs k c0 s0 (pc + 3, L, .int ((mx_byt.getD (b - mx_big - 1) []).getD x.toNatClampNeg 0) :: r, h)) : W p l e R s m args below meth c H locs cells slots Q (F0 m pc ls ((Value.int x :: Value.ref b :: r).map (mx_cv (mx_ad sa base)))) := by
  obtain ⟨hx, hb, hml, hown, hts, hin, hK, hE, hsz, hfr, hlo⟩ := C
  have e1 := X.2.2.2.1
  have e2 := X.2.2.2.2
  have hE2 : mx_EX sa base Ls xs av s H := hE.kept (fun q z1 z2 => X.2.1.2.1 q z1 z2)
  obtain ⟨j, hj, rfl, hjn⟩ : ∃ j, j < mx_byt.length ∧ b = mx_big + (j + 1) ∧ n = mx_slens.getD j 0 := by
    unfold mx_slen at hn
    split at hn
    · next hc =>
      have hn2 := Option.some.inj hn
      refine ⟨b - mx_big - 1, by omega, by omega, ?_⟩
      rw [(ms_tab2 _ (by omega)).1, ← hn2]
    · cases hn
  have hrc3 := (hE.2.2.1.1 j hj).1.kept X.2.1.2.1
  have hrecv : ∃ cell : Cell, H[sa (j + 1)]? = some cell ∧ cell.vm.isStatics = false ∧ s.vm.findClass "java/lang/String" = some cell.cls := vk_recv (adK := fun j => sa (j + 1)) (i := j) hE.2.2.1 hj X.2.1
  have hjb : mx_big + (j + 1) - mx_big - 1 = j := by omega
  rw [hjb] at kk
  have kz : W p l e R s m args below meth c H locs cells slots Q (F0 m (pc + 3) ls (Value.int ((mx_byt.getD j []).getD x.toNatClampNeg 0) :: r.map (mx_cv (mx_ad sa base)))) := kk H locs ls cells slots X
  show W p l e R s m args below meth c H locs cells slots Q (F0 m pc ls (Value.int x :: Value.ref (mx_ad sa base (mx_big + (j + 1))) :: r.map (mx_cv (mx_ad sa base))))
  rw [mx_ad_big]
  subst hjn
  have hcb := callB_of (R := R) (rm := { frames := 3, cells := 0, slots := 0, locals := 64 }) (mc := 0) (ms := 0) (bytes := prog_16_method_56_code) (maxL := 2) (ret := (some .char)) 1 hts ms_gchr rfl rfl rfl (hts _ ms_wchr.2.1) (hts _ (mx_link hk hl)) ⟨by decide +kernel, by decide +kernel, by decide +kernel⟩ ⟨by show 3 + 1 ≤ R.frames; omega, by show 8 + (2 + 11) + 64 ≤ R.locals; omega⟩
  exact ms_callp (v0 := some (.int ((mx_byt.getD j []).getD x.toNatClampNeg 0))) (va_runV (As := [.int x]) (b := sa (j + 1)) (rest := r.map (mx_cv (mx_ad sa base))) ⟨hx, hb, hml, hown, hts⟩ (ms_cchr (sa := sa) (base := base) (Ls := Ls) (xs := xs) (av := av) hj (mx_vin_in hv)) ⟨hcb, hts _ ms_wchr.2.2, hts _ ms_schr⟩ ⟨ms_blind, hrecv, ms_pre hE2⟩ rfl rfl X.2.2.1.1 rfl (by show 2 * 0 + _ ≤ 8; rw [Nat.mul_zero, Nat.zero_add]; exact mx_ok8_le _ h8) hd ⟨by omega, by omega⟩) (fun x t v z => ⟨Outcome.returned.inj z.1, z.2⟩) kz
end MXZ
