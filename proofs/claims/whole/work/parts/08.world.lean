/-! ===== what holds in the machine while the small machine runs ===== -/
def mx_KK (dC : Nat → ClassId) (dI : Nat → Nat → Nat) (tc : Nat → ClassId) (sa : Nat → Nat) (U : State) : Prop :=
  va_K (dC, dI) mx_cl (mx_tys tc) U ∧ (∀ q ∈ mx_nst, va_Nw (.methodLinkNest q.1 q.2.1 q.2.2 "BeachIsRelaid") U) ∧ (∀ (j : Nat) (q : String × Nat × String), mx_strs[j]? = some q → vk_R q.1 q.2.1 q.2.2 (sa (j + 1)) U) ∧ (va_AO RX2 U ∧ va_AO RX6 U ∧ va_AO RX5 U) ∧ va_Nw (.castable "[I" "java/lang/Cloneable") U
theorem mx_KK.warm {dC : Nat → ClassId} {dI : Nat → Nat → Nat} {tc : Nat → ClassId} {sa : Nat → Nat} {s U : State} (hW : s.WarmedH U.vm) (h : mx_KK dC dI tc sa s) : mx_KK dC dI tc sa U :=
  ⟨va_K.moved hW.alike h.1, fun q hq => va_Nw.warmM hW (h.2.1 q hq), fun j q hq => vk_R.warm hW (h.2.2.1 j q hq), ⟨va_AO.moved hW.alike h.2.2.2.1.1, va_AO.moved hW.alike h.2.2.2.1.2.1, va_AO.moved hW.alike h.2.2.2.1.2.2⟩, va_Nw.warmC hW h.2.2.2.2⟩
theorem mx_KK.same {dC : Nat → ClassId} {dI : Nat → Nat → Nat} {tc : Nat → ClassId} {sa : Nat → Nat} {s U : State} (hv : s.vm = U.vm) (h : mx_KK dC dI tc sa s) : mx_KK dC dI tc sa U := by
  have ha : s.vm.Alike U.vm := by rw [hv]; exact Vm.Alike.refl _
  exact ⟨va_K.moved ha h.1, fun q hq => va_Nw.same rfl hv (h.2.1 q hq), fun j q hq => vk_R.same hv.symm (h.2.2.1 j q hq), ⟨va_AO.moved ha h.2.2.2.1.1, va_AO.moved ha h.2.2.2.1.2.1, va_AO.moved ha h.2.2.2.1.2.2⟩, va_Nw.same rfl hv h.2.2.2.2⟩
def mx_slens : List Nat := mx_byt.map List.length
/-- what lies outside: the script, the String constants -/
def mx_EX (sa : Nat → Nat) (base Ls : Nat) (xs : Nat → Int32) (av : Nat → Nat) (U : State) (H : Heap) : Prop :=
  sa 0 < base ∧ va_X (sa 0) Ls xs U H ∧ vk_S mx_byt.length mx_slens mx_byt (fun j => sa (j + 1)) av (mx_A base) U H ∧ va_Z "java/lang/String" "COMPACT_STRINGS" "Z" (.int 1) (mx_A base) U H ∧ va_Zq "jdk/internal/util/Preconditions" "SIOOBE_FORMATTER" "Ljava/util/function/BiFunction;" (mx_A base) U H
theorem mx_Zk {C n d : String} {v : Value} {A : Nat → Prop} {U : State} {H H1 : Heap} (h : va_Z C n d v A U H) (hq : ∀ q : Nat, q < H.size → ¬ A q → H1[q]? = H[q]?) : va_Z C n d v A U H1 := by
  obtain ⟨cf, kf, fi, f, a, cell, g1, g2, g3, g4, g5, g6, g7, g8⟩ := h
  exact ⟨cf, kf, fi, f, a, cell, g1, g2, g3, g4, by rw [hq a (Array.getElem?_eq_some_iff.mp g5).1 g8]; exact g5, g6, g7, g8⟩
theorem mx_EX.kept {sa : Nat → Nat} {base Ls : Nat} {xs : Nat → Int32} {av : Nat → Nat} {U : State} {H H1 : Heap} (h : mx_EX sa base Ls xs av U H) (hq : ∀ q : Nat, q < H.size → ¬ mx_A base q → H1[q]? = H[q]?) : mx_EX sa base Ls xs av U H1 := by
  obtain ⟨h1, h2, h3, h4, h5⟩ := h
  refine ⟨h1, h2.kept (hq _ ?_ ?_), h3.kept hq, mx_Zk h4 hq, h5.imp (fun z => mx_Zk z hq) (fun ⟨t, z⟩ => ⟨t, mx_Zk z hq⟩)⟩
  · obtain ⟨scr, g, -⟩ := h2
    exact (Array.getElem?_eq_some_iff.mp g).1
  · show ¬ base ≤ sa 0
    omega
def mx_Rp (dC : Nat → ClassId) (dI : Nat → Nat → Nat) (tc : Nat → ClassId) (sa : Nat → Nat) (base Ls : Nat) (xs : Nat → Int32) (h : mx_H) (H : Heap) : Prop :=
  va_P (dC, dI) mx_cl (mx_wl tc sa base h) H ∧ (∀ i, h.1 ≤ i → i ≠ mx_big → h.2.2 i = mx_nil) ∧ h.2.2 mx_big = .inl (0, Ls, .inl xs) ∧ h.1 ≤ mx_big
def mx_Cx (dC : Nat → ClassId) (dI : Nat → Nat → Nat) (tc : Nat → ClassId) (sa : Nat → Nat) (base Ls : Nat) (xs : Nat → Int32) (av : Nat → Nat) (k : Nat) (p : Program) (R : Room) (s : State) (m : MethodId) (args : Array Value) (meth : Method) (c : Code) (c0 : Nat) : Prop :=
  p.tables.exec = Jvm.exec ∧ c.code = mx_mb k ∧ c.maxLocals = mx_ml k ∧ s.vm.findClass (mx_cn (mx_mc k)) = some m.cls ∧ (∀ w ∈ mx_ts, w.before args s = true) ∧ ((mx_my k).name = "<init>" → meth.name = "<init>") ∧ mx_KK dC dI tc sa s ∧ mx_EX sa base Ls xs av s s.heap ∧ s.heap.size = base + c0 ∧ 10 ≤ R.frames ∧ 400 ≤ R.locals
def mx_At (dC : Nat → ClassId) (dI : Nat → Nat → Nat) (tc : Nat → ClassId) (sa : Nat → Nat) (base Ls : Nat) (xs : Nat → Int32) (k : Nat) (s : State) (c0 s0 : Nat) (L : mx_L) (h : mx_H) (H : Heap) (locs : List Loc) (ls : Array Slot) (cells slots : Nat) : Prop :=
  mx_Rp dC dI tc sa base Ls xs h H ∧ va_S (mx_A base) s.heap H locs ∧ mx_LR (mx_ad sa base) ls (mx_ml k) L ∧ cells + c0 = h.1 ∧ slots + s0 = h.2.1
theorem mx_uws : ∀ (c : Nat) (r : vw_C), mx_cl[c]? = some r → ∀ w ∈ u_ws r.1 r.2.1 r.2.2, w ∈ mx_ts := by
  have key : ∀ (r : vw_C) (is : List Nat), u_ws r.1 r.2.1 r.2.2 = is.filterMap (fun i => lw_tbl[i]?) → (u_ws r.1 r.2.1 r.2.2).all goodWord = true → ∀ w ∈ u_ws r.1 r.2.1 r.2.2, w ∈ mx_ts := by
    intro r is h1 h2 w hw
    refine List.mem_filter.mpr ⟨?_, List.all_eq_true.mp h2 w hw⟩
    rw [h1] at hw
    obtain ⟨i, -, hi⟩ := List.mem_filterMap.mp hw
    exact List.mem_of_getElem? hi
  intro c r hr
  have hlt : c < 10 := (List.getElem?_eq_some_iff.mp hr).1
  match c, hlt, hr with
  | 0, _, hr => cases hr; exact key (RX0, TX0, 6) [161, 163, 165, 167, 169, 171] (by decide +kernel) (by decide +kernel)
  | 1, _, hr => cases hr; exact key (RX1, TX1, 2) [248, 250] (by decide +kernel) (by decide +kernel)
  | 2, _, hr => cases hr; exact key (RX2, TX2, 4) [135, 137, 139, 141] (by decide +kernel) (by decide +kernel)
  | 3, _, hr => cases hr; exact key (RX3, TX3, 10) [192, 194, 196, 198, 200, 202, 204, 206, 208, 210] (by decide +kernel) (by decide +kernel)
  | 4, _, hr => cases hr; exact key (RX4, TX4, 5) [227, 229, 231, 233, 235] (by decide +kernel) (by decide +kernel)
  | 5, _, hr => cases hr; exact key (RX5, TX5, 3) [297, 299, 301] (by decide +kernel) (by decide +kernel)
  | 6, _, hr => cases hr; exact key (RX6, TX6, 2) [485, 487] (by decide +kernel) (by decide +kernel)
  | 7, _, hr => cases hr; exact key (RX7, TX7, 7) [268, 270, 272, 274, 276, 278, 280] (by decide +kernel) (by decide +kernel)
  | 8, _, hr => cases hr; exact key (RX8, TX8, 9) [508, 510, 512, 514, 516, 518, 520, 522, 524] (by decide +kernel) (by decide +kernel)
  | 9, _, hr => cases hr; exact key (RX9, TX9, 36) [1000, 1002, 1004, 1006, 1008, 1010, 1012, 1014, 1016, 1018, 1020, 1022, 1024, 1026, 1028, 1030, 1032, 1034, 1036, 1038, 1040, 1042, 1044, 1046, 1048, 1050, 1052, 1054, 1056, 1058, 1060, 1062, 1064, 1066, 1068, 1070] (by decide +kernel) (by decide +kernel)
theorem mx_tyok : ∀ (c : Nat) (r : vw_C), mx_cl[c]? = some r → (∀ j, j < r.2.2 → parseFieldDescriptor (r.2.1 j).2.2.1 = some ((mx_tyl.getD c (fun _ => .int)) j)) ∧ (∀ a, a < r.2.2 → ∀ b, b < r.2.2 → a ≠ b → (r.2.1 a).2.1 ≠ (r.2.1 b).2.1) ∧ (∀ j, j < r.2.2 → defaultValue ((mx_tyl.getD c (fun _ => .int)) j) = vp_V (mx_defs c) j) ∧ mx_nf c = r.2.2 := by
  intro c r hr
  have hlt : c < 10 := (List.getElem?_eq_some_iff.mp hr).1
  match c, hlt, hr with
  | 0, _, hr => cases hr; exact ⟨tyX0_ok, nmX0, by decide +kernel, by decide +kernel⟩
  | 1, _, hr => cases hr; exact ⟨tyX1_ok, nmX1, by decide +kernel, by decide +kernel⟩
  | 2, _, hr => cases hr; exact ⟨tyX2_ok, nmX2, by decide +kernel, by decide +kernel⟩
  | 3, _, hr => cases hr; exact ⟨tyX3_ok, nmX3, by decide +kernel, by decide +kernel⟩
  | 4, _, hr => cases hr; exact ⟨tyX4_ok, nmX4, by decide +kernel, by decide +kernel⟩
  | 5, _, hr => cases hr; exact ⟨tyX5_ok, nmX5, by decide +kernel, by decide +kernel⟩
  | 6, _, hr => cases hr; exact ⟨tyX6_ok, nmX6, by decide +kernel, by decide +kernel⟩
  | 7, _, hr => cases hr; exact ⟨tyX7_ok, nmX7, by decide +kernel, by decide +kernel⟩
  | 8, _, hr => cases hr; exact ⟨tyX8_ok, nmX8, by decide +kernel, by decide +kernel⟩
  | 9, _, hr => cases hr; exact ⟨tyX9_ok, nmX9, by decide +kernel, by decide +kernel⟩
theorem mx_defs_cv (ad : Nat → Nat) (c : Nat) : (mx_defs c).map (mx_cv ad) = mx_defs c := by
  unfold mx_defs
  rw [List.map_map]
  apply List.map_congr_left
  intro i _
  show mx_cv ad (mx_def _) = mx_def _
  unfold mx_def
  split <;> rfl
section MXB
variable {p : Program} {l : Launch} {e : Env} {R : Room} {s : State} {m : MethodId} {args : Array Value} {below : List Frame} {meth : Method} {c : Code} {H : Heap} {locs : List Loc} {cells slots : Nat} {Q : State → Prop}
/-- the heap is no greater than what was counted -/
theorem mx_bound {g : JFrame} (kk : H.size ≤ s.heap.size + cells → W p l e R s m args below meth c H locs cells slots Q g) : W p l e R s m args below meth c H locs cells slots Q g := by
  intro T hT X
  have h1 := X.same.2.2.1
  exact kk (by rw [← hT]; exact h1) T hT X
end MXB
theorem mx_fresh {D : va_G} {cl : List vw_C} {tc : Nat → ClassId} {sa : Nat → Nat} {base q n : Nat} {h : mx_H} {x : va_E} {H : Heap} (hP : va_P D cl (mx_wl tc sa base h ++ [(q, x)]) H) (hD : va_D (mx_A base) (mx_wl tc sa base h ++ [(q, x)])) (hH : H.size ≤ n) (hn : n = base + h.1 + 1) : q = base + h.1 := by
  have hg : (mx_wl tc sa base h ++ [(q, x)])[h.1]? = some (q, x) := by
    rw [List.getElem?_append_right (by rw [mx_wl_len]; exact Nat.le_refl _), mx_wl_len, Nat.sub_self]
    rfl
  have h1 : q < H.size := (hP h.1 _ hg).lt
  have h2 : base ≤ q := hD.2 h.1 _ hg
  by_cases hlt : q < base + h.1
  · have hi : q - base < h.1 := by omega
    have hg2 : (mx_wl tc sa base h ++ [(q, x)])[q - base]? = some (base + (q - base), mx_ce tc (mx_ad sa base) (h.2.2 (q - base))) := by
      rw [List.getElem?_append_left (by rw [mx_wl_len]; exact hi)]
      exact mx_wl_get hi
    have := hD.1 _ _ _ _ hg hg2 (by show q = base + (q - base); omega)
    omega
  · omega
