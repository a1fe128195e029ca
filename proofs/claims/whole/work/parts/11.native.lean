/-! ===== natives, constants ===== -/
set_option maxRecDepth 100000 in
theorem mx_wMax : Cond.static Lib.Math.max.name ∈ mx_ts ∧ Cond.initialized "java/lang/Math" ∈ mx_ts ∧ Cond.code Lib.Math.max.name Lib.Math.max.code 2 (some .int) ∈ mx_ts := ⟨mx_in 463 rfl rfl, mx_in 91 rfl rfl, mx_in 464 rfl rfl⟩
set_option maxRecDepth 100000 in
theorem mx_wMin : Cond.static Lib.Math.min.name ∈ mx_ts ∧ Cond.code Lib.Math.min.name Lib.Math.min.code 2 (some .int) ∈ mx_ts := ⟨mx_in 460 rfl rfl, mx_in 461 rfl rfl⟩
set_option maxRecDepth 100000 in
theorem mx_wAbs : Cond.static Lib.Math.abs.name ∈ mx_ts ∧ Cond.code Lib.Math.abs.name Lib.Math.abs.code 1 (some .int) ∈ mx_ts := ⟨mx_in 606 rfl rfl, mx_in 607 rfl rfl⟩
set_option maxRecDepth 100000 in
theorem mx_wCopy : Cond.native arraycopyName ∈ mx_ts ∧ Cond.static arraycopyName ∈ mx_ts ∧ Cond.initialized "java/lang/System" ∈ mx_ts := ⟨mx_in 467 rfl rfl, mx_in 466 rfl rfl, mx_in 92 rfl rfl⟩
set_option maxRecDepth 100000 in
theorem mx_wClone : Cond.sameMethod "[I" "java/lang/Object" "clone" "()Ljava/lang/Object;" ∈ mx_ts ∧ Cond.native ⟨"java/lang/Object", "clone", "()Ljava/lang/Object;"⟩ ∈ mx_ts ∧ Cond.instanceMethod ⟨"java/lang/Object", "clone", "()Ljava/lang/Object;"⟩ ∈ mx_ts ∧ Cond.selects "[I" ⟨"[I", "clone", "()Ljava/lang/Object;"⟩ ⟨"java/lang/Object", "clone", "()Ljava/lang/Object;"⟩ ∈ mx_ts := ⟨mx_in 471 rfl rfl, mx_in 472 rfl rfl, mx_in 473 rfl rfl, mx_in 474 rfl rfl⟩
set_option maxRecDepth 100000 in
theorem mx_wObj : Cond.instanceMethod objectInit ∈ mx_ts ∧ Cond.code objectInit ⟨#[0xb1]⟩ 1 none ∈ mx_ts := ⟨mx_in 103 rfl rfl, mx_in 104 rfl rfl⟩
section MXN
variable {p : Program} {l : Launch} {e : Env} {R : Room} {s : State} {m : MethodId} {args : Array Value} {below : List Frame} {meth : Method} {c : Code} {H : Heap} {locs : List Loc} {cells slots : Nat} {Q : State → Prop}
variable {dC : Nat → ClassId} {dI : Nat → Nat → Nat} {tc : Nat → ClassId} {sa : Nat → Nat} {base Ls : Nat} {xs : Nat → Int32} {av : Nat → Nat} {k pc c0 s0 a : Nat} {ls : Array Slot} {L : mx_L} {h : mx_H} {st r : List Value} {s' : mx_S}
theorem mx_ok8_locals {n : Nat} (sa : Nat → Nat) (base : Nat) (h : mx_ok8 r = true) (hlo : 400 ≤ R.locals) (hn : n ≤ 300) : ((r.map (mx_cv (mx_ad sa base))).map fun v => v.category).sum + n ≤ R.locals := by
  have := mx_ok8_le (mx_ad sa base) h
  omega
theorem mx_s_max (C : mx_Cx dC dI tc sa base Ls xs av k p R s m args meth c c0) (hk : mx_mc k < 13) {i : Nat} {x y : Int32} (hd : decode (mx_mb k) pc = .ok (.invokestatic i, 3)) (hl : mx_has k (i, 20, a, 0) = true) (X : mx_At dC dI tc sa base Ls xs k s c0 s0 L h H locs ls cells slots) (h8 : mx_ok8 r = true) (hrc : h.1 ≤ c0 + R.cells) (hrs : h.2.1 ≤ s0 + R.slots)
    (kk : mx_K p l e R s m args below meth c Q dC dI tc sa base Ls xs k c0 s0 (pc + 3, L, .int (if x < y then y else x) :: r, h)) : W p l e R s m args below meth c H locs cells slots Q (F0 m pc ls ((Value.int y :: Value.int x :: r).map (mx_cv (mx_ad sa base)))) := by
  obtain ⟨hx, hb, hml, hown, hts, hin, hK, hE, hsz, hfr, hlo⟩ := C
  have e1 := X.2.2.2.1
  have e2 := X.2.2.2.2
  exact va_mmax hx hb (hml.trans X.2.2.1.1.symm) hown (hts _ (mx_link hk hl)) (hts _ mx_wMax.1) (hts _ mx_wMax.2.1) (hts _ mx_wMax.2.2) (by omega) (mx_ok8_locals sa base h8 hlo (by omega)) (by omega) (by omega) hd (kk H locs ls cells slots X)
theorem mx_s_min (C : mx_Cx dC dI tc sa base Ls xs av k p R s m args meth c c0) (hk : mx_mc k < 13) {i : Nat} {x y : Int32} (hd : decode (mx_mb k) pc = .ok (.invokestatic i, 3)) (hl : mx_has k (i, 21, a, 0) = true) (X : mx_At dC dI tc sa base Ls xs k s c0 s0 L h H locs ls cells slots) (h8 : mx_ok8 r = true) (hrc : h.1 ≤ c0 + R.cells) (hrs : h.2.1 ≤ s0 + R.slots)
    (kk : mx_K p l e R s m args below meth c Q dC dI tc sa base Ls xs k c0 s0 (pc + 3, L, .int (if y < x then y else x) :: r, h)) : W p l e R s m args below meth c H locs cells slots Q (F0 m pc ls ((Value.int y :: Value.int x :: r).map (mx_cv (mx_ad sa base)))) := by
  obtain ⟨hx, hb, hml, hown, hts, hin, hK, hE, hsz, hfr, hlo⟩ := C
  have e1 := X.2.2.2.1
  have e2 := X.2.2.2.2
  exact va_mmin hx hb (hml.trans X.2.2.1.1.symm) hown (hts _ (mx_link hk hl)) (hts _ mx_wMin.1) (hts _ mx_wMax.2.1) (hts _ mx_wMin.2) (by omega) (mx_ok8_locals sa base h8 hlo (by omega)) (by omega) (by omega) hd (kk H locs ls cells slots X)
theorem mx_s_abs (C : mx_Cx dC dI tc sa base Ls xs av k p R s m args meth c c0) (hk : mx_mc k < 13) {i : Nat} {x : Int32} (hd : decode (mx_mb k) pc = .ok (.invokestatic i, 3)) (hl : mx_has k (i, 22, a, 0) = true) (X : mx_At dC dI tc sa base Ls xs k s c0 s0 L h H locs ls cells slots) (h8 : mx_ok8 r = true) (hrc : h.1 ≤ c0 + R.cells) (hrs : h.2.1 ≤ s0 + R.slots)
    (kk : mx_K p l e R s m args below meth c Q dC dI tc sa base Ls xs k c0 s0 (pc + 3, L, .int (if 0 ≤ x then x else 0 - x) :: r, h)) : W p l e R s m args below meth c H locs cells slots Q (F0 m pc ls ((Value.int x :: r).map (mx_cv (mx_ad sa base)))) := by
  obtain ⟨hx, hb, hml, hown, hts, hin, hK, hE, hsz, hfr, hlo⟩ := C
  have e1 := X.2.2.2.1
  have e2 := X.2.2.2.2
  exact va_mabs hx hb (hml.trans X.2.2.1.1.symm) hown (hts _ (mx_link hk hl)) (hts _ mx_wAbs.1) (hts _ mx_wMax.2.1) (hts _ mx_wAbs.2) (by omega) (mx_ok8_locals sa base h8 hlo (by omega)) (by omega) (by omega) hd (kk H locs ls cells slots X)
theorem mx_s_obj (C : mx_Cx dC dI tc sa base Ls xs av k p R s m args meth c c0) (hk : mx_mc k < 13) {i b : Nat} (hd : decode (mx_mb k) pc = .ok (.invokespecial i, 3)) (hl : mx_has k (i, 27, a, 0) = true) (X : mx_At dC dI tc sa base Ls xs k s c0 s0 L h H locs ls cells slots) (h8 : mx_ok8 r = true)
    (kk : mx_K p l e R s m args below meth c Q dC dI tc sa base Ls xs k c0 s0 (pc + 3, L, r, h)) : W p l e R s m args below meth c H locs cells slots Q (F0 m pc ls ((Value.ref b :: r).map (mx_cv (mx_ad sa base)))) := by
  obtain ⟨hx, hb, hml, hown, hts, hin, hK, hE, hsz, hfr, hlo⟩ := C
  exact W.objInit hx hb hown (hts _ (mx_link hk hl)) (hts _ mx_wObj.1) (hts _ mx_wObj.2) rfl (by rw [hml]; exact X.2.2.1.1) rfl hd (by omega) (by have := mx_ok8_locals (n := 12) sa base h8 hlo (by omega); show 2 * 0 + _ + 12 ≤ _; omega) (kk H locs ls cells slots X)
theorem mx_s_copy (C : mx_Cx dC dI tc sa base Ls xs av k p R s m args meth c c0) (hk : mx_mc k < 13) {i b d n0 n1 : Nat} {f g : Nat → Int32} {sp dp n : Int32} (hd : decode (mx_mb k) pc = .ok (.invokestatic i, 3)) (hl : mx_has k (i, 23, a, 0) = true) (X : mx_At dC dI tc sa base Ls xs k s c0 s0 L h H locs ls cells slots) (hh0 : h.2.2 d = .inl (0, n0, .inl f)) (hh1 : h.2.2 b = .inl (0, n1, .inl g))
    (hc : mx_ok8 r = true ∧ d < mx_big ∧ b < mx_big ∧ ¬ sp < 0 ∧ ¬ dp < 0 ∧ ¬ n < 0 ∧ sp.toNatClampNeg + n.toNatClampNeg ≤ n0 ∧ dp.toNatClampNeg + n.toNatClampNeg ≤ n1)
    (kk : mx_K p l e R s m args below meth c Q dC dI tc sa base Ls xs k c0 s0 (pc + 3, L, r, mx_set h b (.inl (0, n1, .inl (va_cpy f g sp.toNatClampNeg dp.toNatClampNeg n.toNatClampNeg))))) : W p l e R s m args below meth c H locs cells slots Q (F0 m pc ls ((Value.int n :: Value.int dp :: Value.ref b :: Value.int sp :: Value.ref d :: r).map (mx_cv (mx_ad sa base)))) := by
  obtain ⟨hx, hb, hml, hown, hts, hin, hK, hE, hsz, hfr, hlo⟩ := C
  obtain ⟨h8, hd2, hb2, c1, c2, c3, c4, c5⟩ := hc
  show W p l e R s m args below meth c H locs cells slots Q (F0 m pc ls (Value.int n :: Value.int dp :: Value.ref (mx_ad sa base b) :: Value.int sp :: Value.ref (mx_ad sa base d) :: r.map (mx_cv (mx_ad sa base))))
  rcases mx_hereA X.1 hh1 with ⟨hb1, -⟩ | ⟨rfl, -⟩
  · rcases mx_hereA X.1 hh0 with ⟨hd1, -⟩ | ⟨rfl, -⟩
    · have hg1 := mx_wl_get (tc := tc) (sa := sa) (base := base) hb1
      rw [hh1] at hg1
      have hg0 := mx_wl_get (tc := tc) (sa := sa) (base := base) hd1
      rw [hh0] at hg0
      rw [mx_ad_lt hb2, mx_ad_lt hd2]
      exact va_copyi hx hb (hml.trans X.2.2.1.1.symm) hown (hts _ (mx_link hk hl)) (hts _ mx_wCopy.1) (hts _ mx_wCopy.2.1) (hts _ mx_wCopy.2.2) hK.1 X.1.1 mx_wl_D X.2.1 d b 0 0 hg0 hg1 rfl rfl rfl c1 c2 c3 c4 c5 (fun _ _ => rfl) (by omega) (mx_ok8_locals sa base h8 hlo (by decide +kernel)) hd (fun H1 locs1 hP1 _ hS1 => kk H1 locs1 ls cells slots ⟨X.1.set hb1 hP1, hS1, X.2.2⟩)
    · exact absurd hd2 (Nat.lt_irrefl _)
  · exact absurd hb2 (Nat.lt_irrefl _)
theorem mx_s_clone (C : mx_Cx dC dI tc sa base Ls xs av k p R s m args meth c c0) (hk : mx_mc k < 13) {i b n : Nat} {f : Nat → Int32} (hd : decode (mx_mb k) pc = .ok (.invokevirtual i, 3)) (hl : mx_has k (i, 24, a, 0) = true) (X : mx_At dC dI tc sa base Ls xs k s c0 s0 L h H locs ls cells slots) (hh : h.2.2 b = .inl (0, n, .inl f)) (h8 : mx_ok8 r = true) (hb2 : b < mx_big) (hbig : h.1 < mx_big) (hrc : h.1 + 1 ≤ c0 + R.cells) (hrs : h.2.1 + n ≤ s0 + R.slots)
    (kk : mx_K p l e R s m args below meth c Q dC dI tc sa base Ls xs k c0 s0 (pc + 3, L, .ref h.1 :: r, mx_new h n (.inl (0, n, .inl f)))) : W p l e R s m args below meth c H locs cells slots Q (F0 m pc ls ((Value.ref b :: r).map (mx_cv (mx_ad sa base)))) := by
  obtain ⟨hx, hb, hml, hown, hts, hin, hK, hE, hsz, hfr, hlo⟩ := C
  have e1 := X.2.2.2.1
  have e2 := X.2.2.2.2
  show W p l e R s m args below meth c H locs cells slots Q (F0 m pc ls (Value.ref (mx_ad sa base b) :: r.map (mx_cv (mx_ad sa base))))
  rcases mx_hereA X.1 hh with ⟨hb1, -⟩ | ⟨rfl, -⟩
  · have hg := mx_wl_get (tc := tc) (sa := sa) (base := base) hb1
    rw [hh] at hg
    rw [mx_ad_lt hb2]
    have hnm : s.vm.findClass "[I" = some (tc 0) := by
      have z := (hK.1.2 0 (tc 0, .int) rfl).2
      have z2 : s.vm.findClass ("[" ++ FieldType.int.toString) = some (tc 0) := z
      have ez : "[" ++ FieldType.int.toString = "[I" := by decide +kernel
      rw [ez] at z2
      exact z2
    refine va_clone (x := (n, .inl f)) hx hb (hml.trans X.2.2.1.1.symm) hown (hts _ (mx_link hk hl)) (hts _ mx_wClone.1) (hts _ mx_wClone.2.1) (hts _ mx_wClone.2.2.1) (hts _ mx_wClone.2.2.2) hK.2.2.2.2 hK.1 X.1.1 mx_wl_D X.2.1 (mx_A_of hsz) b 0 hg rfl hnm (va_fit (fun _ _ => rfl)) (by omega) (mx_ok8_locals sa base h8 hlo (by omega)) (by omega) (show slots + n ≤ R.slots by omega) hd (fun q H1 hK1 hP1 hD1 hS1 => mx_bound fun hbd => ?_)
    have hq : q = base + h.1 := mx_fresh hP1 hD1 hbd (by omega)
    have k2 := kk H1 locs ls (cells + 1) (slots + n) ⟨X.1.new (e := .inl (0, n, .inl f)) hq hbig hP1, hS1, X.2.2.1, (by show cells + 1 + c0 = h.1 + 1; omega), (by show slots + n + s0 = h.2.1 + n; omega)⟩
    subst hq
    have k3 : W p l e R s m args below meth c H1 locs (cells + 1) (slots + n) Q (F0 m (pc + 3) ls (Value.ref (mx_ad sa base h.1) :: r.map (mx_cv (mx_ad sa base)))) := k2
    rw [mx_ad_lt hbig] at k3
    exact k3
  · exact absurd hb2 (Nat.lt_irrefl _)
theorem mx_s_ldcI (C : mx_Cx dC dI tc sa base Ls xs av k p R s m args meth c c0) (hk : mx_mc k < 13) {i : Nat} {v : Int} (hd : decode (mx_mb k) pc = .ok (.ldc i, 2)) (hl : mx_has k (i, 9, 0, v) = true) (X : mx_At dC dI tc sa base Ls xs k s c0 s0 L h H locs ls cells slots)
    (kk : mx_K p l e R s m args below meth c Q dC dI tc sa base Ls xs k c0 s0 (pc + 2, L, .int (Int32.ofInt v) :: st, h)) : W p l e R s m args below meth c H locs cells slots Q (F0 m pc ls (st.map (mx_cv (mx_ad sa base)))) := by
  obtain ⟨hx, hb, hml, hown, hts, hin, hK, hE, hsz, hfr, hlo⟩ := C
  exact lv_ldc hx hb hown (hts _ (mx_link hk hl)) hd (kk H locs ls cells slots X)
theorem mx_s_ldcW (C : mx_Cx dC dI tc sa base Ls xs av k p R s m args meth c c0) (hk : mx_mc k < 13) {i : Nat} {v : Int} (hd : decode (mx_mb k) pc = .ok (.ldc_w i, 3)) (hl : mx_has k (i, 9, 0, v) = true) (X : mx_At dC dI tc sa base Ls xs k s c0 s0 L h H locs ls cells slots)
    (kk : mx_K p l e R s m args below meth c Q dC dI tc sa base Ls xs k c0 s0 (pc + 3, L, .int (Int32.ofInt v) :: st, h)) : W p l e R s m args below meth c H locs cells slots Q (F0 m pc ls (st.map (mx_cv (mx_ad sa base)))) := by
  obtain ⟨hx, hb, hml, hown, hts, hin, hK, hE, hsz, hfr, hlo⟩ := C
  exact lv_ldcw hx hb hown (hts _ (mx_link hk hl)) hd (kk H locs ls cells slots X)
theorem mx_s_ldc2 (C : mx_Cx dC dI tc sa base Ls xs av k p R s m args meth c c0) (hk : mx_mc k < 13) {i : Nat} {v : Int} (hd : decode (mx_mb k) pc = .ok (.ldc2_w i, 3)) (hl : mx_has k (i, 10, 0, v) = true) (X : mx_At dC dI tc sa base Ls xs k s c0 s0 L h H locs ls cells slots)
    (kk : mx_K p l e R s m args below meth c Q dC dI tc sa base Ls xs k c0 s0 (pc + 3, L, .long (Int64.ofInt v) :: st, h)) : W p l e R s m args below meth c H locs cells slots Q (F0 m pc ls (st.map (mx_cv (mx_ad sa base)))) := by
  obtain ⟨hx, hb, hml, hown, hts, hin, hK, hE, hsz, hfr, hlo⟩ := C
  exact lv_ldc2 hx hb hown (hts _ (mx_link hk hl)) hd (kk H locs ls cells slots X)
theorem mx_s_ldcS (C : mx_Cx dC dI tc sa base Ls xs av k p R s m args meth c c0) (hk : mx_mc k < 13) {i : Nat} (ha : ¬ a = 0) (hd : decode (mx_mb k) pc = .ok (.ldc i, 2)) (hl : mx_has k (i, 11, a, 0) = true) (X : mx_At dC dI tc sa base Ls xs k s c0 s0 L h H locs ls cells slots)
    (kk : mx_K p l e R s m args below meth c Q dC dI tc sa base Ls xs k c0 s0 (pc + 2, L, .ref (mx_big + a) :: st, h)) : W p l e R s m args below meth c H locs cells slots Q (F0 m pc ls (st.map (mx_cv (mx_ad sa base)))) := by
  obtain ⟨hx, hb, hml, hown, hts, hin, hK, hE, hsz, hfr, hlo⟩ := C
  obtain ⟨q, g1, g2, g3, g4⟩ := mx_link hk hl
  have hR := hK.2.2.1 (a - 1) q g1
  rw [g3, g4, show a - 1 + 1 = a by omega] at hR
  have kz : W p l e R s m args below meth c H locs cells slots Q (F0 m (pc + 2) ls (Value.ref (mx_ad sa base (mx_big + a)) :: st.map (mx_cv (mx_ad sa base)))) := kk H locs ls cells slots X
  rw [mx_ad_big] at kz
  exact va_ldcS hx hb hown hR hd kz
end MXN
