/-! ===== steps on the heap ===== -/
set_option maxRecDepth 100000 in
theorem mx_aI : Cond.arrayClass .int ∈ mx_ts := mx_in 144 rfl rfl
set_option maxRecDepth 100000 in
theorem mx_aZ : Cond.arrayClass .boolean ∈ mx_ts := mx_in 1074 rfl rfl
set_option maxRecDepth 100000 in
theorem mx_aC : Cond.arrayClass .char ∈ mx_ts := mx_in 1073 rfl rfl
section MXH
variable {p : Program} {l : Launch} {e : Env} {R : Room} {s : State} {m : MethodId} {args : Array Value} {below : List Frame} {meth : Method} {c : Code} {H : Heap} {locs : List Loc} {cells slots : Nat} {Q : State → Prop}
variable {dC : Nat → ClassId} {dI : Nat → Nat → Nat} {tc : Nat → ClassId} {sa : Nat → Nat} {base Ls : Nat} {xs : Nat → Int32} {av : Nat → Nat} {k pc c0 s0 a : Nat} {ls : Array Slot} {L : mx_L} {h : mx_H} {st r : List Value} {s' : mx_S}
theorem mx_link {c : Nat} {q : Nat × Nat × Nat × Int} (hc : c < 13) (h : (mx_lk c).contains q = true) : mx_okL c q := mx_okl c hc q (by simpa using h)
theorem mx_s_getf (C : mx_Cx dC dI tc sa base Ls xs av k p R s m args meth c c0) (hk : mx_mc k < 13) {i b ci : Nat} {fs : List Value} (hd : decode (mx_mb k) pc = .ok (.getfield i, 3)) (hl : mx_has k (i, 0, a, 0) = true) (X : mx_At dC dI tc sa base Ls xs k s c0 s0 L h H locs ls cells slots) (hh : h.2.2 b = .inr (ci, fs)) (hci : ci = a / 100) (hs : mx_psh (fs[a % 100]?) (pc + 3) L r h = some (.inl s'))
    (kk : mx_K p l e R s m args below meth c Q dC dI tc sa base Ls xs k c0 s0 s') : W p l e R s m args below meth c H locs cells slots Q (F0 m pc ls ((Value.ref b :: r).map (mx_cv (mx_ad sa base)))) := by
  obtain ⟨hx, hb, hml, hown, hts, hin, hK, hE, hsz, hfr, hlo⟩ := C
  obtain ⟨⟨C, T, N⟩, g1, g2, -, g3⟩ := mx_link hk hl
  unfold mx_psh at hs
  split at hs
  · next w hw =>
    cases hs
    have hc99 : ci ≠ 99 := by
      have := (List.getElem?_eq_some_iff.mp g1).1
      have h10 : mx_cl.length = 10 := rfl
      omega
    obtain ⟨hb1, hb2⟩ := mx_here X.1 hh hc99
    have hg := mx_wl_get (tc := tc) (sa := sa) (base := base) hb1
    rw [hh] at hg
    subst hci
    have kz := kk H locs ls cells slots X
    show W p l e R s m args below meth c H locs cells slots Q (F0 m pc ls (Value.ref (mx_ad sa base b) :: r.map (mx_cv (mx_ad sa base))))
    rw [mx_ad_lt hb2]
    exact va_get hx hb hts (mx_uws _ _ g1) hown hK.1 X.1.1 b hg g1 (a % 100) g2 (hts _ g3) (fun _ z => z) (v := mx_cv (mx_ad sa base) w) (by rw [List.getElem?_map, hw]; rfl) hd kz
  · cases hs
theorem mx_s_putf (C : mx_Cx dC dI tc sa base Ls xs av k p R s m args meth c c0) (hk : mx_mc k < 13) {i b ci : Nat} {fs : List Value} {w : Value} (hd : decode (mx_mb k) pc = .ok (.putfield i, 3)) (hl : mx_has k (i, 0, a, 0) = true) (hfin : (!(mx_fin a) || (decide ((mx_my k).name = "<init>") && decide (a / 100 = mx_mc k))) = true) (X : mx_At dC dI tc sa base Ls xs k s c0 s0 L h H locs ls cells slots) (hh : h.2.2 b = .inr (ci, fs)) (hci : ci = a / 100) (hlen : a % 100 < fs.length) (hfit : mx_fit (mx_tyf a) w = true)
    (kk : mx_K p l e R s m args below meth c Q dC dI tc sa base Ls xs k c0 s0 (pc + 3, L, r, mx_set h b (.inr (ci, fs.set (a % 100) w)))) : W p l e R s m args below meth c H locs cells slots Q (F0 m pc ls ((w :: Value.ref b :: r).map (mx_cv (mx_ad sa base)))) := by
  obtain ⟨hx, hb, hml, hown, hts, hin, hK, hE, hsz, hfr, hlo⟩ := C
  obtain ⟨⟨C, T, N⟩, g1, g2, g0, g3⟩ := mx_link hk hl
  have hc99 : ci ≠ 99 := by
    have := (List.getElem?_eq_some_iff.mp g1).1
    have h10 : mx_cl.length = 10 := rfl
    omega
  obtain ⟨hb1, hb2⟩ := mx_here X.1 hh hc99
  have hg := mx_wl_get (tc := tc) (sa := sa) (base := base) hb1
  rw [hh] at hg
  subst hci
  obtain ⟨t1, t2, -, -⟩ := mx_tyok _ _ g1
  obtain ⟨f1, f2⟩ := mx_fit_ok (mx_ad sa base) hfit
  have k1 : ∀ (H1 : Heap) (locs1 : List Loc), va_P (dC, dI) mx_cl ((mx_wl tc sa base h).set b (base + b, .inr (a / 100, (fs.map (mx_cv (mx_ad sa base))).set (a % 100) (mx_cv (mx_ad sa base) w)))) H1 → va_D (mx_A base) ((mx_wl tc sa base h).set b (base + b, .inr (a / 100, (fs.map (mx_cv (mx_ad sa base))).set (a % 100) (mx_cv (mx_ad sa base) w)))) → va_S (mx_A base) s.heap H1 locs1 → W p l e R s m args below meth c H1 locs1 cells slots Q (F0 m (pc + 3) ls (r.map (mx_cv (mx_ad sa base)))) := by
    intro H1 locs1 hP1 _ hS1
    rw [← List.map_set] at hP1
    exact kk H1 locs1 ls cells slots ⟨X.1.set hb1 hP1, hS1, X.2.2⟩
  show W p l e R s m args below meth c H locs cells slots Q (F0 m pc ls (mx_cv (mx_ad sa base) w :: Value.ref (mx_ad sa base b) :: r.map (mx_cv (mx_ad sa base))))
  rw [mx_ad_lt hb2]
  have hfe : mx_fin a = (T (a % 100)).2.2.2 := by
    unfold mx_fin
    rw [g1]
  have hty : parseFieldDescriptor (T (a % 100)).2.2.1 = some (mx_tyf a) := t1 _ g2
  cases hf : mx_fin a with
  | false =>
    exact va_put hx hb hts (mx_uws _ _ g1) _ t1 t2 hown hK.1 X.1.1 mx_wl_D X.2.1 b hg g1 (a % 100) g2 (hts _ g3) (fun _ z => z) (by rw [← hfe]; exact hf) hty f1 f2 (by rw [List.length_map]; exact hlen) hd k1
  | true =>
    rw [hf] at hfin
    simp only [Bool.not_true, Bool.false_or, Bool.and_eq_true, decide_eq_true_eq] at hfin
    refine va_putF hx hb hts (mx_uws _ _ g1) _ t1 t2 hown hK.1 X.1.1 mx_wl_D X.2.1 b hg g1 (a % 100) g2 (hts _ g3) (fun _ z => z) (by rw [← hfe]; exact hf) (hin hfin.1) ?_ hty f1 f2 (by rw [List.length_map]; exact hlen) hd k1
    rw [← g0, ← hfin.2]
    have h10 : a / 100 < 10 := (List.getElem?_eq_some_iff.mp g1).1
    have hcn : ∀ (c : Nat) (q : vw_C), mx_cl[c]? = some q → q.1 = mx_cn c := by
      intro c q hq
      have hlt : c < 10 := (List.getElem?_eq_some_iff.mp hq).1
      match c, hlt, hq with
      | 0, _, hq => cases hq; rfl
      | 1, _, hq => cases hq; rfl
      | 2, _, hq => cases hq; rfl
      | 3, _, hq => cases hq; rfl
      | 4, _, hq => cases hq; rfl
      | 5, _, hq => cases hq; rfl
      | 6, _, hq => cases hq; rfl
      | 7, _, hq => cases hq; rfl
      | 8, _, hq => cases hq; rfl
      | 9, _, hq => cases hq; rfl
    exact hcn _ _ g1
theorem mx_vin_in {i : Int32} {n : Nat} (h : mx_vin i n = true) : vp_in i n := by
  unfold mx_vin at h
  have h2 : ¬ (i < 0 ∨ n ≤ i.toNatClampNeg) := of_decide_eq_true h
  exact h2
theorem mx_s_ald (C : mx_Cx dC dI tc sa base Ls xs av k p R s m args meth c c0) {ins : Jvm.ClassFile.Instr} {t : Nat} (hcase : (ins = .iaload ∧ t = 0) ∨ (ins = .baload ∧ t = 1) ∨ (ins = .caload ∧ t = 2)) (hd : decode (mx_mb k) pc = .ok (ins, 1)) (X : mx_At dC dI tc sa base Ls xs k s c0 s0 L h H locs ls cells slots) (hs : mx_ald t pc L st h = some (.inl s'))
    (kk : mx_K p l e R s m args below meth c Q dC dI tc sa base Ls xs k c0 s0 s') : W p l e R s m args below meth c H locs cells slots Q (F0 m pc ls (st.map (mx_cv (mx_ad sa base)))) := by
  obtain ⟨hx, hb, hml, hown, hts, hin, hK, hE, hsz, hfr, hlo⟩ := C
  unfold mx_ald at hs
  split at hs
  · next i b r =>
    split at hs
    · next u n f hh =>
      split at hs
      · next hc =>
        obtain ⟨rfl, hv⟩ := hc
        cases hs
        have kz := kk H locs ls cells slots X
        have hv2 := mx_vin_in hv
        show W p l e R s m args below meth c H locs cells slots Q (F0 m pc ls (Value.int i :: Value.ref (mx_ad sa base b) :: r.map (mx_cv (mx_ad sa base))))
        rcases mx_hereA X.1 hh with ⟨hb1, hb2⟩ | ⟨rfl, rfl, rfl, hf⟩
        · have hg := mx_wl_get (tc := tc) (sa := sa) (base := base) hb1
          rw [hh] at hg
          rw [mx_ad_lt hb2]
          rcases hcase with ⟨rfl, rfl⟩ | ⟨rfl, rfl⟩ | ⟨rfl, rfl⟩
          · exact va_iald hx hb hK.1 X.1.1 b 0 hg rfl hv2 hd kz
          · exact va_zald hx hb hK.1 X.1.1 b 1 hg rfl hv2 hd kz
          · exact va_cald hx hb hK.1 X.1.1 b 2 hg rfl hv2 hd kz
        · cases hf
          rw [show mx_ad sa base mx_big = sa 0 from mx_ad_big (i := 0)]
          rcases hcase with ⟨rfl, -⟩ | ⟨-, h0⟩ | ⟨-, h0⟩
          · have hlt : sa 0 < s.heap.size := by
              obtain ⟨scr, g, -⟩ := hE.2.1
              exact (Array.getElem?_eq_some_iff.mp g).1
            exact va_sld hx hb hE.2.1 hlt (show ¬ base ≤ sa 0 from by have := hE.1; omega) X.2.1 hv2 hd kz
          · cases h0
          · cases h0
      · cases hs
    · cases hs
  · cases hs
theorem mx_s_ast (C : mx_Cx dC dI tc sa base Ls xs av k p R s m args meth c c0) {ins : Jvm.ClassFile.Instr} {t : Nat} {ty : FieldType} (hcase : (ins = .iastore ∧ t = 0 ∧ ty = .int) ∨ (ins = .bastore ∧ t = 1 ∧ ty = .boolean) ∨ (ins = .castore ∧ t = 2 ∧ ty = .char)) (hd : decode (mx_mb k) pc = .ok (ins, 1)) (X : mx_At dC dI tc sa base Ls xs k s c0 s0 L h H locs ls cells slots) (hs : mx_ast t ty pc L st h = some (.inl s'))
    (kk : mx_K p l e R s m args below meth c Q dC dI tc sa base Ls xs k c0 s0 s') : W p l e R s m args below meth c H locs cells slots Q (F0 m pc ls (st.map (mx_cv (mx_ad sa base)))) := by
  obtain ⟨hx, hb, hml, hown, hts, hin, hK, hE, hsz, hfr, hlo⟩ := C
  unfold mx_ast at hs
  split at hs
  · next x i b r =>
    split at hs
    · next u n f hh =>
      split at hs
      · next hc =>
        obtain ⟨rfl, hb2, hv⟩ := hc
        cases hs
        have hv2 := mx_vin_in hv
        show W p l e R s m args below meth c H locs cells slots Q (F0 m pc ls (Value.int x :: Value.int i :: Value.ref (mx_ad sa base b) :: r.map (mx_cv (mx_ad sa base))))
        rcases mx_hereA X.1 hh with ⟨hb1, -⟩ | ⟨rfl, -⟩
        · have hg := mx_wl_get (tc := tc) (sa := sa) (base := base) hb1
          rw [hh] at hg
          rw [mx_ad_lt hb2]
          rcases hcase with ⟨rfl, rfl, rfl⟩ | ⟨rfl, rfl, rfl⟩ | ⟨rfl, rfl, rfl⟩
          · exact va_iast hx hb hK.1 X.1.1 mx_wl_D X.2.1 b 0 hg rfl hv2 hd (fun H1 locs1 hP1 _ hS1 => kk H1 locs1 ls cells slots ⟨X.1.set hb1 hP1, hS1, X.2.2⟩)
          · exact va_zast hx hb hK.1 X.1.1 mx_wl_D X.2.1 b 1 hg rfl hv2 hd (fun H1 locs1 hP1 _ hS1 => kk H1 locs1 ls cells slots ⟨X.1.set hb1 hP1, hS1, X.2.2⟩)
          · exact va_cast hx hb hK.1 X.1.1 mx_wl_D X.2.1 b 2 hg rfl hv2 hd (fun H1 locs1 hP1 _ hS1 => kk H1 locs1 ls cells slots ⟨X.1.set hb1 hP1, hS1, X.2.2⟩)
        · exact absurd hb2 (Nat.lt_irrefl _)
      · cases hs
    · cases hs
  · cases hs
theorem mx_s_aald (C : mx_Cx dC dI tc sa base Ls xs av k p R s m args meth c c0) {b u n : Nat} {i : Int32} {g : Nat → Option Nat} (hd : decode (mx_mb k) pc = .ok (.aaload, 1)) (X : mx_At dC dI tc sa base Ls xs k s c0 s0 L h H locs ls cells slots) (hh : h.2.2 b = .inl (u, n, .inr g)) (h3 : 3 ≤ u) (h5 : u ≤ 5) (hb2 : b < mx_big) (hv : mx_vin i n = true)
    (kk : mx_K p l e R s m args below meth c Q dC dI tc sa base Ls xs k c0 s0 (pc + 1, L, va_rf (g i.toNatClampNeg) :: r, h)) : W p l e R s m args below meth c H locs cells slots Q (F0 m pc ls ((Value.int i :: Value.ref b :: r).map (mx_cv (mx_ad sa base)))) := by
  obtain ⟨hx, hb, hml, hown, hts, hin, hK, hE, hsz, hfr, hlo⟩ := C
  have kz := kk H locs ls cells slots X
  show W p l e R s m args below meth c H locs cells slots Q (F0 m pc ls (Value.int i :: Value.ref (mx_ad sa base b) :: r.map (mx_cv (mx_ad sa base))))
  rcases mx_hereA X.1 hh with ⟨hb1, -⟩ | ⟨rfl, -⟩
  · have hg := mx_wl_get (tc := tc) (sa := sa) (base := base) hb1
    rw [hh] at hg
    rw [mx_ad_lt hb2]
    obtain ⟨r0, -, ht⟩ := mx_tys_el (tc := tc) h3 h5
    refine va_aldq hx hb hK.1 X.1.1 b u hg ht (mx_vin_in hv) hd ?_
    have kz2 : W p l e R s m args below meth c H locs cells slots Q (F0 m (pc + 1) ls (mx_cv (mx_ad sa base) (va_rf (g i.toNatClampNeg)) :: r.map (mx_cv (mx_ad sa base)))) := kz
    rw [mx_cv_rf] at kz2
    exact kz2
  · omega
theorem mx_s_aast (C : mx_Cx dC dI tc sa base Ls xs av k p R s m args meth c c0) {b w u n ci : Nat} {fs : List Value} {i : Int32} {g : Nat → Option Nat} (hd : decode (mx_mb k) pc = .ok (.aastore, 1)) (X : mx_At dC dI tc sa base Ls xs k s c0 s0 L h H locs ls cells slots) (hh : h.2.2 b = .inl (u, n, .inr g)) (hw : h.2.2 w = .inr (ci, fs)) (h3 : 3 ≤ u) (h5 : u ≤ 5) (hci : ci = mx_el u) (hb2 : b < mx_big) (hv : mx_vin i n = true)
    (kk : mx_K p l e R s m args below meth c Q dC dI tc sa base Ls xs k c0 s0 (pc + 1, L, r, mx_set h b (.inl (u, n, .inr (va_up g i.toNatClampNeg (some w)))))) : W p l e R s m args below meth c H locs cells slots Q (F0 m pc ls ((Value.ref w :: Value.int i :: Value.ref b :: r).map (mx_cv (mx_ad sa base)))) := by
  obtain ⟨hx, hb, hml, hown, hts, hin, hK, hE, hsz, hfr, hlo⟩ := C
  show W p l e R s m args below meth c H locs cells slots Q (F0 m pc ls (Value.ref (mx_ad sa base w) :: Value.int i :: Value.ref (mx_ad sa base b) :: r.map (mx_cv (mx_ad sa base))))
  rcases mx_hereA X.1 hh with ⟨hb1, -⟩ | ⟨rfl, -⟩
  · obtain ⟨r0, hr0, ht⟩ := mx_tys_el (tc := tc) h3 h5
    have hc99 : ci ≠ 99 := by
      have := (List.getElem?_eq_some_iff.mp hr0).1
      have h10 : mx_cl.length = 10 := rfl
      omega
    obtain ⟨hw1, hw2⟩ := mx_here X.1 hw hc99
    have hg := mx_wl_get (tc := tc) (sa := sa) (base := base) hb1
    rw [hh] at hg
    have hgw := mx_wl_get (tc := tc) (sa := sa) (base := base) hw1
    rw [hw] at hgw
    subst hci
    rw [mx_ad_lt hb2, mx_ad_lt hw2]
    refine va_astq hx hb hK.1 X.1.1 mx_wl_D X.2.1 b u w (mx_el u) hg ht hgw hr0 (mx_vin_in hv) hd (fun H1 locs1 hP1 _ hS1 => kk H1 locs1 ls cells slots ⟨X.1.set hb1 ?_, hS1, X.2.2⟩)
    have he : va_up (fun j => (g j).map (mx_ad sa base)) i.toNatClampNeg (some (base + w)) = fun j => (va_up g i.toNatClampNeg (some w) j).map (mx_ad sa base) := by
      funext j
      unfold va_up
      split
      · simp [mx_ad_lt hw2]
      · rfl
    rw [he] at hP1
    exact hP1
  · omega
theorem mx_s_alen (C : mx_Cx dC dI tc sa base Ls xs av k p R s m args meth c c0) {b u n : Nat} {f : mx_C} (hd : decode (mx_mb k) pc = .ok (.arraylength, 1)) (X : mx_At dC dI tc sa base Ls xs k s c0 s0 L h H locs ls cells slots) (hh : h.2.2 b = .inl (u, n, f)) (h5 : u ≤ 5)
    (kk : mx_K p l e R s m args below meth c Q dC dI tc sa base Ls xs k c0 s0 (pc + 1, L, .int (Int32.ofNat n) :: r, h)) : W p l e R s m args below meth c H locs cells slots Q (F0 m pc ls ((Value.ref b :: r).map (mx_cv (mx_ad sa base)))) := by
  obtain ⟨hx, hb, hml, hown, hts, hin, hK, hE, hsz, hfr, hlo⟩ := C
  have kz := kk H locs ls cells slots X
  show W p l e R s m args below meth c H locs cells slots Q (F0 m pc ls (Value.ref (mx_ad sa base b) :: r.map (mx_cv (mx_ad sa base))))
  rcases mx_hereA X.1 hh with ⟨hb1, hb2⟩ | ⟨rfl, rfl, rfl, hf⟩
  · have hg := mx_wl_get (tc := tc) (sa := sa) (base := base) hb1
    rw [hh] at hg
    rw [mx_ad_lt hb2]
    obtain ⟨ty, ht⟩ : ∃ ty, (mx_tys tc)[u]? = some (tc u, ty) := by
      rcases (show u = 0 ∨ u = 1 ∨ u = 2 ∨ u = 3 ∨ u = 4 ∨ u = 5 by omega) with rfl | rfl | rfl | rfl | rfl | rfl <;> exact ⟨_, rfl⟩
    cases f with
    | inl f => exact va_alen hx hb hK.1 X.1.1 b u hg ht rfl hd kz
    | inr f => exact va_alen hx hb hK.1 X.1.1 b u hg ht rfl hd kz
  · cases hf
    rw [show mx_ad sa base mx_big = sa 0 from mx_ad_big (i := 0)]
    have hlt : sa 0 < s.heap.size := by
      obtain ⟨scr, g, -⟩ := hE.2.1
      exact (Array.getElem?_eq_some_iff.mp g).1
    exact va_slen hx hb hE.2.1 hlt (show ¬ base ≤ sa 0 from by have := hE.1; omega) X.2.1 hd kz
theorem mx_A_of {s : State} {base c0 : Nat} (hsz : s.heap.size = base + c0) : ∀ q : Nat, s.heap.size ≤ q → mx_A base q := fun q hq => by
  show base ≤ q
  omega
theorem mx_s_nwa (C : mx_Cx dC dI tc sa base Ls xs av k p R s m args meth c c0) {t : Nat} {at0 : ArrayType} {ty : FieldType} (hcase : (t = 0 ∧ at0 = .int ∧ ty = .int) ∨ (t = 1 ∧ at0 = .boolean ∧ ty = .boolean) ∨ (t = 2 ∧ at0 = .char ∧ ty = .char)) (hd : decode (mx_mb k) pc = .ok (.newarray at0, 2)) (X : mx_At dC dI tc sa base Ls xs k s c0 s0 L h H locs ls cells slots) (hs : mx_nwa t (pc + 2) (.inl fun _ => 0) L st h = some (.inl s')) (hrc : s'.2.2.2.1 ≤ c0 + R.cells) (hrs : s'.2.2.2.2.1 ≤ s0 + R.slots)
    (kk : mx_K p l e R s m args below meth c Q dC dI tc sa base Ls xs k c0 s0 s') : W p l e R s m args below meth c H locs cells slots Q (F0 m pc ls (st.map (mx_cv (mx_ad sa base)))) := by
  obtain ⟨hx, hb, hml, hown, hts, hin, hK, hE, hsz, hfr, hlo⟩ := C
  unfold mx_nwa at hs
  split at hs
  · next n r =>
    split at hs
    · next hc =>
      obtain ⟨hn, hN, hbig⟩ := hc
      cases hs
      have hrc2 : h.1 + 1 ≤ c0 + R.cells := hrc
      have hrs2 : h.2.1 + n.toNatClampNeg ≤ s0 + R.slots := hrs
      have e1 := X.2.2.2.1
      have e2 := X.2.2.2.2
      have hcl : cells + 1 ≤ R.cells := by omega
      have hsl : slots + n.toNatClampNeg ≤ R.slots := by omega
      have hbt : n.toNatClampNeg * componentBytes ty ≤ 536870912 := by
        rcases hcase with ⟨-, -, rfl⟩ | ⟨-, -, rfl⟩ | ⟨-, -, rfl⟩ <;> simp only [componentBytes] <;> omega
      have ht : (mx_tys tc)[t]? = some (tc t, ty) := by
        rcases hcase with ⟨rfl, -, rfl⟩ | ⟨rfl, -, rfl⟩ | ⟨rfl, -, rfl⟩ <;> rfl
      have harr : (Cond.arrayClass (newarray.typeOf at0)).before args s = true := by
        rcases hcase with ⟨rfl, rfl, rfl⟩ | ⟨rfl, rfl, rfl⟩ | ⟨rfl, rfl, rfl⟩
        · exact hts _ mx_aI
        · exact hts _ mx_aZ
        · exact hts _ mx_aC
      have hty : newarray.typeOf at0 = ty := by
        rcases hcase with ⟨rfl, rfl, rfl⟩ | ⟨rfl, rfl, rfl⟩ | ⟨rfl, rfl, rfl⟩ <;> rfl
      have hcell : ∀ cA : ClassId, vp_cell cA (n.toNatClampNeg, .inl fun _ => 0) = arrV cA n.toNatClampNeg (fun _ => defaultValue ty) := by
        intro cA
        rcases hcase with ⟨-, -, rfl⟩ | ⟨-, -, rfl⟩ | ⟨-, -, rfl⟩ <;> rfl
      have hprim : ∀ C, ty ≠ .object C := by
        intro C
        rcases hcase with ⟨-, -, rfl⟩ | ⟨-, -, rfl⟩ | ⟨-, -, rfl⟩ <;> intro z <;> cases z
      refine va_newa (a0 := (n.toNatClampNeg, .inl fun _ => 0)) hx hb harr hty hK.1 X.1.1 mx_wl_D X.2.1 (mx_A_of hsz) hcell hn rfl hbt hcl hsl hd (fun q cA H1 hK1 hP1 hD1 hS1 => mx_bound fun hbd => ?_)
      have hq : q = base + h.1 := mx_fresh hP1 hD1 hbd (by omega)
      have hcA : cA = tc t := by
        have z1 := (hK1.2 (mx_tys tc).length (cA, ty) (by rw [List.getElem?_append_right (Nat.le_refl _), Nat.sub_self]; rfl)).2
        have z2 := (hK.1.2 t (tc t, ty) ht).2
        rcases hcase with ⟨-, -, rfl⟩ | ⟨-, -, rfl⟩ | ⟨-, -, rfl⟩ <;> exact Option.some.inj (Eq.trans (Eq.symm z1) z2)
      subst hcA
      have k2 := kk H1 locs ls (cells + 1) (slots + n.toNatClampNeg) ⟨X.1.new (e := .inl (t, n.toNatClampNeg, .inl fun _ => 0)) hq hbig hP1, hS1, X.2.2.1, (by show cells + 1 + c0 = h.1 + 1; omega), (by show slots + n.toNatClampNeg + s0 = h.2.1 + n.toNatClampNeg; omega)⟩
      subst hq
      have k3 : W p l e R s m args below meth c H1 locs (cells + 1) (slots + n.toNatClampNeg) Q (F0 m (pc + 2) ls (Value.ref (mx_ad sa base h.1) :: r.map (mx_cv (mx_ad sa base)))) := k2
      rw [mx_ad_lt hbig] at k3
      exact k3
    · cases hs
  · cases hs
theorem mx_s_nwq (C : mx_Cx dC dI tc sa base Ls xs av k p R s m args meth c c0) (hk : mx_mc k < 13) {i : Nat} (hd : decode (mx_mb k) pc = .ok (.anewarray i, 3)) (hl : mx_has k (i, 8, a, 0) = true) (h3 : 3 ≤ a) (h5 : a ≤ 5) (X : mx_At dC dI tc sa base Ls xs k s c0 s0 L h H locs ls cells slots) (hs : mx_nwa a (pc + 3) (.inr fun _ => none) L st h = some (.inl s')) (hrc : s'.2.2.2.1 ≤ c0 + R.cells) (hrs : s'.2.2.2.2.1 ≤ s0 + R.slots)
    (kk : mx_K p l e R s m args below meth c Q dC dI tc sa base Ls xs k c0 s0 s') : W p l e R s m args below meth c H locs cells slots Q (F0 m pc ls (st.map (mx_cv (mx_ad sa base)))) := by
  obtain ⟨hx, hb, hml, hown, hts, hin, hK, hE, hsz, hfr, hlo⟩ := C
  obtain ⟨r0, g1, -, -, g2⟩ := mx_link hk hl
  obtain ⟨r1, g3, ht⟩ := mx_tys_el (tc := tc) h3 h5
  cases g1.symm.trans g3
  unfold mx_nwa at hs
  split at hs
  · next n r =>
    split at hs
    · next hc =>
      obtain ⟨hn, hN, hbig⟩ := hc
      cases hs
      have hrc2 : h.1 + 1 ≤ c0 + R.cells := hrc
      have hrs2 : h.2.1 + n.toNatClampNeg ≤ s0 + R.slots := hrs
      have e1 := X.2.2.2.1
      have e2 := X.2.2.2.2
      have hcl : cells + 1 ≤ R.cells := by omega
      have hsl : slots + n.toNatClampNeg ≤ R.slots := by omega
      have hover : va_AO r0.1 s := by
        rcases (show a = 3 ∨ a = 4 ∨ a = 5 by omega) with rfl | rfl | rfl <;> cases g1
        · exact hK.2.2.2.1.1
        · exact hK.2.2.2.1.2.1
        · exact hK.2.2.2.1.2.2
      refine va_newq hx hb hown (hts _ g2) hover hK.1 X.1.1 mx_wl_D X.2.1 (mx_A_of hsz) hn rfl (by omega) hcl hsl hd (fun q cA H1 hK1 hP1 hD1 hS1 => mx_bound fun hbd => ?_)
      have hq : q = base + h.1 := mx_fresh hP1 hD1 hbd (by omega)
      have hcA : cA = tc a := by
        obtain ⟨_, _, -, -, -, z1⟩ := (hK1.2 (mx_tys tc).length (cA, .object r0.1) (by rw [List.getElem?_append_right (Nat.le_refl _), Nat.sub_self]; rfl)).2
        obtain ⟨_, _, -, -, -, z2⟩ := (hK.1.2 a (tc a, .object r0.1) ht).2
        exact Option.some.inj (z1.symm.trans z2)
      subst hcA
      have k2 := kk H1 locs ls (cells + 1) (slots + n.toNatClampNeg) ⟨X.1.new (e := .inl (a, n.toNatClampNeg, .inr fun _ => none)) hq hbig hP1, hS1, X.2.2.1, (by show cells + 1 + c0 = h.1 + 1; omega), (by show slots + n.toNatClampNeg + s0 = h.2.1 + n.toNatClampNeg; omega)⟩
      subst hq
      have k3 : W p l e R s m args below meth c H1 locs (cells + 1) (slots + n.toNatClampNeg) Q (F0 m (pc + 3) ls (Value.ref (mx_ad sa base h.1) :: r.map (mx_cv (mx_ad sa base)))) := k2
      rw [mx_ad_lt hbig] at k3
      exact k3
    · cases hs
  · cases hs
theorem mx_s_new (C : mx_Cx dC dI tc sa base Ls xs av k p R s m args meth c c0) (hk : mx_mc k < 13) {i : Nat} (hd : decode (mx_mb k) pc = .ok (.new i, 3)) (hl : mx_has k (i, 7, a, 0) = true) (hbig : h.1 < mx_big) (X : mx_At dC dI tc sa base Ls xs k s c0 s0 L h H locs ls cells slots) (hrc : h.1 + 1 ≤ c0 + R.cells) (hrs : h.2.1 + mx_nf a ≤ s0 + R.slots)
    (kk : mx_K p l e R s m args below meth c Q dC dI tc sa base Ls xs k c0 s0 (pc + 3, L, .ref h.1 :: st, mx_new h (mx_nf a) (.inr (a, mx_defs a)))) : W p l e R s m args below meth c H locs cells slots Q (F0 m pc ls (st.map (mx_cv (mx_ad sa base)))) := by
  obtain ⟨hx, hb, hml, hown, hts, hin, hK, hE, hsz, hfr, hlo⟩ := C
  obtain ⟨⟨C, T, N⟩, g1, g2, g3, g4⟩ := mx_link hk hl
  obtain ⟨t1, t2, t3, t4⟩ := mx_tyok _ _ g1
  have e1 := X.2.2.2.1
  have e2 := X.2.2.2.2
  have t4' : mx_nf a = N := t4
  refine va_new hx hb hts (mx_uws _ _ g1) _ t1 hown (hts _ g2) (hts _ g3) (hts _ g4) hK.1 X.1.1 mx_wl_D X.2.1 (mx_A_of hsz) g1 t3 (by omega) (by omega) hd (fun q H1 hP1 hD1 hS1 => mx_bound fun hbd => ?_)
  have hq : q = base + h.1 := mx_fresh hP1 hD1 hbd (by omega)
  have hP2 : va_P (dC, dI) mx_cl (mx_wl tc sa base h ++ [(q, mx_ce tc (mx_ad sa base) (.inr (a, mx_defs a)))]) H1 := by
    show va_P (dC, dI) mx_cl (mx_wl tc sa base h ++ [(q, .inr (a, (mx_defs a).map (mx_cv (mx_ad sa base))))]) H1
    rw [mx_defs_cv]
    exact hP1
  have k2 := kk H1 locs ls (cells + 1) (slots + N) ⟨X.1.new hq hbig hP2, hS1, X.2.2.1, (by show cells + 1 + c0 = h.1 + 1; omega), (by show slots + N + s0 = h.2.1 + mx_nf a; omega)⟩
  subst hq
  have k3 : W p l e R s m args below meth c H1 locs (cells + 1) (slots + N) Q (F0 m (pc + 3) ls (Value.ref (mx_ad sa base h.1) :: st.map (mx_cv (mx_ad sa base)))) := k2
  rw [mx_ad_lt hbig] at k3
  exact k3
theorem mx_s_castI (C : mx_Cx dC dI tc sa base Ls xs av k p R s m args meth c c0) (hk : mx_mc k < 13) {i b n : Nat} {f : mx_C} (hd : decode (mx_mb k) pc = .ok (.checkcast i, 3)) (hl : mx_has k (i, 12, 0, 0) = true) (X : mx_At dC dI tc sa base Ls xs k s c0 s0 L h H locs ls cells slots) (hh : h.2.2 b = .inl (0, n, f)) (hb2 : b < mx_big)
    (kk : mx_K p l e R s m args below meth c Q dC dI tc sa base Ls xs k c0 s0 (pc + 3, L, .ref b :: r, h)) : W p l e R s m args below meth c H locs cells slots Q (F0 m pc ls ((Value.ref b :: r).map (mx_cv (mx_ad sa base)))) := by
  obtain ⟨hx, hb, hml, hown, hts, hin, hK, hE, hsz, hfr, hlo⟩ := C
  have g1 := mx_link hk hl
  have kz : W p l e R s m args below meth c H locs cells slots Q (F0 m (pc + 3) ls (Value.ref (mx_ad sa base b) :: r.map (mx_cv (mx_ad sa base)))) := kk H locs ls cells slots X
  show W p l e R s m args below meth c H locs cells slots Q (F0 m pc ls (Value.ref (mx_ad sa base b) :: r.map (mx_cv (mx_ad sa base))))
  rcases mx_hereA X.1 hh with ⟨hb1, -⟩ | ⟨rfl, -⟩
  · have hg := mx_wl_get (tc := tc) (sa := sa) (base := base) hb1
    rw [hh] at hg
    rw [mx_ad_lt hb2] at kz ⊢
    have hnm : s.vm.findClass "[I" = some (tc 0) := by
      have z := (hK.1.2 0 (tc 0, .int) rfl).2
      have z2 : s.vm.findClass ("[" ++ FieldType.int.toString) = some (tc 0) := z
      have ez : "[" ++ FieldType.int.toString = "[I" := by decide +kernel
      rw [ez] at z2
      exact z2
    cases f with
    | inl f => exact va_castA hx hb hown (hts _ g1) X.1.1 b hg hnm hd kz
    | inr f => exact va_castA hx hb hown (hts _ g1) X.1.1 b hg hnm hd kz
  · omega
end MXH
