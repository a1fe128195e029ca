/-! ===== the small machine's things in the machine: addresses, cells, locals ===== -/
def mx_ad (sa : Nat → Nat) (base i : Nat) : Nat := if i < mx_big then base + i else sa (i - mx_big)
theorem mx_ad_lt {sa : Nat → Nat} {base i : Nat} (h : i < mx_big) : mx_ad sa base i = base + i := by unfold mx_ad; rw [if_pos h]
theorem mx_ad_big {sa : Nat → Nat} {base i : Nat} : mx_ad sa base (mx_big + i) = sa i := by
  unfold mx_ad
  rw [if_neg (by omega), Nat.add_sub_cancel_left]
def mx_cv (ad : Nat → Nat) (v : Value) : Value := match v with
  | .ref i => .ref (ad i)
  | w => w
theorem mx_cv_cat (ad : Nat → Nat) (v : Value) : (mx_cv ad v).category = v.category := by cases v <;> rfl
theorem mx_cv_rf (ad : Nat → Nat) (r : Option Nat) : mx_cv ad (va_rf r) = va_rf (r.map ad) := by cases r <;> rfl
theorem mx_cats_cv (ad : Nat → Nat) (st : List Value) : ((st.map (mx_cv ad)).map fun v => v.category).sum = mx_cats st := by
  unfold mx_cats
  rw [List.map_map]
  congr 1
  apply List.map_congr_left
  intro v _
  exact mx_cv_cat ad v
theorem mx_ok8_le {st : List Value} (ad : Nat → Nat) (h : mx_ok8 st = true) : ((st.map (mx_cv ad)).map fun v => v.category).sum ≤ 8 := by
  rw [mx_cats_cv]
  simpa [mx_ok8] using h
def mx_ce (tc : Nat → ClassId) (ad : Nat → Nat) (e : mx_E) : va_E := match e with
  | .inl (t, n, .inl f) => .inl (tc t, n, .inl f)
  | .inl (t, n, .inr g) => .inl (tc t, n, .inr (.inr (.inr (.inr (fun j => (g j).map ad)))))
  | .inr (ci, fs) => .inr (ci, fs.map (mx_cv ad))
def mx_wl (tc : Nat → ClassId) (sa : Nat → Nat) (base : Nat) (h : mx_H) : va_W := (List.range h.1).map (fun i => (base + i, mx_ce tc (mx_ad sa base) (h.2.2 i)))
theorem mx_wl_get {tc : Nat → ClassId} {sa : Nat → Nat} {base : Nat} {h : mx_H} {i : Nat} (hi : i < h.1) : (mx_wl tc sa base h)[i]? = some (base + i, mx_ce tc (mx_ad sa base) (h.2.2 i)) := by
  unfold mx_wl
  rw [List.getElem?_map, List.getElem?_range hi]
  rfl
theorem mx_wl_len {tc : Nat → ClassId} {sa : Nat → Nat} {base : Nat} {h : mx_H} : (mx_wl tc sa base h).length = h.1 := by simp [mx_wl]
theorem mx_wl_set {tc : Nat → ClassId} {sa : Nat → Nat} {base : Nat} {h : mx_H} {b : Nat} (e : mx_E) (hb : b < h.1) : (mx_wl tc sa base h).set b (base + b, mx_ce tc (mx_ad sa base) e) = mx_wl tc sa base (mx_set h b e) := by
  apply List.ext_getElem?
  intro i
  by_cases hi : i < h.1
  · rw [mx_wl_get (h := mx_set h b e) (show i < (mx_set h b e).1 from hi)]
    by_cases hib : b = i
    · subst hib
      rw [List.getElem?_set_self (by rw [mx_wl_len]; exact hb)]
      simp [mx_set]
    · rw [List.getElem?_set_ne hib, mx_wl_get hi]
      have hib2 : ¬ i = b := fun q => hib q.symm
      simp [mx_set, hib2]
  · rw [List.getElem?_eq_none (by simp only [List.length_set, mx_wl_len]; omega), List.getElem?_eq_none (by rw [mx_wl_len]; show (mx_set h b e).1 ≤ i; simp only [mx_set]; omega)]
theorem mx_wl_new {tc : Nat → ClassId} {sa : Nat → Nat} {base : Nat} {h : mx_H} (n : Nat) (e : mx_E) : mx_wl tc sa base h ++ [(base + h.1, mx_ce tc (mx_ad sa base) e)] = mx_wl tc sa base (mx_new h n e) := by
  unfold mx_wl
  show _ = List.map _ (List.range (h.1 + 1))
  rw [List.range_succ, List.map_append]
  congr 1
  · apply List.map_congr_left
    intro i hi
    have hi2 : ¬ i = h.1 := by have := List.mem_range.mp hi; omega
    simp [mx_new, hi2]
  · simp [mx_new]
def mx_A (base : Nat) : Nat → Prop := fun q => base ≤ q
theorem mx_wl_D {tc : Nat → ClassId} {sa : Nat → Nat} {base : Nat} {h : mx_H} : va_D (mx_A base) (mx_wl tc sa base h) := by
  have key : ∀ (i : Nat) (x : Nat × va_E), (mx_wl tc sa base h)[i]? = some x → x.1 = base + i := by
    intro i x hx
    have hi : i < h.1 := by
      have := (List.getElem?_eq_some_iff.mp hx).1
      rwa [mx_wl_len] at this
    rw [mx_wl_get hi] at hx
    cases hx
    rfl
  refine ⟨fun i j x y hx hy hxy => ?_, fun i x hx => ?_⟩
  · have h1 := key i x hx
    have h2 := key j y hy
    omega
  · have h1 := key i x hx
    show base ≤ x.1
    omega
def mx_tys (tc : Nat → ClassId) : List (ClassId × FieldType) := [(tc 0, .int), (tc 1, .boolean), (tc 2, .char), (tc 3, .object RX2), (tc 4, .object RX6), (tc 5, .object RX5)]
theorem mx_tys_el {tc : Nat → ClassId} {u : Nat} (h1 : 3 ≤ u) (h2 : u ≤ 5) : ∃ r : vw_C, mx_cl[mx_el u]? = some r ∧ (mx_tys tc)[u]? = some (tc u, .object r.1) := by
  rcases (show u = 3 ∨ u = 4 ∨ u = 5 by omega) with rfl | rfl | rfl
  · exact ⟨_, rfl, rfl⟩
  · exact ⟨_, rfl, rfl⟩
  · exact ⟨_, rfl, rfl⟩
def mx_LR (ad : Nat → Nat) (ls : Array Slot) (nL : Nat) (L : mx_L) : Prop := ls.size = nL ∧ L.length = nL ∧ lv_wf ls ∧ ∀ (j : Nat) (v : Value), L[j]? = some (some v) → ls[j]? = some (.val (mx_cv ad v))
def mx_al (ad : Nat → Nat) (L : mx_L) : List (Nat × Value) := (List.range L.length).filterMap (fun j => match L[j]? with
  | some (some v) => some (j, mx_cv ad v)
  | _ => none)
theorem mx_al_mem {ad : Nat → Nat} {L : mx_L} {j : Nat} {w : Value} : (j, w) ∈ mx_al ad L ↔ ∃ v, L[j]? = some (some v) ∧ w = mx_cv ad v := by
  unfold mx_al
  rw [List.mem_filterMap]
  constructor
  · rintro ⟨i, -, hi⟩
    split at hi
    · next v hv =>
      cases hi
      exact ⟨v, hv, rfl⟩
    · cases hi
  · rintro ⟨v, hv, rfl⟩
    refine ⟨j, List.mem_range.mpr (List.getElem?_eq_some_iff.mp hv).1, ?_⟩
    rw [hv]
theorem mx_LR.has {ad : Nat → Nat} {ls : Array Slot} {nL : Nat} {L : mx_L} (h : mx_LR ad ls nL L) : lv_has ls nL (mx_al ad L) := by
  refine ⟨h.1, h.2.2.1, ?_⟩
  rintro ⟨j, w⟩ hq
  obtain ⟨v, hv, rfl⟩ := mx_al_mem.mp hq
  exact h.2.2.2 j v hv
theorem mx_kill_len (L : mx_L) (i : Nat) : (mx_kill L i).length = L.length := by
  unfold mx_kill
  split
  · rfl
  · split
    · split <;> simp
    · rfl
theorem mx_store_len (L : mx_L) (i : Nat) (v : Value) : (mx_store L i v).length = L.length := by
  unfold mx_store
  split <;> simp [mx_kill_len]
theorem mx_kill_get {L : mx_L} {i j : Nat} {w : Value} (h : (mx_kill L i)[j]? = some (some w)) : L[j]? = some (some w) ∧ ¬ (j + 1 = i ∧ w.category = 2) := by
  cases i with
  | zero => exact ⟨h, by omega⟩
  | succ i =>
    unfold mx_kill at h
    dsimp only at h
    split at h
    · next u hu =>
      split at h
      · next hc =>
        by_cases hij : i = j
        · subst hij
          rw [List.getElem?_set_self (List.getElem?_eq_some_iff.mp hu).1] at h
          cases h
        · rw [List.getElem?_set_ne hij] at h
          exact ⟨h, by omega⟩
      · next hc =>
        refine ⟨h, ?_⟩
        rintro ⟨e1, e2⟩
        have hij : i = j := by omega
        subst hij
        rw [hu] at h
        cases h
        exact hc e2
    · next hn =>
      refine ⟨h, ?_⟩
      rintro ⟨e1, e2⟩
      have hij : i = j := by omega
      subst hij
      exact hn _ h
theorem mx_store1_get {L : mx_L} {i j : Nat} {v w : Value} (hc : ¬ v.category = 2) (h : (mx_store L i v)[j]? = some (some w)) : (j = i ∧ w = v) ∨ (¬ j = i ∧ L[j]? = some (some w) ∧ ¬ (j + 1 = i ∧ w.category = 2)) := by
  unfold mx_store at h
  rw [if_neg hc] at h
  by_cases hij : i = j
  · subst hij
    have hl := (List.getElem?_eq_some_iff.mp h).1
    rw [List.length_set] at hl
    rw [List.getElem?_set_self hl] at h
    cases h
    exact Or.inl ⟨rfl, rfl⟩
  · rw [List.getElem?_set_ne hij] at h
    exact Or.inr ⟨fun q => hij q.symm, mx_kill_get h⟩
theorem mx_store2_get {L : mx_L} {i j : Nat} {v w : Value} (hc : v.category = 2) (h : (mx_store L i v)[j]? = some (some w)) : (j = i ∧ w = v) ∨ (¬ j = i ∧ ¬ j = i + 1 ∧ L[j]? = some (some w) ∧ ¬ (j + 1 = i ∧ w.category = 2)) := by
  unfold mx_store at h
  rw [if_pos hc] at h
  by_cases hij1 : i + 1 = j
  · subst hij1
    have hl := (List.getElem?_eq_some_iff.mp h).1
    rw [List.length_set] at hl
    rw [List.getElem?_set_self hl] at h
    cases h
  · rw [List.getElem?_set_ne hij1] at h
    by_cases hij : i = j
    · subst hij
      have hl := (List.getElem?_eq_some_iff.mp h).1
      rw [List.length_set] at hl
      rw [List.getElem?_set_self hl] at h
      cases h
      exact Or.inl ⟨rfl, rfl⟩
    · rw [List.getElem?_set_ne hij] at h
      exact Or.inr ⟨fun q => hij q.symm, fun q => hij1 q.symm, mx_kill_get h⟩
theorem mx_LR.store1 {ad : Nat → Nat} {ls ls' : Array Slot} {nL i : Nat} {L : mx_L} {v : Value} (h : mx_LR ad ls nL L) (hc : ¬ v.category = 2) (h' : lv_has ls' nL ((i, mx_cv ad v) :: (mx_al ad L).filter (fun q => !(q.1 == i) && !(q.1 + 1 == i && q.2.category == 2)))) : mx_LR ad ls' nL (mx_store L i v) := by
  refine ⟨h'.1, (mx_store_len L i v).trans h.2.1, h'.2.1, fun j w hw => ?_⟩
  rcases mx_store1_get hc hw with ⟨rfl, rfl⟩ | ⟨h1, h2, h3⟩
  · exact h'.2.2 _ List.mem_cons_self
  · refine h'.2.2 (j, mx_cv ad w) (List.mem_cons_of_mem _ (List.mem_filter.mpr ⟨mx_al_mem.mpr ⟨w, h2, rfl⟩, ?_⟩))
    simp only [mx_cv_cat, Bool.and_eq_true, Bool.not_eq_true', beq_eq_false_iff_ne, ne_eq, Bool.and_eq_false_iff]
    refine ⟨h1, ?_⟩
    by_cases hz : j + 1 = i
    · exact Or.inr (fun z => h3 ⟨hz, z⟩)
    · exact Or.inl hz
theorem mx_LR.store2 {ad : Nat → Nat} {ls ls' : Array Slot} {nL i : Nat} {L : mx_L} {v : Value} (h : mx_LR ad ls nL L) (hc : v.category = 2) (h' : lv_has ls' nL ((i, mx_cv ad v) :: (mx_al ad L).filter (fun q => !(q.1 == i) && (!(q.1 == i + 1) && !(q.1 + 1 == i && q.2.category == 2))))) : mx_LR ad ls' nL (mx_store L i v) := by
  refine ⟨h'.1, (mx_store_len L i v).trans h.2.1, h'.2.1, fun j w hw => ?_⟩
  rcases mx_store2_get hc hw with ⟨rfl, rfl⟩ | ⟨h1, h0, h2, h3⟩
  · exact h'.2.2 _ List.mem_cons_self
  · refine h'.2.2 (j, mx_cv ad w) (List.mem_cons_of_mem _ (List.mem_filter.mpr ⟨mx_al_mem.mpr ⟨w, h2, rfl⟩, ?_⟩))
    simp only [mx_cv_cat, Bool.and_eq_true, Bool.not_eq_true', beq_eq_false_iff_ne, ne_eq, Bool.and_eq_false_iff]
    refine ⟨h1, h0, ?_⟩
    by_cases hz : j + 1 = i
    · exact Or.inr (fun z => h3 ⟨hz, z⟩)
    · exact Or.inl hz
theorem mx_pl_len (ad : Nat → Nat) : ∀ vs : List Value, (lg_sl (vs.map (mx_cv ad))).length = (mx_pl vs).length
  | [] => rfl
  | v :: t => by
    have ih := mx_pl_len ad t
    simp only [lg_sl, List.map_cons, List.flatMap_cons, List.length_append, mx_pl, mx_cv_cat] at ih ⊢
    split <;> simp_all <;> omega
theorem mx_pl_args (ad : Nat → Nat) : ∀ (vs : List Value) (i j : Nat) (v : Value), (mx_pl vs)[j]? = some (some v) → (i + j, mx_cv ad v) ∈ lv_args i (vs.map (mx_cv ad))
  | [], i, j, v, h => by simp [mx_pl] at h
  | w :: t, i, j, v, h => by
    simp only [mx_pl] at h
    simp only [List.map_cons, lv_args, mx_cv_cat]
    by_cases hc : w.category = 2
    · rw [if_pos hc] at h
      rw [if_pos hc]
      match j, h with
      | 0, h => simp at h; subst h; exact List.mem_cons_self
      | 1, h => simp at h
      | j + 2, h =>
        have h2 := mx_pl_args ad t (i + 2) j v (by simpa using h)
        rw [show i + (j + 2) = i + 2 + j by omega]
        exact List.mem_cons_of_mem _ h2
    · rw [if_neg hc] at h
      rw [if_neg hc]
      match j, h with
      | 0, h => simp at h; subst h; exact List.mem_cons_self
      | j + 1, h =>
        have h2 := mx_pl_args ad t (i + 1) j v (by simpa using h)
        rw [show i + (j + 1) = i + 1 + j by omega]
        exact List.mem_cons_of_mem _ h2
theorem mx_LR.entry {ad : Nat → Nat} {n : Nat} {vs : List Value} (h : (mx_pl vs).length ≤ n) : mx_LR ad ((lg_sl (vs.map (mx_cv ad)) ++ List.replicate (n - (lg_sl (vs.map (mx_cv ad))).length) Slot.unset).toArray) n (mx_ent n vs) := by
  have hl := lv_entry (vs.map (mx_cv ad)) (n := n) (by rw [mx_pl_len]; exact h)
  refine ⟨hl.1, by simp [mx_ent]; omega, hl.2.1, fun j v hv => ?_⟩
  have hj : (mx_pl vs)[j]? = some (some v) := by
    unfold mx_ent at hv
    by_cases hlt : j < (mx_pl vs).length
    · rwa [List.getElem?_append_left hlt] at hv
    · rw [List.getElem?_append_right (by omega)] at hv
      have := List.eq_of_mem_replicate (List.mem_of_getElem? hv)
      cases this
  have hm := mx_pl_args ad vs 0 j v hj
  rw [Nat.zero_add] at hm
  exact hl.2.2 _ hm
theorem mx_ld_some {L : mx_L} {i t : Nat} {w : Value} (h : mx_ld L i t = some w) : L[i]? = some (some w) ∧ mx_tag w = t := by
  unfold mx_ld at h
  split at h
  · next v hv =>
    split at h
    · next ht =>
      cases h
      exact ⟨hv, ht⟩
    · cases h
  · cases h
theorem mx_fit_ok {ty : FieldType} {w : Value} (ad : Nat → Nat) (h : mx_fit ty w = true) : narrow ty (mx_cv ad w) = mx_cv ad w ∧ fits ty (mx_cv ad w) = true := by
  cases ty <;> cases w <;> simp [mx_fit] at h <;> first
    | exact ⟨rfl, rfl⟩
    | (rcases h with rfl | rfl <;> exact ⟨rfl, rfl⟩)
