/-! ===== the class's constructor ===== -/
section P72
variable {d k pc a b n m len j i : Nat} {v : Int} {L : mx_L} {st r : List Value} {h h' h0 : mx_H} {es : List mx_E} {e : mx_E} {Q : Option Value → mx_H → Prop} {x y : Int32} {fs fs' : List Value} {s : mx_St} {P : mx_Pm} {u w : Nat}
def s0 (b j : Nat) : Int32 := if b = 25 then (if j = 9 then -1 else 0) else if b = 43 ∨ b = 45 ∨ b = 47 ∨ b = 49 then (if j = 1 then -1 else 0) else 0
def hA (i : Nat) : mx_E := if i = 32 then .inl (4, 6, .inr fun _ => none) else hr_c i (s0 i)
/-- the constructor's object and what it made so far -/
def T8 (h0 h : mx_H) (n m : Nat) (fs : List Value) : Prop := h.1 = n ∧ h.2.1 = h0.2.1 + m ∧ h.2.2 0 = .inr (8, fs) ∧ (∀ i, 1 ≤ i → i < n → i ≠ 42 → h.2.2 i = hA i) ∧ h.2.2 mx_big = h0.2.2 mx_big
def AL (F : Nat → mx_E) : Nat → List mx_E → Prop
  | _, [] => True
  | n, e :: t => e = F n ∧ AL F (n + 1) t
theorem AL.ap {F : Nat → mx_E} : ∀ {es : List mx_E} {n j : Nat} {e : mx_E}, AL F n es → es[j]? = some e → e = F (n + j) := by
  intro es
  induction es with
  | nil => intro n j e _ h; simp at h
  | cons a t ih =>
    intro n j e hA h
    cases j with
    | zero =>
      have : a = e := by simpa using h
      subst this
      exact hA.1
    | succ j =>
      have h2 : t[j]? = some e := by simpa using h
      rw [show n + (j + 1) = n + 1 + j by omega]
      exact ih hA.2 h2
theorem T8.ex {n' m' m'' : Nat} (T : T8 h0 h n m fs) (e : EX h h' n m' es) (ha : AL hA n es) (hn : 1 ≤ n ∧ n + es.length ≤ 100) (h1 : n + es.length = n') (h2 : m + m' = m'') : T8 h0 h' n' m'' fs := by
  subst h1 h2
  obtain ⟨t1, t2, t3, t4, t5⟩ := T
  obtain ⟨e1, e2, e3, e4⟩ := e
  refine ⟨e1, by rw [e2, t2]; omega, (e3 0 (Or.inl (by omega))).trans t3, fun i g1 g2 g3 => ?_, (e3 mx_big (Or.inr (by show n + es.length ≤ 1000000; omega))).trans t5⟩
  by_cases g : i < n
  · exact (e3 i (Or.inl g)).trans (t4 i g1 g g3)
  · have hlt : i - n < es.length := by omega
    have hg : es[i - n]? = some es[i - n] := List.getElem?_eq_getElem hlt
    have q1 := e4 _ _ hg
    have q2 := AL.ap ha hg
    rw [show n + (i - n) = i by omega] at q1 q2
    rw [q1, q2]
theorem T8.put (T : T8 h0 h n m fs) : T8 h0 (mx_set h 0 (.inr (8, fs'))) n m fs' := ⟨T.1, T.2.1, set_at _ _ _, fun i g1 g2 g3 => (strr (by omega)).trans (T.2.2.2.1 i g1 g2 g3), (strr (by decide)).trans T.2.2.2.2⟩
theorem T8.s42 (T : T8 h0 h n m fs) : T8 h0 (mx_set h 42 e) n m fs := ⟨T.1, T.2.1, (strr (by decide)).trans T.2.2.1, fun i g1 g2 g3 => (strr g3).trans (T.2.2.2.1 i g1 g2 g3), (strr (by decide)).trans T.2.2.2.2⟩
theorem T8.q42 (T : T8 h0 h 42 m fs) : T8 h0 (mx_new h 4 e) 43 (m + 4) fs := by
  obtain ⟨t1, t2, t3, t4, t5⟩ := T
  refine ⟨by show h.1 + 1 = 43; rw [t1], by show h.2.1 + 4 = _; rw [t2]; omega, (nwr (by omega)).trans t3, fun i g1 g2 g3 => (nwr (by omega)).trans (t4 i g1 (by omega) g3), (nwr (by rw [t1]; decide)).trans t5⟩
theorem crew_eq (b : Nat) : (va_up (va_up (va_up (va_up (fun _ => none) 0 (some (b + 4))) 1 (some (b + 5))) 2 (some (b + 6))) 3 (some (b + 7))) = (fun p => if p < 4 then some (b + 4 + p) else none) := by
  funext p
  unfold va_up
  by_cases h3 : p = 3
  · subst h3; rfl
  · rw [if_neg h3]
    by_cases h2 : p = 2
    · subst h2; rfl
    · rw [if_neg h2]
      by_cases h1 : p = 1
      · subst h1; rfl
      · rw [if_neg h1]
        by_cases h0 : p = 0
        · subst h0; rfl
        · rw [if_neg h0, if_neg (by omega)]
theorem AL_beach (hb : isB b) : AL hA b [.inr (0, [.ref (b + 1), .ref (b + 2), .ref (b + 3), .int 0, .int 0, .int 0]), .inl (0, 36, .inl (fun _ => 0)), .inl (0, 36, .inl (fun _ => 0)), .inl (3, 4, .inr (va_up (va_up (va_up (va_up (fun _ => none) 0 (some (b + 4))) 1 (some (b + 5))) 2 (some (b + 6))) 3 (some (b + 7)))), .inr (2, [.int 0, .int 0, .int 0, .int 0]), .inr (2, [.int 0, .int 0, .int 0, .int 0]), .inr (2, [.int 0, .int 0, .int 0, .int 0]), .inr (2, [.int 0, .int 0, .int 0, .int 0])] := by
  rw [crew_eq]
  rcases hb with rfl | rfl | rfl <;> exact ⟨rfl, rfl, rfl, rfl, rfl, rfl, rfl, rfl, trivial⟩
/-- the sheets' row -/
def shF (i : Nat) : Nat → Option Nat := fun p => if p < i then some (43 + 2 * p) else none
theorem shF_up : va_up (shF i) i (some (43 + 2 * i)) = shF (i + 1) := by
  funext p
  unfold va_up shF
  by_cases e : p = i
  · subst e
    rw [if_pos rfl, if_pos (by omega)]
  · rw [if_neg e]
    by_cases g : p < i
    · rw [if_pos g, if_pos (by omega)]
    · rw [if_neg g, if_neg (by omega)]
def fs8 : List Value := [.ref 1, .ref 9, .ref 17, .int 0, .ref 25, .ref 31, .ref 36, .ref 37, .ref 42]
theorem AL_sheet (hi : i < 4) : AL hA (43 + 2 * i) [.inr (5, [.ref (43 + 2 * i + 1), .int (-1), .int 0]), .inl (0, 40, .inl (fun _ => 0))] := by
  rcases p4 hi with rfl | rfl | rfl | rfl <;> exact ⟨rfl, rfl, trivial⟩
theorem i_shL {M : Nat} (hd : 10 ≤ d) (kk : ∀ h, T8 h0 h 51 (M + 43 * 4) fs8 → h.2.2 42 = .inl (5, 4, .inr (shF 4)) → wq d 76 120 [some (.ref 0), some (.int (nI 4))] [] h Q) (n i : Nat) (hi : i + n = 4) (h : mx_H) (T : T8 h0 h (43 + 2 * i) (M + 43 * i) fs8) (h42 : h.2.2 42 = .inl (5, 4, .inr (shF i))) : wq d 76 96 [some (.ref 0), some (.int (nI i))] [] h Q := by
  match n, hi with
  | 0, hi =>
    obtain rfl : i = 4 := by omega
    refine q_iload_n (pc := 96) rfl rfl ?_
    refine q_iconst (pc := 97) rfl (nI 4) (by decide) ?_
    refine n_icmpge (pc := 98) rfl (by omega) (by omega) (fun _ => ?_) (fun z => absurd z (by omega))
    exact kk h T h42
  | n + 1, hi =>
    refine q_iload_n (pc := 96) rfl rfl ?_
    refine q_iconst (pc := 97) rfl (nI 4) (by decide) ?_
    refine n_icmpge (pc := 98) rfl (by omega) (by omega) (fun z => absurd z (by omega)) (fun _ => ?_)
    refine q_aload_n (pc := 101) rfl rfl rfl ?_
    refine q_getf (pc := 102) rfl T.2.2.1 rfl rfl ?_
    refine q_iload_n (pc := 105) rfl rfl ?_
    refine q_new (pc := 106) rfl (by rw [T.1]; show _ < 1000000; omega) ?_
    rw [show h.1 = 43 + 2 * i from T.1]
    refine q_dup (pc := 109) rfl rfl ?_
    refine q_callI (pc := 110) _ (by decide) rfl rfl rfl rfl (Nat.le_of_ble_eq_true rfl) (by omega) _ rfl ?_
    refine i_sheet (by omega) (by omega) T.1 ?_
    intro h1 e1
    have T1 : T8 h0 h1 (43 + 2 * (i + 1)) (M + 43 * (i + 1)) fs8 := T.ex e1 (AL_sheet (by omega)) ⟨by omega, by show 43 + 2 * i + 2 ≤ 100; omega⟩ (by show 43 + 2 * i + 2 = _; omega) (by omega)
    have w1 := e1.2.2.2 0 _ rfl
    have w2 := (e1.2.2.1 42 (Or.inl (by omega))).trans h42
    refine q_aastore (pc := 113) rfl w2 w1 (by decide) rfl (by decide) (x_vin (by omega) (by decide)) ?_
    rw [x_cl (by omega), shF_up]
    refine q_iinc (pc := 114) [_, _] (nI 1) rfl rfl (by decide) rfl ?_
    rw [nI_add]
    refine q_goto (pc := 117) rfl ?_
    exact i_shL hd kk n (i + 1) (by omega) _ T1.s42 (set_at _ _ _)
termination_by n
/-! the first text -/
def ftl : List Nat := [116, 97, 107, 101, 115, 32, 50, 32, 43, 32, 109, 97, 114, 107, 32, 59, 32, 108, 97, 121, 115, 32, 109, 97, 114, 107, 32, 59, 32, 108, 101, 97, 118, 101, 115, 32, 48, 32, 59]
def ftp (i : Nat) : Nat := ftl.getD i 0
theorem ftp_b : ∀ i, i < 39 → (mx_byt.getD 0 []).getD i 0 = nI (ftp i) := by decide
theorem ftp_255 : ∀ i, i < 39 → ftp i ≤ 255 := by decide
def fto : List Int32 := [2, -1, -12, -1, 0]
theorem ft_rd0 : (match rdTxt (tkT ftp 39) with | .inl _ => false | .inr q => decide (q.1 = fto ∧ q.2 0 = 3 ∧ q.2 1 = 4 ∧ q.2 2 = 5)) = true := by decide +kernel
theorem ft_rd {f : Nat} (e : rdTxt (tkT ftp 39) = .inl f) : False := by
  have h := ft_rd0
  rw [e] at h
  cases h
theorem ft_rd2 {out : List Int32} {E1 : Nat → Nat} (e : rdTxt (tkT ftp 39) = .inr (out, E1)) : out = fto ∧ E1 0 = 3 ∧ E1 1 = 4 ∧ E1 2 = 5 := by
  have h := ft_rd0
  rw [e] at h
  exact of_decide_eq_true h
theorem i_ftL (hd : 10 ≤ d) (hl : 51 ≤ P.1) (kk : ∀ h s, HR P h s → s 25 1 = nI 39 → (∀ j, j < 39 → s 26 j = nI (ftp j)) → sf s0 s (fun i => i = 25 ∨ i = 26) → wq d 76 151 [some (.ref 0), some (.int (nI 39))] [] h Q) (n i : Nat) (hi : i + n = 39) (h : mx_H) (s : mx_St) (H : HR P h s) (e1 : s 25 1 = nI i) (e2 : ∀ j, j < i → s 26 j = nI (ftp j)) (f : sf s0 s (fun i => i = 25 ∨ i = 26)) : wq d 76 122 [some (.ref 0), some (.int (nI i))] [] h Q := by
  have hs : mx_slen (mx_big + (0 + 1)) = some 39 := by decide
  match n, hi with
  | 0, hi =>
    obtain rfl : i = 39 := by omega
    refine q_iload_n (pc := 122) rfl rfl ?_
    refine q_ldcS (pc := 123) rfl ?_
    refine q_slen (pc := 125) rfl hs rfl ?_
    refine n_icmpge (j := 39) (pc := 128) rfl (by omega) (by omega) (fun _ => ?_) (fun z => absurd z (by omega))
    exact kk h s H e1 e2 f
  | n + 1, hi =>
    refine q_iload_n (pc := 122) rfl rfl ?_
    refine q_ldcS (pc := 123) rfl ?_
    refine q_slen (pc := 125) rfl hs rfl ?_
    refine n_icmpge (j := 39) (pc := 128) rfl (by omega) (by omega) (fun z => absurd z (by omega)) (fun _ => ?_)
    refine q_aload_n (pc := 131) rfl rfl rfl ?_
    refine q_getf (pc := 132) rfl (HR.X' H hl) rfl rfl ?_
    refine q_ldcS (pc := 135) rfl ?_
    refine q_iload_n (pc := 137) rfl rfl ?_
    refine q_schr (pc := 138) rfl hs rfl (x_vin (by omega) (by decide)) ?_
    rw [x_cl (by omega), show (mx_byt.getD (mx_big + (0 + 1) - mx_big - 1) []).getD i 0 = nI (ftp i) from ftp_b i (by omega)]
    refine q_callV (pc := 141) _ rfl rfl rfl (HR.c H hl 25 rfl) rfl (Nat.le_of_ble_eq_true rfl) (by omega) _ rfl ?_
    refine c_take H hl e1 (by omega) (fun _ h1 H1 => ?_) (fun z => absurd z (by omega))
    refine q_pop (pc := 144) rfl rfl ?_
    refine q_iinc (pc := 145) [_, _] (nI 1) rfl rfl (by decide) rfl ?_
    rw [nI_add]
    refine q_goto (pc := 148) rfl ?_
    exact i_ftL hd hl kk n (i + 1) (by omega) _ _ H1 stv_a (fun j hj => by
      rw [stv_n (by decide)]
      by_cases e : j = i
      · subst e
        exact stv_a
      · rw [stv_o e]
        exact e2 j (by omega)) ((f.st (Or.inr rfl)).st (Or.inl rfl))
termination_by n
theorem shF4 : shF 4 = fun p => if p < 4 then some (43 + 2 * p) else none := rfl
theorem T8.HR {Ls M : Nat} {xs : Nat → Int32} {ln : Nat → Nat} (T : T8 h0 h 51 M fs8) (h42 : h.2.2 42 = .inl (5, 4, .inr (shF 4))) (hx : h0.2.2 mx_big = .inl (0, Ls, .inl xs)) : HR (51, 0, 51, h0.2.1 + M, ln, Ls, xs) h s0 := by
  refine ⟨⟨by show 51 ≤ 75; decide, by show 0 ≤ 6; decide⟩, T.1, T.2.1, fun b hb => ?_, ?_, fun t ht => absurd ht (Nat.not_lt_zero t), T.2.2.2.2.trans hx⟩
  · obtain ⟨o1, o2, o3⟩ := okc_spec hb
    have o1 : b < 51 := o1
    by_cases e0 : b = 0
    · subst e0
      exact T.2.2.1
    · by_cases e4 : b = 42
      · subst e4
        exact h42
      · rw [T.2.2.2.1 b (by omega) o1 e4]
        unfold hA
        rw [if_neg o2]
  · rw [T.2.2.2.1 32 (by decide) (by decide) (by decide)]
    show (Sum.inl (4, 6, Sum.inr fun _ => none) : mx_E) = Sum.inl (4, 6, Sum.inr (hr_g 0))
    rw [show hr_g 0 = fun _ => none from funext fun t => if_neg (Nat.not_lt_zero t)]
def fs8i : List Value := [.null, .null, .null, .int 0, .null, .null, .null, .null, .null]
theorem i_X8 {Ls : Nat} {xs : Nat → Int32} (hd : 90 ≤ d) (h0x : h0.1 = 0) (hx : h0.2.2 mx_big = .inl (0, Ls, .inl xs)) (kk : ∀ h' s' P' C E, (P'.1 = 51 ∧ P'.2.1 = 1 ∧ P'.2.2.1 = 54 ∧ P'.2.2.2.1 = h0.2.1 + 2301 ∧ P'.2.2.2.2.2 = (Ls, xs)) → HR P' h' s' → CA P' s' (fun _ => 0) (fun _ => 0) 0 ftp 0 C E (fun _ => -1) (fun _ => 0) (fun _ _ => 0) → ((∀ i, i < 5 → C 0 i = fto.getD i 0) ∧ E 0 0 = 3 ∧ E 0 1 = 4 ∧ E 0 2 = 5) → Q none h') : wc d 76 [.ref 0] (mx_new h0 (mx_nf 8) (.inr (8, mx_defs 8))) Q := by
  have tt0 : T8 h0 (mx_new h0 (mx_nf 8) (.inr (8, mx_defs 8))) 1 9 fs8i := ⟨by show h0.1 + 1 = 1; rw [h0x], rfl, by rw [← h0x]; exact nws, fun i g1 g2 g3 => by omega, nwr (by rw [h0x]; decide)⟩
  generalize mx_new h0 (mx_nf 8) (.inr (8, mx_defs 8)) = h at tt0 ⊢
  refine wc.go [_, _] rfl ?_
  refine q_aload_n (pc := 0) rfl rfl rfl ?_
  refine q_obj (pc := 1) rfl rfl ?_
  refine q_aload_n (pc := 4) rfl rfl rfl ?_
  refine q_new (pc := 5) rfl (by rw [tt0.1]; decide) ?_
  rw [tt0.1]
  refine q_dup (pc := 8) rfl rfl ?_
  refine q_callI (pc := 9) _ (by decide) rfl rfl rfl rfl (Nat.le_of_ble_eq_true rfl) (by omega) _ rfl ?_
  refine i_beach (by omega) (by decide) tt0.1 ?_
  intro h1 e1
  have tt1 : T8 h0 h1 9 107 [.null, .null, .null, .int 0, .null, .null, .null, .null, .null] := T8.ex tt0 e1 (AL_beach (Or.inl rfl)) ⟨by decide, by decide⟩ rfl rfl
  refine q_putf (pc := 12) (fs' := [_, _, _, _, _, _, _, _, _]) rfl tt1.2.2.1 rfl (Nat.le_of_ble_eq_true rfl) rfl rfl ?_
  have tt2 := tt1.put (fs' := [.ref 1, .null, .null, .int 0, .null, .null, .null, .null, .null])
  generalize mx_set h1 0 (.inr (8, [.ref 1, .null, .null, .int 0, .null, .null, .null, .null, .null])) = h2 at tt2 ⊢
  refine q_aload_n (pc := 15) rfl rfl rfl ?_
  refine q_new (pc := 16) rfl (by rw [tt2.1]; decide) ?_
  rw [tt2.1]
  refine q_dup (pc := 19) rfl rfl ?_
  refine q_callI (pc := 20) _ (by decide) rfl rfl rfl rfl (Nat.le_of_ble_eq_true rfl) (by omega) _ rfl ?_
  refine i_beach (by omega) (by decide) tt2.1 ?_
  intro h3 e3
  have tt3 : T8 h0 h3 17 205 [.ref 1, .null, .null, .int 0, .null, .null, .null, .null, .null] := T8.ex tt2 e3 (AL_beach (Or.inr (Or.inl rfl))) ⟨by decide, by decide⟩ rfl rfl
  refine q_putf (pc := 23) (fs' := [_, _, _, _, _, _, _, _, _]) rfl tt3.2.2.1 rfl (Nat.le_of_ble_eq_true rfl) rfl rfl ?_
  have tt4 := tt3.put (fs' := [.ref 1, .ref 9, .null, .int 0, .null, .null, .null, .null, .null])
  generalize mx_set h3 0 (.inr (8, [.ref 1, .ref 9, .null, .int 0, .null, .null, .null, .null, .null])) = h4 at tt4 ⊢
  refine q_aload_n (pc := 26) rfl rfl rfl ?_
  refine q_new (pc := 27) rfl (by rw [tt4.1]; decide) ?_
  rw [tt4.1]
  refine q_dup (pc := 30) rfl rfl ?_
  refine q_callI (pc := 31) _ (by decide) rfl rfl rfl rfl (Nat.le_of_ble_eq_true rfl) (by omega) _ rfl ?_
  refine i_beach (by omega) (by decide) tt4.1 ?_
  intro h5 e5
  have tt5 : T8 h0 h5 25 303 [.ref 1, .ref 9, .null, .int 0, .null, .null, .null, .null, .null] := T8.ex tt4 e5 (AL_beach (Or.inr (Or.inr rfl))) ⟨by decide, by decide⟩ rfl rfl
  refine q_putf (pc := 34) (fs' := [_, _, _, _, _, _, _, _, _]) rfl tt5.2.2.1 rfl (Nat.le_of_ble_eq_true rfl) rfl rfl ?_
  have tt6 := tt5.put (fs' := [.ref 1, .ref 9, .ref 17, .int 0, .null, .null, .null, .null, .null])
  generalize mx_set h5 0 (.inr (8, [.ref 1, .ref 9, .ref 17, .int 0, .null, .null, .null, .null, .null])) = h6 at tt6 ⊢
  refine q_aload_n (pc := 37) rfl rfl rfl ?_
  refine q_iconst (pc := 38) rfl (0) (by decide) ?_
  refine q_putf (pc := 39) (fs' := [_, _, _, _, _, _, _, _, _]) rfl tt6.2.2.1 rfl (Nat.le_of_ble_eq_true rfl) rfl rfl ?_
  have tt7 := tt6.put (fs' := [.ref 1, .ref 9, .ref 17, .int 0, .null, .null, .null, .null, .null])
  refine q_aload_n (pc := 42) rfl rfl rfl ?_
  refine q_new (pc := 43) rfl (by rw [tt7.1]; decide) ?_
  rw [tt7.1]
  refine q_dup (pc := 46) rfl rfl ?_
  refine q_callI (pc := 47) _ (by decide) rfl rfl rfl rfl (Nat.le_of_ble_eq_true rfl) (by omega) _ rfl ?_
  refine i_reader (by omega) (by decide) tt7.1 ?_
  intro h7 e7
  have tt8 : T8 h0 h7 31 958 [.ref 1, .ref 9, .ref 17, .int 0, .null, .null, .null, .null, .null] := T8.ex tt7 e7 (⟨rfl, rfl, rfl, rfl, rfl, rfl, trivial⟩) ⟨by decide, by decide⟩ rfl rfl
  refine q_putf (pc := 50) (fs' := [_, _, _, _, _, _, _, _, _]) rfl tt8.2.2.1 rfl (Nat.le_of_ble_eq_true rfl) rfl rfl ?_
  have tt9 := tt8.put (fs' := [.ref 1, .ref 9, .ref 17, .int 0, .ref 25, .null, .null, .null, .null])
  generalize mx_set h7 0 (.inr (8, [.ref 1, .ref 9, .ref 17, .int 0, .ref 25, .null, .null, .null, .null])) = h8 at tt9 ⊢
  refine q_aload_n (pc := 53) rfl rfl rfl ?_
  refine q_new (pc := 54) rfl (by rw [tt9.1]; decide) ?_
  rw [tt9.1]
  refine q_dup (pc := 57) rfl rfl ?_
  refine q_callI (pc := 58) _ (by decide) rfl rfl rfl rfl (Nat.le_of_ble_eq_true rfl) (by omega) _ rfl ?_
  refine i_rules (by omega) (by decide) tt9.1 ?_
  intro h9 e9
  have tt10 : T8 h0 h9 36 1171 [.ref 1, .ref 9, .ref 17, .int 0, .ref 25, .null, .null, .null, .null] := T8.ex tt9 e9 (⟨rfl, rfl, rfl, rfl, rfl, trivial⟩) ⟨by decide, by decide⟩ rfl rfl
  refine q_putf (pc := 61) (fs' := [_, _, _, _, _, _, _, _, _]) rfl tt10.2.2.1 rfl (Nat.le_of_ble_eq_true rfl) rfl rfl ?_
  have tt11 := tt10.put (fs' := [.ref 1, .ref 9, .ref 17, .int 0, .ref 25, .ref 31, .null, .null, .null])
  generalize mx_set h9 0 (.inr (8, [.ref 1, .ref 9, .ref 17, .int 0, .ref 25, .ref 31, .null, .null, .null])) = h10 at tt11 ⊢
  refine q_aload_n (pc := 64) rfl rfl rfl ?_
  refine q_new (pc := 65) rfl (by rw [tt11.1]; decide) ?_
  rw [tt11.1]
  refine q_dup (pc := 68) rfl rfl ?_
  refine q_callI (pc := 69) _ (by decide) rfl rfl rfl rfl (Nat.le_of_ble_eq_true rfl) (by omega) _ rfl ?_
  refine i_obj1 ?_
  have e11 : EX h10 (mx_new h10 (mx_nf 1) (.inr (1, mx_defs 1))) 36 2 [.inr (1, [.int 0, .int 0])] := by
    rw [show mx_new h10 (mx_nf 1) (.inr (1, mx_defs 1)) = hp h10 36 2 [.inr (1, [.int 0, .int 0])] from hp_one tt11.1]
    exact hp_EX
  generalize mx_new h10 (mx_nf 1) (.inr (1, mx_defs 1)) = h11 at e11 ⊢
  have tt12 : T8 h0 h11 37 1173 [.ref 1, .ref 9, .ref 17, .int 0, .ref 25, .ref 31, .null, .null, .null] := T8.ex tt11 e11 (⟨rfl, trivial⟩) ⟨by decide, by decide⟩ rfl rfl
  refine q_putf (pc := 72) (fs' := [_, _, _, _, _, _, _, _, _]) rfl tt12.2.2.1 rfl (Nat.le_of_ble_eq_true rfl) rfl rfl ?_
  have tt13 := tt12.put (fs' := [.ref 1, .ref 9, .ref 17, .int 0, .ref 25, .ref 31, .ref 36, .null, .null])
  generalize mx_set h11 0 (.inr (8, [.ref 1, .ref 9, .ref 17, .int 0, .ref 25, .ref 31, .ref 36, .null, .null])) = h12 at tt13 ⊢
  refine q_aload_n (pc := 75) rfl rfl rfl ?_
  refine q_new (pc := 76) rfl (by rw [tt13.1]; decide) ?_
  rw [tt13.1]
  refine q_dup (pc := 79) rfl rfl ?_
  refine q_callI (pc := 80) _ (by decide) rfl rfl rfl rfl (Nat.le_of_ble_eq_true rfl) (by omega) _ rfl ?_
  refine i_ways (by omega) (by decide) tt13.1 ?_
  intro h13 e13
  have tt14 : T8 h0 h13 42 2115 [.ref 1, .ref 9, .ref 17, .int 0, .ref 25, .ref 31, .ref 36, .null, .null] := T8.ex tt13 e13 (⟨rfl, rfl, rfl, rfl, rfl, trivial⟩) ⟨by decide, by decide⟩ rfl rfl
  refine q_putf (pc := 83) (fs' := [_, _, _, _, _, _, _, _, _]) rfl tt14.2.2.1 rfl (Nat.le_of_ble_eq_true rfl) rfl rfl ?_
  have tt15 := tt14.put (fs' := [.ref 1, .ref 9, .ref 17, .int 0, .ref 25, .ref 31, .ref 36, .ref 37, .null])
  generalize mx_set h13 0 (.inr (8, [.ref 1, .ref 9, .ref 17, .int 0, .ref 25, .ref 31, .ref 36, .ref 37, .null])) = h14 at tt15 ⊢
  refine q_aload_n (pc := 86) rfl rfl rfl ?_
  refine q_iconst (pc := 87) rfl (nI 4) (by decide) ?_
  refine q_newQ (pc := 88) rfl (by decide) (by exact ⟨nI_pos (by decide), by decide, by rw [tt15.1]; decide⟩) ?_
  rw [tt15.1, show (nI 4).toNatClampNeg = 4 from by decide]
  have tt16 := tt15.q42 (e := .inl (5, 4, .inr fun _ => none))
  refine q_putf (pc := 91) (fs' := [_, _, _, _, _, _, _, _, _]) rfl tt16.2.2.1 rfl (Nat.le_of_ble_eq_true rfl) rfl rfl ?_
  have w42 : (mx_set (mx_new h14 4 (.inl (5, 4, .inr fun _ => none))) 0 (.inr (8, [.ref 1, .ref 9, .ref 17, .int 0, .ref 25, .ref 31, .ref 36, .ref 37, .ref 42]))).2.2 42 = .inl (5, 4, .inr (shF 0)) := (strr (by decide)).trans ((by rw [← tt15.1]; exact nws : (mx_new h14 4 (.inl (5, 4, .inr fun _ => none))).2.2 42 = .inl (5, 4, .inr fun _ => none)).trans (by rw [show shF 0 = fun _ => none from funext fun p => if_neg (Nat.not_lt_zero p)]))
  have tt17 := tt16.put (fs' := [.ref 1, .ref 9, .ref 17, .int 0, .ref 25, .ref 31, .ref 36, .ref 37, .ref 42])
  generalize mx_set (mx_new h14 4 (.inl (5, 4, .inr fun _ => none))) 0 (.inr (8, [.ref 1, .ref 9, .ref 17, .int 0, .ref 25, .ref 31, .ref 36, .ref 37, .ref 42])) = hh at tt17 w42 ⊢
  refine q_iconst (pc := 94) rfl (nI 0) (by decide) ?_
  refine q_istore_n (pc := 95) [_, _] rfl (Nat.le_of_ble_eq_true rfl) rfl ?_
  refine i_shL (by omega) ?_ 4 0 (by decide) hh tt17 w42
  intro hb Tb wb
  have hPe : ∃ P : mx_Pm, P.1 = 51 ∧ P.2.1 = 0 ∧ P.2.2.1 = 51 ∧ P.2.2.2.1 = h0.2.1 + 2291 ∧ P.2.2.2.2.2 = (Ls, xs) ∧ HR P hb s0 := ⟨_, rfl, rfl, rfl, rfl, rfl, Tb.HR (ln := fun _ => 0) wb hx⟩
  obtain ⟨P, pa, pb, pc3, pd, px, H⟩ := hPe
  have hl : 51 ≤ P.1 := by omega
  refine q_iconst (pc := 120) rfl (nI 0) (by decide) ?_
  refine q_istore_n (pc := 121) [_, _] rfl (Nat.le_of_ble_eq_true rfl) rfl ?_
  refine i_ftL (by omega) hl ?_ 39 0 (by decide) hb s0 H rfl (fun j hj => by omega) sf.rf
  intro h s H e25 e26 f
  refine q_aload_n (pc := 151) rfl rfl rfl ?_
  refine q_getf (pc := 152) rfl (HR.X' H hl) rfl rfl ?_
  refine q_callV (pc := 155) _ rfl rfl rfl (HR.c H hl 25 rfl) rfl (Nat.le_of_ble_eq_true rfl) (by omega) _ rfl ?_
  refine c_readTape (by omega) H hl ⟨e25, e26, by decide, ftp_255⟩ ?_
  intro h1 s1 k6 H1 f1 e1 hk r1
  have A : CA P s1 (fun _ => 0) (fun _ => 0) 0 ftp 39 (fun _ _ => 0) (fun _ _ => 0) (fun _ => -1) (fun _ => 0) (fun _ _ => 0) := by
    have g : ∀ i, ¬ ((25 ≤ i ∧ i < 31)) → s1 i = s0 i := fun i hi => (f1 i (by omega)).trans (f i (by omega))
    refine ⟨⟨fun i _ => congrFun (g 2 (by omega)) i, fun i _ => congrFun (g 3 (by omega)) i, fun p hp i _ => ?_, congrFun (g 1 (by omega)) 3, congrFun (g 1 (by omega)) 4, congrFun (g 1 (by omega)) 5⟩, ⟨fun i _ => congrFun (g 18 (by omega)) i, fun i _ => congrFun (g 19 (by omega)) i, fun p hp i _ => ?_, congrFun (g 17 (by omega)) 3, congrFun (g 17 (by omega)) 4, congrFun (g 17 (by omega)) 5⟩, congrFun (g 0 (by omega)) 3, fun i hi => (congrFun (f1 26 (by omega)) i).trans (e26 i hi), e1.trans e25, ⟨(congrFun (g 31 (by omega)) 1).trans (by rw [pb]; rfl), by omega, fun t ht => by omega⟩, fun q hq => ?_⟩
    · rcases p4 hp with rfl | rfl | rfl | rfl
      · exact congrFun (g 5 (by omega)) i
      · exact congrFun (g 6 (by omega)) i
      · exact congrFun (g 7 (by omega)) i
      · exact congrFun (g 8 (by omega)) i
    · rcases p4 hp with rfl | rfl | rfl | rfl
      · exact congrFun (g 21 (by omega)) i
      · exact congrFun (g 22 (by omega)) i
      · exact congrFun (g 23 (by omega)) i
      · exact congrFun (g 24 (by omega)) i
    · rcases p4 hq with rfl | rfl | rfl | rfl
      · exact ⟨congrFun (g 43 (by omega)) 1, congrFun (g 43 (by omega)) 2, fun i _ => congrFun (g 44 (by omega)) i⟩
      · exact ⟨congrFun (g 45 (by omega)) 1, congrFun (g 45 (by omega)) 2, fun i _ => congrFun (g 46 (by omega)) i⟩
      · exact ⟨congrFun (g 47 (by omega)) 1, congrFun (g 47 (by omega)) 2, fun i _ => congrFun (g 48 (by omega)) i⟩
      · exact ⟨congrFun (g 49 (by omega)) 1, congrFun (g 49 (by omega)) 2, fun i _ => congrFun (g 50 (by omega)) i⟩
  rcases r1 with ⟨f9, er, _⟩ | ⟨out, E1, i9, er, ps, hE, ⟨b1, b2, b3, b4⟩, w0, w1, w2⟩
  · exact (ft_rd er).elim
  have hok : txok (fun j => out.getD j 0) E1 := ⟨⟨b1, b2, by omega⟩, fun part hp => by
    rcases (show part = 0 ∨ part = 1 ∨ part = 2 by omega) with rfl | rfl | rfl
    · exact wfs_p w0
    · exact wfs_p w1
    · exact wfs_p w2⟩
  obtain ⟨ho, q0, q1, q2⟩ := ft_rd2 er
  have h51 : h1.1 = tid P.2.1 := by rw [H1.2.1, pc3, pb]; rfl
  have t51 : tid P.2.1 = 51 := by rw [pb]; rfl
  have e7 : s1 25 7 = nI out.length := ps.2.2.1
  refine q_aload_n (pc := 158) rfl rfl rfl ?_
  refine q_getf (pc := 159) rfl (HR.X' H1 hl) rfl rfl ?_
  refine q_aload_n (pc := 162) rfl rfl rfl ?_
  refine q_getf (pc := 163) rfl (HR.X' H1 hl) rfl rfl ?_
  refine q_callV (pc := 166) _ rfl rfl rfl (HR.c H1 hl 25 rfl) rfl (Nat.le_of_ble_eq_true rfl) (by omega) _ rfl ?_
  refine c_made (by omega) H1 hl e7 b4 (by omega) ?_
  intro h3 m3
  refine q_callV (pc := 169) _ rfl rfl rfl (by exact (m3.2.1 31 (Or.inl (by omega))).trans (HR.R H1 hl A.2.2.2.2.2.1.1)) rfl (Nat.le_of_ble_eq_true rfl) (by omega) _ rfl ?_
  have mm := m3
  obtain ⟨⟨m1, m2⟩, u3, ⟨fA, u4, u5⟩, u6, u7⟩ := m3
  rw [h51] at u3 u6 ⊢
  refine c_add (n := P.2.1) (by omega) ((u3 31 (by omega)).trans (HR.R H1 hl A.2.2.2.2.2.1.1)) ((u3 32 (by omega)).trans H1.2.2.2.2.1) u6 (by omega) ?_
  have H4 := HR.grow (h2 := mx_set (mx_set h3 32 (.inl (4, 6, .inr (hr_g (P.2.1 + 1))))) 31 (.inr (4, [.ref 32, .int (nI (P.2.1 + 1)), .ref 33, .ref 34, .ref 35]))) H1 hl (by omega) h51 mm u4 ⟨rfl, rfl⟩ (fun i g1 g2 => (strr g1).trans (strr g2)) ((strr (by decide)).trans (set_at _ _ _)) (set_at _ _ _)
  have A4 := A.grow (by omega) b3.symm (fun i hi => (u5 i hi).trans (ps.2.2.2.2 i hi)) (fun i hi => hE i hi) hok
  refine q_pop (pc := 172) rfl rfl ?_
  refine q_aload_n (pc := 173) rfl rfl rfl ?_
  refine q_getf (pc := 174) rfl (HR.X' H4 (P := Pup P out.length) hl) rfl rfl ?_
  refine q_callV (pc := 177) _ rfl rfl rfl (HR.c (P := Pup P out.length) H4 hl 25 rfl) rfl (Nat.le_of_ble_eq_true rfl) (by omega) _ rfl ?_
  refine c_forget (P := Pup P out.length) H4 hl ?_
  intro h5 H5
  refine q_vret (pc := 180) rfl rfl ?_
  have o5 : out.length = 5 := by rw [ho]; rfl
  refine kk h5 _ (Pup P out.length) _ _ ⟨pa, ?_, ?_, ?_, px⟩ H5 (A4.tz0 (sf.rf.st (by omega)) stv_a) ⟨fun i _ => ?_, ?_, ?_, ?_⟩
  · show P.2.1 + 1 = 1
    omega
  · show P.2.2.1 + 3 = 54
    omega
  · show P.2.2.2.1 + (out.length + 5) = _
    omega
  · rw [pb, up1_s, ho]
  · rw [pb, up1_s, q0]
  · rw [pb, up1_s, q1]
  · rw [pb, up1_s, q2]
end P72
