/-! ===== the class: a text is made, kept, called ===== -/
section P45
variable {d k pc a i j c p b t n m part q : Nat} {v : Int} {L L' : mx_L} {st r : List Value} {P : mx_Pm} {h : mx_H} {s : mx_St} {Q : Option Value → mx_H → Prop} {x y w z u : Int32} {β κ : Nat → Nat} {C : Nat → Nat → Int32} {E : Nat → Nat → Nat} {ik tz : Nat} {tp : Nat → Nat} {σ : Nat → Int32} {sz : Nat → Nat} {cl : Nat → Nat → Int32}
variable {out : List Int32}
theorem c_forget (H : HR P h s) (hl : 51 ≤ P.1) (kk : ∀ h', HR P h' (stv s 25 1 (nI 0)) → Q none h') : wc d 20 [.ref 25] h Q := by
  refine wc.go [_] rfl ?_
  refine q_aload_n (pc := 0) rfl rfl rfl ?_
  refine q_iconst (pc := 1) rfl (nI 0) (by decide) ?_
  refine r_pf2 (pc := 2) (i := 1) rfl H hl rfl rfl rfl rfl (Nat.le_of_ble_eq_true rfl) rfl rfl ?_
  intro h H
  refine q_vret (pc := 5) rfl rfl ?_
  exact kk _ H
theorem nwr {h : mx_H} {k i : Nat} {e : mx_E} (hi : i ≠ h.1) : (mx_new h k e).2.2 i = h.2.2 i := if_neg hi
theorem nws {h : mx_H} {k : Nat} {e : mx_E} : (mx_new h k e).2.2 h.1 = e := if_pos rfl
theorem strr {h : mx_H} {a i : Nat} {e : mx_E} (hi : i ≠ a) : (mx_set h a e).2.2 i = h.2.2 i := if_neg hi
/-- a text is made: three cells more -/
def MD (h h' : mx_H) (n : Nat) (F G : Nat → Int32) : Prop := (h'.1 = h.1 + 3 ∧ h'.2.1 = h.2.1 + (n + 5)) ∧ (∀ i, i < h.1 ∨ h.1 + 3 ≤ i → h'.2.2 i = h.2.2 i) ∧ (∃ f, h'.2.2 h.1 = .inl (0, n, .inl f) ∧ ∀ j, j < n → f j = F j) ∧ h'.2.2 (h.1 + 1) = .inr (6, [.ref h.1, .ref (h.1 + 2)]) ∧ h'.2.2 (h.1 + 2) = .inl (0, 3, .inl G)
theorem c_tinit {b u w : Nat} {fs : List Value} (hh : h.2.2 b = .inr (6, [.null, .null])) (hq : Q none (mx_set (mx_set h b (.inr (6, [.ref u, .null]))) b (.inr (6, [.ref u, .ref w])))) : wc d 62 [.ref b, .ref u, .ref w] h Q := by
  refine wc.go [_, _, _] rfl ?_
  refine q_aload_n (pc := 0) rfl rfl rfl ?_
  refine q_obj (pc := 1) rfl rfl ?_
  refine q_aload_n (pc := 4) rfl rfl rfl ?_
  refine q_aload_n (pc := 5) rfl rfl rfl ?_
  refine q_putf (pc := 6) (fs' := [_, _]) rfl (by exact hh) rfl (Nat.le_of_ble_eq_true rfl) rfl rfl ?_
  refine q_aload_n (pc := 9) rfl rfl rfl ?_
  refine q_aload_n (pc := 10) rfl rfl rfl ?_
  refine q_putf (pc := 11) (fs' := [_, _]) rfl (by exact set_at _ _ _) rfl (Nat.le_of_ble_eq_true rfl) rfl rfl ?_
  refine q_vret (pc := 14) rfl rfl ?_
  exact hq
theorem c_made (hd : 2 ≤ d) (H : HR P h s) (hl : 51 ≤ P.1) (e7 : s 25 7 = nI n) (hn : n ≤ 160) (hb : 51 ≤ h.1 ∧ h.1 ≤ 1000) (kk : ∀ h', MD h h' n (s 29) (s 30) → Q (some (.ref (h.1 + 1))) h') : wc d 21 [.ref 25] h Q := by
  have a25 := HR.c H hl 25 rfl
  have a29 := HR.c H hl 29 rfl
  have a30 := HR.c H hl 30 rfl
  have x0 : (nI n).toNatClampNeg = n := x_cl (by omega)
  refine wc.go [_, _, _] rfl ?_
  refine q_aload_n (pc := 0) rfl rfl rfl ?_
  refine q_getf (pc := 1) rfl (by exact a25) rfl rfl ?_
  rw [e7]
  refine q_iconst (pc := 4) rfl (nI 0) (by decide) ?_
  refine q_sipush (pc := 5) rfl (nI 160) (by decide) ?_
  refine q_callS (pc := 8) _ (by decide) rfl rfl rfl rfl (Nat.le_of_ble_eq_true rfl) (by omega) _ rfl ?_
  refine c_boundX (lo := 0) (hi := 160) (by decide) (by decide) ?_
  rw [bdN_n (by omega), show max 0 (min n 160) = n by omega]
  refine q_istore_n (pc := 11) [_, _, _] rfl (Nat.le_of_ble_eq_true rfl) rfl ?_
  refine q_iload_n (pc := 12) rfl rfl ?_
  refine q_newI (pc := 13) rfl (by exact ⟨nI_pos (by omega), by rw [x0]; omega, by show h.1 < 1000000; omega⟩) ?_
  rw [x0]
  refine q_astore_n (pc := 15) [_, _, _] rfl rfl (Nat.le_of_ble_eq_true rfl) rfl ?_
  refine q_aload_n (pc := 16) rfl rfl rfl ?_
  refine q_getf (pc := 17) rfl (by exact (nwr (by omega)).trans a25) rfl rfl ?_
  refine q_iconst (pc := 20) rfl (nI 0) (by decide) ?_
  refine q_aload_n (pc := 21) rfl rfl rfl ?_
  refine q_iconst (pc := 22) rfl (nI 0) (by decide) ?_
  refine q_iload_n (pc := 23) rfl rfl ?_
  refine q_copy (pc := 24) rfl (by exact (nwr (by omega)).trans a29) (by exact nws) (by exact ⟨rfl, by decide, by show h.1 < 1000000; omega, by decide, by decide, nI_pos (by omega), by rw [x0]; show 0 + n ≤ 160; omega, by rw [x0]; show 0 + n ≤ n; omega⟩) ?_
  rw [x0]
  refine q_new (pc := 27) rfl (by show h.1 + 1 < 1000000; omega) ?_
  refine q_dup (pc := 30) rfl rfl ?_
  refine q_aload_n (pc := 31) rfl rfl rfl ?_
  refine q_aload_n (pc := 32) rfl rfl rfl ?_
  refine q_getf (pc := 33) rfl (by exact (nwr (show 25 ≠ h.1 + 1 by omega)).trans ((strr (by omega)).trans ((nwr (by omega)).trans a25))) rfl rfl ?_
  refine q_clone (pc := 36) rfl (by exact (nwr (show 30 ≠ h.1 + 1 by omega)).trans ((strr (by omega)).trans ((nwr (by omega)).trans a30))) (by exact ⟨rfl, by decide, by show h.1 + 2 < 1000000; omega⟩) ?_
  refine q_cast (pc := 39) rfl (by exact nws) (by show h.1 + 2 < 1000000; omega) ?_
  refine q_callI (pc := 42) _ (by decide) rfl rfl rfl rfl (Nat.le_of_ble_eq_true rfl) (by omega) _ rfl ?_
  refine c_tinit (fs := []) ((nwr (show h.1 + 1 ≠ h.1 + 2 by omega)).trans nws) ?_
  refine q_aret (pc := 45) rfl rfl ?_
  refine kk _ ⟨⟨rfl, ?_⟩, fun i hi => ?_, ⟨va_cpy (s 29) (fun _ => 0) 0 0 n, ?_, fun j hj => ?_⟩, ?_, ?_⟩
  · show h.2.1 + n + mx_nf 6 + 3 = h.2.1 + (n + 5)
    rw [show mx_nf 6 = 2 from rfl]
    omega
  · exact (strr (show i ≠ h.1 + 1 by omega)).trans ((strr (show i ≠ h.1 + 1 by omega)).trans ((nwr (show i ≠ h.1 + 2 by omega)).trans ((nwr (show i ≠ h.1 + 1 by omega)).trans ((strr (by omega)).trans (nwr (by omega))))))
  · exact (strr (show h.1 ≠ h.1 + 1 by omega)).trans ((strr (show h.1 ≠ h.1 + 1 by omega)).trans ((nwr (show h.1 ≠ h.1 + 2 by omega)).trans ((nwr (show h.1 ≠ h.1 + 1 by omega)).trans (set_at _ _ _))))
  · rw [pk_cpy_in (by omega) (by omega)]
    congr 1
    omega
  · exact set_at _ _ _
  · exact (strr (show h.1 + 2 ≠ h.1 + 1 by omega)).trans ((strr (show h.1 + 2 ≠ h.1 + 1 by omega)).trans nws)
theorem hr_up {n : Nat} : va_up (hr_g n) n (some (tid n + 1)) = hr_g (n + 1) := by
  funext i
  unfold va_up hr_g
  by_cases e : i = n
  · subst e
    rw [if_pos rfl, if_pos (by omega)]
  · rw [if_neg e]
    by_cases g : i < n
    · rw [if_pos g, if_pos (by omega)]
    · rw [if_neg g, if_neg (by omega)]
theorem c_add {n : Nat} {fs : List Value} (hn : n < 6) (a31 : h.2.2 31 = .inr (4, [.ref 32, .int (nI n), .ref 33, .ref 34, .ref 35])) (a32 : h.2.2 32 = .inl (4, 6, .inr (hr_g n))) (aw : h.2.2 (tid n + 1) = .inr (6, fs)) (hw : tid n ≤ 1000) (hq : Q (some (.int (nI n))) (mx_set (mx_set h 32 (.inl (4, 6, .inr (hr_g (n + 1))))) 31 (.inr (4, [.ref 32, .int (nI (n + 1)), .ref 33, .ref 34, .ref 35])))) : wc d 44 [.ref 31, .ref (tid n + 1)] h Q := by
  refine wc.go [_, _] rfl ?_
  refine q_aload_n (pc := 0) rfl rfl rfl ?_
  refine q_getf (pc := 1) rfl (by exact a31) rfl rfl ?_
  refine q_iflt (pc := 4) rfl (fun h4 => ?_) (fun h4 => ?_)
  · first | (exfalso; omega) | exact absurd h4 (nI_pos (by omega)) | exact absurd (nI_pos' (by omega)) h4
  · refine q_aload_n (pc := 7) rfl rfl rfl ?_
    refine q_getf (pc := 8) rfl (by exact a31) rfl rfl ?_
    refine q_bipush (pc := 11) rfl (nI 6) (by decide) ?_
    first | refine n_icmplt (pc := 13) rfl (by omega) (by omega) (fun h13 => ?_) (fun h13 => ?_) | refine q_icmplt (pc := 13) rfl (fun h13 => ?_) (fun h13 => ?_)
    · refine q_aload_n (pc := 19) rfl rfl rfl ?_
      refine q_getf (pc := 20) rfl (by exact a31) rfl rfl ?_
      refine q_aload_n (pc := 23) rfl rfl rfl ?_
      refine q_getf (pc := 24) rfl (by exact a31) rfl rfl ?_
      refine q_aload_n (pc := 27) rfl rfl rfl ?_
      refine q_aastore (pc := 28) rfl (by exact a32) (by exact aw) (by decide) rfl (by decide) (by exact x_vin (by omega) (by decide)) ?_
      rw [x_cl (by omega), hr_up]
      refine q_aload_n (pc := 29) rfl rfl rfl ?_
      refine q_dup (pc := 30) rfl rfl ?_
      refine q_getf (pc := 31) rfl (by exact (strr (by decide)).trans a31) rfl rfl ?_
      refine q_iconst (pc := 34) rfl (nI 1) (by decide) ?_
      first | refine n_iadd (pc := 35) rfl ?_ | refine q_iadd (pc := 35) rfl ?_
      refine q_putf (pc := 36) (fs' := [_, _, _, _, _]) rfl (by exact (strr (by decide)).trans a31) rfl (Nat.le_of_ble_eq_true rfl) rfl rfl ?_
      refine q_aload_n (pc := 39) rfl rfl rfl ?_
      refine q_getf (pc := 40) rfl (by exact set_at _ _ _) rfl rfl ?_
      refine q_iconst (pc := 43) rfl (nI 1) (by decide) ?_
      first | refine n_isub (pc := 44) rfl (by omega) ?_ | refine q_isub (pc := 44) rfl ?_
      rw [show n + 1 - 1 = n by omega]
      refine q_iret (pc := 45) rfl (rfl) ?_
      exact hq
    · first | (exfalso; omega) | exact absurd h13 (nI_pos (by omega)) | exact absurd (nI_pos' (by omega)) h13
theorem c_tnull {n : Nat} (H : HR P h s) (hl : 51 ≤ P.1) (hm : s 31 1 = nI n) (hn : n ≤ 6) (ht : n < 6 → wq d 83 15 [some (.ref 0)] [] h Q) (hf : 6 ≤ n → Q (some (.int (-4))) h) : wc d 83 [.ref 0] h Q := by
  refine wc.go [_] rfl ?_
  refine q_aload_n (pc := 0) rfl rfl rfl ?_
  refine q_getf (pc := 1) rfl (by first | exact HR.X' H hl | exact HR.R H hl hm) rfl rfl ?_
  refine q_getf (pc := 4) rfl (by first | exact HR.X' H hl | exact HR.R H hl hm) rfl rfl ?_
  refine q_bipush (pc := 7) rfl (nI 6) (by decide) ?_
  first | refine n_icmplt (pc := 9) rfl (by omega) (by omega) (fun h9 => ?_) (fun h9 => ?_) | refine q_icmplt (pc := 9) rfl (fun h9 => ?_) (fun h9 => ?_)
  · first
    | (exfalso; omega (config := {splitDisjunctions := false}))
    | skip
      exact ht (by omega)
  · first
    | (exfalso; omega (config := {splitDisjunctions := false}))
    | skip
      refine q_bipush (pc := 12) rfl (-4) (by decide) ?_
      refine q_iret (pc := 14) rfl (rfl) ?_
      exact hf (by omega)
/-- one text more -/
def Pup (P : mx_Pm) (n : Nat) : mx_Pm := (P.1, P.2.1 + 1, P.2.2.1 + 3, P.2.2.2.1 + (n + 5), up1 P.2.2.2.2.1 P.2.1 n, P.2.2.2.2.2.1, P.2.2.2.2.2.2)
theorem tid_up (t : Nat) (ht : 0 < t) : tid (t + 1) = tid t + 3 := by
  unfold tid
  rw [if_neg (by omega), if_neg (by omega)]
  omega
theorem tid_lt {t u : Nat} (h : t < u) : tid t + 3 ≤ tid u := by
  have h1 := tid_spec t
  have h2 := tid_spec u
  omega
theorem tid_le {t : Nat} (h : t ≤ 6) : 51 ≤ tid t ∧ tid t ≤ 90 := by
  have h1 := tid_spec t
  omega
theorem HR.grow {h1 h2 : mx_H} {f : Nat → Int32} {n : Nat} {G : Nat → Int32} (H : HR P h s) (hl : 51 ≤ P.1) (h6 : P.2.1 < 6) (hc : h.1 = tid P.2.1) (m : MD h h1 n (s 29) G) (hf : h1.2.2 h.1 = .inl (0, n, .inl f)) (e1 : h2.1 = h1.1 ∧ h2.2.1 = h1.2.1) (e2 : ∀ i, i ≠ 31 → i ≠ 32 → h2.2.2 i = h1.2.2 i) (e3 : h2.2.2 32 = .inl (4, 6, .inr (hr_g (P.2.1 + 1)))) (e4 : h2.2.2 31 = .inr (4, [.ref 32, .int (nI (P.2.1 + 1)), .ref 33, .ref 34, .ref 35])) : HR (Pup P n) h2 (stF (stF (stv s 31 1 (nI (P.2.1 + 1))) (tid P.2.1) f) (tid P.2.1 + 2) G) := by
  have hl2 := H.1.1
  have t0 := tid_le (t := P.2.1) (by omega)
  have tsp := tid_spec P.2.1
  obtain ⟨⟨m1, m2⟩, m3, m4, m5, m6⟩ := m
  rw [hc] at m3 hf m5 m6 m1
  refine ⟨⟨H.1.1, by show P.2.1 + 1 ≤ 6; omega⟩, ?_, ?_, fun b hb => ?_, ?_, fun t ht => ?_, ?_⟩
  · rw [e1.1, m1, ← hc, H.2.1]
    rfl
  · rw [e1.2, m2, H.2.2.1]
    rfl
  · obtain ⟨b1, b2, b3⟩ := okc_spec hb
    have b1 : b < P.1 := b1
    by_cases e : b = 31
    · subst e
      rw [e4, stF_n _ _ (by omega), stF_n _ _ (by omega), stv_s]
      show _ = (Sum.inr (4, [Value.ref 32, Value.int (upd (s 31) 1 (nI (P.2.1 + 1)) 1), Value.ref 33, Value.ref 34, Value.ref 35]) : mx_E)
      rw [pk_us]
    · have hX : b ≠ tid P.2.1 ∧ b ≠ tid P.2.1 + 1 ∧ b ≠ tid P.2.1 + 2 := by omega
      rw [e2 b e b2, m3 b (by omega), stF_n _ _ hX.2.2, stF_n _ _ hX.1, stv_n e]
      exact H.2.2.2.1 b hb
  · exact e3
  · have ht : t < P.2.1 + 1 := ht
    rcases Nat.lt_or_ge t P.2.1 with g | g
    · have g1 := tid_lt g
      have g2 := tid_le (t := t) (by omega)
      obtain ⟨q1, q2, q3⟩ := H.2.2.2.2.2.1 t g
      refine ⟨?_, ?_, ?_⟩
      · rw [e2 _ (by omega) (by omega), m3 _ (by omega), stF_n _ _ (by omega), stF_n _ _ (by omega), stv_n (by omega), q1]
        show _ = Sum.inl (0, up1 P.2.2.2.2.1 P.2.1 n t, _)
        rw [up1_n (by omega)]
      · rw [e2 _ (by omega) (by omega), m3 _ (by omega), q2]
      · rw [e2 _ (by omega) (by omega), m3 _ (by omega), stF_n _ _ (by omega), stF_n _ _ (by omega), stv_n (by omega), q3]
    · obtain rfl : t = P.2.1 := by omega
      refine ⟨?_, ?_, ?_⟩
      · rw [e2 _ (by omega) (by omega), hf, stF_n _ _ (by omega), stF_s]
        show _ = Sum.inl (0, up1 P.2.2.2.2.1 P.2.1 n P.2.1, _)
        rw [up1_s]
      · rw [e2 _ (by omega) (by omega), m5]
      · rw [e2 _ (by omega) (by omega), m6, stF_s]
  · rw [e2 _ (by decide) (by decide), m3 _ (Or.inr (by show tid P.2.1 + 3 ≤ 1000000; omega))]
    exact H.2.2.2.2.2.2
def o_text (n : Nat) (tp : Nat → Nat) (tz : Nat) : Int32 := if 6 ≤ n then -4 else match rdTxt (tkT tp tz) with | .inl f => -100 - nI (tpl tp tz f) | .inr _ => nI n
theorem bok_up1 {n : Nat} (h : bok β n) : bok β (n + 1) := ⟨h.1, h.2.1, h.2.2.1, h.2.2.2.1, by have := h.2.2.2.2; omega⟩
theorem AOK.tz0 {n m : Nat} (K : AOK n β κ ik tp tz σ sz) (hm : n ≤ m) : AOK m β κ ik tp 0 σ sz := by
  obtain ⟨a1, a2, a3, a4, a5, a6, a7, a8⟩ := K
  exact ⟨⟨a1.1, a1.2.1, a1.2.2.1, a1.2.2.2.1, by have := a1.2.2.2.2; omega⟩, a2, ⟨a3.1, a3.2.1, a3.2.2.1, a3.2.2.2.1, by have := a3.2.2.2.2; omega⟩, a4, a5, by omega, fun i hi => by omega, a8⟩
theorem CA.tz0 {P : mx_Pm} {s s' : mx_St} (A : CA P s β κ ik tp tz C E σ sz cl) (f : sf s s' (fun i => i = 25 ∨ (27 ≤ i ∧ i < 31))) (e : s' 25 1 = nI 0) : CA P s' β κ ik tp 0 C E σ sz cl := by
  obtain ⟨h1, h2, h3, h4, h5, h6, h7⟩ := A
  have g : ∀ i, ¬ (i = 25 ∨ (27 ≤ i ∧ i < 31)) → s' i = s i := fun i hi => f i hi
  refine ⟨h1.fr f (fun i g1 g2 z => by omega), h2.fr f (fun i g1 g2 z => by omega), (congrFun (g 0 (by omega)) 3).trans h3, fun i hi => by omega, e, h6.fr f (fun i z => by omega), fun q hq => ?_⟩
  obtain ⟨g1, g2, g3⟩ := h7 q hq
  exact ⟨(congrFun (g _ (by omega)) _).trans g1, (congrFun (g _ (by omega)) _).trans g2, fun i hi => (congrFun (g _ (by omega)) _).trans (g3 i hi)⟩
theorem CA.grow {f G : Nat → Int32} {n : Nat} {C1 : Nat → Int32} {E1 : Nat → Nat} (A : CA P s β κ ik tp tz C E σ sz cl) (h6 : P.2.1 < 6) (hn : n = E1 2) (hf : ∀ i, i < n → f i = C1 i) (hG : ∀ i, i < 3 → G i = nI (E1 i)) (hk : txok C1 E1) : CA (Pup P n) (stF (stF (stv s 31 1 (nI (P.2.1 + 1))) (tid P.2.1) f) (tid P.2.1 + 2) G) β κ ik tp tz (up1 C P.2.1 C1) (up1 E P.2.1 E1) σ sz cl := by
  have t0 := tid_le (t := P.2.1) (by omega)
  have tsp := tid_spec P.2.1
  have fr : sf s (stF (stF (stv s 31 1 (nI (P.2.1 + 1))) (tid P.2.1) f) (tid P.2.1 + 2) G) (fun i => i = 31 ∨ i = tid P.2.1 ∨ i = tid P.2.1 + 2) := fun i hi => by
    rw [stF_n _ _ (fun e => hi (Or.inr (Or.inr e))), stF_n _ _ (fun e => hi (Or.inr (Or.inl e))), stv_n (fun e => hi (Or.inl e))]
  obtain ⟨h1, h2, h3, h4, h5, h6', h7⟩ := A
  refine ⟨h1.fr fr (fun i g1 g2 z => by omega), h2.fr fr (fun i g1 g2 z => by omega), (congrFun (fr 0 (by omega)) 3).trans h3, fun i hi => (congrFun (fr 26 (by omega)) i).trans (h4 i hi), (congrFun (fr 25 (by omega)) 1).trans h5, ⟨?_, by show P.2.1 + 1 ≤ 6; omega, fun t ht => ?_⟩, fun q hq => ?_⟩
  · rw [stF_n _ _ (by omega), stF_n _ _ (by omega), stv_a]
    rfl
  · have ht : t < P.2.1 + 1 := ht
    rcases Nat.lt_or_ge t P.2.1 with g | g
    · have g1 := tid_lt g
      have g2 := tid_le (t := t) (by omega)
      obtain ⟨q1, q2, q3, q4⟩ := h6'.2.2 t g
      rw [up1_n (by omega), up1_n (by omega)]
      refine ⟨fun i hi => (congrFun (fr _ (by omega)) _).trans (q1 i hi), ?_, fun i hi => (congrFun (fr _ (by omega)) _).trans (q3 i hi), q4⟩
      show up1 P.2.2.2.2.1 P.2.1 n t = _
      rw [up1_n (by omega)]
      exact q2
    · obtain rfl : t = P.2.1 := by omega
      rw [up1_s, up1_s]
      refine ⟨fun i hi => ?_, ?_, fun i hi => ?_, hk⟩
      · rw [stF_n _ _ (by omega), stF_s]
        exact hf i (by omega)
      · show up1 P.2.2.2.2.1 P.2.1 n P.2.1 = _
        rw [up1_s, hn]
      · rw [stF_s]
        exact hG i hi
  · obtain ⟨g1, g2, g3⟩ := h7 q hq
    exact ⟨(congrFun (fr _ (by omega)) _).trans g1, (congrFun (fr _ (by omega)) _).trans g2, fun i hi => (congrFun (fr _ (by omega)) _).trans (g3 i hi)⟩
theorem c_text (hd : 80 ≤ d) (H : HR P h s) (hl : 51 ≤ P.1) (A : CA P s β κ ik tp tz C E σ sz cl) (K : AOK P.2.1 β κ ik tp tz σ sz) (hc : h.1 = tid P.2.1) (k1 : 6 ≤ P.2.1 → Q (some (.int (-4))) h) (k2 : P.2.1 < 6 → ∀ f, rdTxt (tkT tp tz) = .inl f → ∀ h' s', HR P h' s' → CA P s' β κ ik tp 0 C E σ sz cl → sf s s' cS → Q (some (.int (-100 - nI (tpl tp tz f)))) h') (k3 : P.2.1 < 6 → ∀ out E1, rdTxt (tkT tp tz) = .inr (out, E1) → out.length ≤ 160 → E1 2 = out.length → txok (fun j => out.getD j 0) E1 → ∀ h' s', HR (Pup P out.length) h' s' → CA (Pup P out.length) s' β κ ik tp 0 (up1 C P.2.1 (fun j => out.getD j 0)) (up1 E P.2.1 E1) σ sz cl → sf s s' cS → Q (some (.int (nI P.2.1))) h') : wc d 83 [.ref 0] h Q := by
  have hT := A.2.2.2.2.2.1
  have hRT : RT s tp tz := ⟨A.2.2.2.2.1, A.2.2.2.1, K.2.2.2.2.2.1, K.2.2.2.2.2.2.1⟩
  refine c_tnull H hl hT.1 hT.2.1 (fun h6 => ?_) k1
  have k2 := k2 h6
  have k3 := k3 h6
  have t0 := tid_le (t := P.2.1) (by omega)
  refine q_aload_n (pc := 15) rfl rfl rfl ?_
  refine q_getf (pc := 16) rfl (by first | exact HR.X' H hl | exact HR.c H hl _ rfl) rfl rfl ?_
  refine q_callV (pc := 19) _ rfl rfl rfl (by first | exact HR.X' H hl | exact HR.c H hl _ rfl) rfl (Nat.le_of_ble_eq_true rfl) (by omega) _ rfl ?_
  refine c_readTape (by omega) H hl hRT ?_
  intro h1 s1 k6 H f1 e1 hk r1
  have hc1 : h1.1 = tid P.2.1 := by rw [H.2.1, ← hc]; exact (by assumption : HR P h s).2.1.symm
  refine q_aload_n (pc := 22) rfl rfl rfl ?_
  refine q_getf (pc := 23) rfl (by first | exact HR.X' H hl | exact HR.c H hl _ rfl) rfl rfl ?_
  refine q_callV (pc := 26) _ rfl rfl rfl (by first | exact HR.X' H hl | exact HR.c H hl _ rfl) rfl (Nat.le_of_ble_eq_true rfl) (by omega) _ rfl ?_
  refine c_forget H hl ?_
  intro h2 H
  have f2 : sf s (stv s1 25 1 (nI 0)) (fun i => i = 25 ∨ (27 ≤ i ∧ i < 31)) := f1.st (by omega)
  have A2 := A.tz0 f2 stv_a
  have f3 : sf s (stv s1 25 1 (nI 0)) cS := f2.mono (fun i g => Or.inl (by omega))
  refine q_aload_n (pc := 29) rfl rfl rfl ?_
  refine q_getf (pc := 30) rfl (by first | exact HR.X' H hl | exact HR.c H hl _ rfl) rfl rfl ?_
  refine q_getf (pc := 33) rfl (by first | exact HR.X' H hl | exact HR.c H hl _ rfl) rfl rfl ?_
  have e9 : stv s1 25 1 (nI 0) 25 9 = s1 25 9 := stv_o (by decide)
  rw [e9]
  refine q_iconst (pc := 36) rfl (-1) (by decide) ?_
  refine q_icmpne (pc := 37) rfl (fun h37 => ?_) (fun h37 => ?_)
  · rcases r1 with ⟨f, er, hfk, e2⟩ | ⟨out, E1, i, er, ps, _⟩
    case inr => exact absurd ps.2.2.2.1 h37
    first
    | (exfalso; omega (config := {splitDisjunctions := false}))
    | exact absurd rfl h37
    | skip
      refine q_bipush (pc := 57) rfl (-100) (by decide) ?_
      refine q_aload_n (pc := 59) rfl rfl rfl ?_
      refine q_getf (pc := 60) rfl (by first | exact HR.X' H hl | exact HR.c H hl _ rfl) rfl rfl ?_
      refine q_getf (pc := 63) rfl (by first | exact HR.X' H hl | exact HR.c H hl _ rfl) rfl rfl ?_
      first | refine n_isub (pc := 66) rfl (by omega) ?_ | refine q_isub (pc := 66) rfl ?_
      rw [e9, e2]
      refine q_iret (pc := 67) rfl (rfl) ?_
      first
      | exact k2 f er _ _ H A2 f3
      | (refine k3 out E1 er b4 b3 hok _ _ (HR.grow H hl h6 hc2 mm q4 ⟨rfl, rfl⟩ (fun i g1 g2 => (strr g1).trans (strr g2)) ((strr (by decide)).trans (set_at _ _ _)) (set_at _ _ _)) (A2.grow h6 b3.symm (fun i hi => (q5 i hi).trans ((congrFun (stv_n (by decide)) i).trans (ps.2.2.2.2 i hi))) (fun i hi => (congrFun (stv_n (by decide)) i).trans (hE i hi)) hok) (fun i hi => ?_)
         have tsp := tid_spec P.2.1
         unfold cS at hi
         rw [stF_n _ _ (by omega), stF_n _ _ (by omega), stv_n (by omega)]
         exact f3 i (by unfold cS; omega))
  · rcases r1 with ⟨f, er, hfk, e2⟩ | ⟨out, E1, i, er, ps, hE, ⟨b1, b2, b3, b4⟩, w0, w1, w2⟩
    case inl => exact absurd (e2.symm.trans h37) (nI_m1 (by omega))
    have hok : txok (fun j => out.getD j 0) E1 := ⟨⟨b1, b2, by omega⟩, fun part hp => by
      rcases (show part = 0 ∨ part = 1 ∨ part = 2 by omega) with rfl | rfl | rfl
      · exact wfs_p w0
      · exact wfs_p w1
      · exact wfs_p w2⟩
    have e7 : stv s1 25 1 (nI 0) 25 7 = nI out.length := (stv_o (by decide)).trans ps.2.2.1
    have hc2 : h2.1 = tid P.2.1 := by rw [H.2.1, ← (by assumption : HR P h1 s1).2.1]; exact hc1
    first
    | (exfalso; omega (config := {splitDisjunctions := false}))
    | exact absurd rfl h37
    | skip
      refine q_aload_n (pc := 40) rfl rfl rfl ?_
      refine q_getf (pc := 41) rfl (by first | exact HR.X' H hl | exact HR.c H hl _ rfl) rfl rfl ?_
      refine q_aload_n (pc := 44) rfl rfl rfl ?_
      refine q_getf (pc := 45) rfl (by first | exact HR.X' H hl | exact HR.c H hl _ rfl) rfl rfl ?_
      refine q_callV (pc := 48) _ rfl rfl rfl (by first | exact HR.X' H hl | exact HR.c H hl _ rfl) rfl (Nat.le_of_ble_eq_true rfl) (by omega) _ rfl ?_
      refine c_made (by omega) H hl e7 b4 (by omega) ?_
      intro h3 m3
      refine q_callV (pc := 51) _ rfl rfl rfl (by exact (m3.2.1 31 (Or.inl (by omega))).trans (HR.R H hl A2.2.2.2.2.2.1.1)) rfl (Nat.le_of_ble_eq_true rfl) (by omega) _ rfl ?_
      have mm := m3
      obtain ⟨⟨m1, m2⟩, q3, ⟨fA, q4, q5⟩, q6, q7⟩ := m3
      rw [hc2] at q3 q6 ⊢
      refine c_add h6 ((q3 31 (by omega)).trans (HR.R H hl A2.2.2.2.2.2.1.1)) ((q3 32 (by omega)).trans H.2.2.2.2.1) q6 (by omega) ?_
      refine q_goto (pc := 54) rfl ?_
      refine q_iret (pc := 67) rfl (rfl) ?_
      first
      | exact k2 f er _ _ H A2 f3
      | (refine k3 out E1 er b4 b3 hok _ _ (HR.grow H hl h6 hc2 mm q4 ⟨rfl, rfl⟩ (fun i g1 g2 => (strr g1).trans (strr g2)) ((strr (by decide)).trans (set_at _ _ _)) (set_at _ _ _)) (A2.grow h6 b3.symm (fun i hi => (q5 i hi).trans ((congrFun (stv_n (by decide)) i).trans (ps.2.2.2.2 i hi))) (fun i hi => (congrFun (stv_n (by decide)) i).trans (hE i hi)) hok) (fun i hi => ?_)
         have tsp := tid_spec P.2.1
         unfold cS at hi
         rw [stF_n _ _ (by omega), stF_n _ _ (by omega), stv_n (by omega)]
         exact f3 i (by unfold cS; omega))
end P45
