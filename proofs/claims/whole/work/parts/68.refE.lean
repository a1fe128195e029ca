/-! ===== the reference: an E ===== -/
section P68
variable {d k pc a i j c p b t n m part q : Nat} {v : Int} {L L' : mx_L} {st r : List Value} {P : mx_Pm} {h : mx_H} {s : mx_St} {Q : Option Value → mx_H → Prop} {x y w z u : Int32} {β κ : Nat → Nat} {C : Nat → Nat → Int32} {E : Nat → Nat → Nat} {ik tz : Nat} {tp : Nat → Nat} {σ : Nat → Int32} {sz : Nat → Nat} {cl : Nat → Nat → Int32}
variable {out : List Int32} {S : List Nat} {o : Nat} {T : Nat → Int32}
def zf (n : Nat) (s s' : mx_St) : Prop := gf qS qF s s' ∧ ∀ j, j < 160 * n → s' 59 j = s 59 j
theorem zf.rf : zf n s s := ⟨gf.rf, fun _ _ => rfl⟩
theorem zf.tr {s s1 s2 : mx_St} (a : zf n s s1) (b : zf n s1 s2) : zf n s s2 := ⟨a.1.tr b.1, fun j hj => (b.2 j hj).trans (a.2 j hj)⟩
theorem yz {s s' : mx_St} (a : yf n s s') : zf n s s' := ⟨a.qf, a.2⟩
theorem xz {s s' : mx_St} (a : gf xS xF s s') : zf n s s' := ⟨xq a, fun j _ => congrFun (a.1 59 (by unfold xS; decide)) _⟩
theorem PSM.fx {s' : mx_St} (ps : PSM s n o out S) (f : gf xS xF s s') : PSM s' n o out S := ⟨(f.2 9 (by unfold xF; omega)).trans ps.1, (f.2 13 (by unfold xF; omega)).trans ps.2.1, (f.2 16 (by unfold xF; omega)).trans ps.2.2.1, fun j hj => (congrFun (f.1 59 (by unfold xS; decide)) _).trans (ps.2.2.2.1 j hj), WTA.cg (f.1 62 (by unfold xS; decide)) S ps.2.2.2.2⟩
/-- the token is reached over tokens that are read -/
def AT (tp : Nat → Nat) (tz i : Nat) : Prop := (∀ j, j < i → ¬ isE (tkT tp tz j)) ∧ tpl tp tz i ≤ tz
theorem AT.lt (a : AT tp tz i) (hz : tz ≤ 160) (h : ¬ isE (tkT tp tz i)) : i < 160 := by
  refine Classical.byContradiction (fun q => ?_)
  rcases Nat.eq_or_lt_of_le (show 160 ≤ i by omega) with e | e
  · rw [← e] at h
    exact h (Or.inl (tk_end tp tz hz))
  · exact a.1 160 e (Or.inl (tk_end tp tz hz))
theorem AT.le (a : AT tp tz i) (hz : tz ≤ 160) : i ≤ 160 := by
  refine Classical.byContradiction (fun q => ?_)
  exact a.1 160 (by omega) (Or.inl (tk_end tp tz hz))
theorem AT.sr (h : ¬ isE (tkT tp tz i)) : srV (byN tp tz (tpl tp tz i)) ≠ 0 := fun e => by
  refine h (Or.inl ?_)
  rw [tk_3 (by omega) (by omega)]
  unfold srV at e
  split at e
  · rename_i q
    rw [q]
    decide
  · (repeat' split at e) <;> omega
theorem AT.nx (a : AT tp tz i) (h : ¬ isE (tkT tp tz i)) : AT tp tz (i + 1) ∧ stP tp tz (i + 1) ≤ tz := by
  have h1 := stP_n (AT.sr h)
  have h2 := skN_le (tp := tp) (tz := tz) (j := stP tp tz (i + 1))
  have e : tpl tp tz (i + 1) = skN tp tz (stP tp tz (i + 1)) := rfl
  refine ⟨⟨fun j hj => ?_, by omega⟩, h1.2⟩
  rcases Nat.lt_succ_iff_lt_or_eq.mp hj with g | g
  · exact a.1 j g
  · rw [g]; exact h
theorem m_nextT (hd : 3 ≤ d) (H : HR P h s) (hl : 75 ≤ P.1) (hx : TX s n tp tz) (X : LX s tp tz i) (a : AT tp tz i) (hE : ¬ isE (tkT tp tz i)) (kk : ∀ h' s', HR P h' s' → gf xS xF s s' → TX s' n tp tz → LX s' tp tz (i + 1) → AT tp tz (i + 1) → Q none h') : wc d 149 [.ref 54] h Q := by
  obtain ⟨a1, a2⟩ := a.nx hE
  have e6 : s 54 6 = nI (stP tp tz (i + 1)) := by
    have := X.1
    rw [if_neg (AT.sr hE)] at this
    exact this
  exact m_next hd H hl hx e6 a2 (fun h' s' H f X2 => kk _ _ H f (hx.fr (xq f)) X2 a1)
theorem e_at {t : Int32} (h : ¬ t < -6) : ¬ isE t := fun e => by
  rcases e with e | e <;> (subst e; exact h (by decide))
theorem e_op {t : Int32} (h : t = -16 ∨ t = -13 ∨ t = -9 ∨ t = -17 ∨ t = -18) : ¬ isE t := by
  rcases h with e | e | e | e | e <;> (subst e; unfold isE; decide)
theorem e_bin {t : Int32} (h : bin t ≠ 0) : ¬ isE t := fun e => by
  rcases e with e | e <;> (subst e; exact h (by decide))
theorem stl_1e (hok : okO2 o S) {x : Nat} {S' : List Nat} (e : (stl 1 S o out).2.2 = x :: S') : x = 0 := by
  induction S generalizing o out with
  | nil => exact absurd e (by simp [stl])
  | cons y S ih =>
    rw [stl] at e
    have hy := hok.1 y (List.mem_cons_self)
    by_cases g : 0 < rk y ∧ 1 ≤ rk y
    · rw [if_pos g] at e
      have hcn : cntO S + (if y = 0 ∨ y = 9 ∨ y = 15 then 1 else 0) = o := hok.2
      exact ih (o := cntO S) ⟨fun z hz => hok.1 z (List.mem_cons_of_mem _ hz), rfl⟩ (out := out ++ [dc y]) (by
        have : ∀ o1 o2 : Nat, ∀ S : List Nat, ∀ out : List Int32, (stl 1 S o1 out).2.2 = (stl 1 S o2 out).2.2 := by
          intro o1 o2 S
          induction S generalizing o1 o2 with
          | nil => intro out; rfl
          | cons z S ih2 =>
            intro out
            rw [stl, stl]
            split
            · exact ih2 _ _ _
            · rfl
        rw [this _ (if y = 9 ∨ y = 15 then o - 1 else o)]
        exact e)
    · rw [if_neg g] at e
      have e2 : y :: S = x :: S' := e
      injection e2 with e3 e4
      rw [← e3]
      have : rk y = 0 := by omega
      have hk : ∀ y, y < 16 → rk y = 0 → y = 0 ∨ 7 ≤ y → y = 0 := by decide
      exact hk y hy.1 this hy.2
theorem mk0 : ∀ x, x < 16 → x = 0 ∨ 7 ≤ x → (mk x = nI 0 ↔ x = 0) := by decide
theorem mn1 (x : Nat) : okx (bin (tkT tp tz x)) := (bin_ok _).1
def FALS (P : mx_Pm) (d n : Nat) (tp : Nat → Nat) (tz : Nat) (Q : Option Value → mx_H → Prop) (s0 : mx_St) (R : mxO) (m : Nat) : Prop := ∀ (i o : Nat) (out : List Int32) (S : List Nat) (h : mx_H) (s : mx_St) (pc : Nat) (z1 : Option Value) (z2 : Option Value), pc = 5 ∨ pc = 19 → i + m = 200 → mA (tkT tp tz) m false i o out S = R → HR P h s → zf n s0 s → TX s n tp tz → LX s tp tz i → AT tp tz i → PSM s n o out S → okO2 o S → o ≤ 5 → out.length + S.length < i → wq d 160 pc [some (.ref 54), z1, z2] [] h Q
def TRUS (P : mx_Pm) (d n : Nat) (tp : Nat → Nat) (tz : Nat) (Q : Option Value → mx_H → Prop) (s0 : mx_St) (R : mxO) (m : Nat) : Prop := ∀ (i o : Nat) (out : List Int32) (S : List Nat) (h : mx_H) (s : mx_St) (z1 : Int32) (z2 : Option Value), i + m = 200 → mA (tkT tp tz) m true i o out S = R → HR P h s → zf n s0 s → TX s n tp tz → LX s tp tz i → AT tp tz i → PSM s n o out S → okO2 o S → o ≤ 5 → out.length + S.length < i → wq d 160 43 [some (.ref 54), some (.int z1), z2] [] h Q
theorem stl_o5 {r : Nat} (hr : 1 ≤ r) (hok : okO2 o S) (ho : o ≤ 5) : (stl r S o out).1 ≤ 5 ∧ (stl r S o out).2.2.length ≤ S.length := by
  induction S generalizing o out with
  | nil => exact ⟨ho, Nat.le_refl _⟩
  | cons x S ih =>
    rw [stl]
    by_cases g : 0 < rk x ∧ r ≤ rk x
    · rw [if_pos g]
      have hcn : cntO S + (if x = 0 ∨ x = 9 ∨ x = 15 then 1 else 0) = o := hok.2
      have hx0 : x ≠ 0 := fun e => by
        rw [e] at g
        exact absurd g.1 (by decide)
      have ho2 : okO2 (if x = 9 ∨ x = 15 then o - 1 else o) S := by
        refine ⟨fun y hy => hok.1 y (List.mem_cons_of_mem _ hy), ?_⟩
        by_cases q : x = 9 ∨ x = 15
        · rw [if_pos (show x = 0 ∨ x = 9 ∨ x = 15 from Or.inr q)] at hcn
          rw [if_pos q]
          omega
        · rw [if_neg (show ¬ (x = 0 ∨ x = 9 ∨ x = 15) from fun e => e.elim hx0 q)] at hcn
          rw [if_neg q]
          exact hcn
      obtain ⟨h1, h2⟩ := ih (out := out ++ [dc x]) ho2 (by split <;> omega)
      exact ⟨h1, Nat.le_trans h2 (Nat.le_succ _)⟩
    · rw [if_neg g]
      exact ⟨ho, Nat.le_refl _⟩

theorem m_isE1 {R : mxO} (hd : 4 ≤ d) (hl : 75 ≤ P.1) {s0 : mx_St} {m : Nat} (iht : TRUS P d n tp tz Q s0 R m) (him : i + (m + 1) = 200) (h1 : ¬ tkT tp tz i < -6) (hR : mA (tkT tp tz) m true (i + 1) (stl 7 S o (out ++ [tkT tp tz i])).1 (stl 7 S o (out ++ [tkT tp tz i])).2.1 (stl 7 S o (out ++ [tkT tp tz i])).2.2 = R) (H : HR P h s) (f : zf n s0 s) (hx : TX s n tp tz) (X : LX s tp tz i) (a : AT tp tz i) (ps : PSM s n o (out ++ [tkT tp tz i]) S) (hok : okO2 o S) (ho : o ≤ 5) (hlen : out.length + S.length < i) (z2 : Option Value) : wq d 160 10 [some (.ref 54), some (.int (nI 1)), z2] [] h Q := by
  have x3 := hx.2.2.1
  have hi := a.lt x3.1 (e_at h1)
  have hle : (out ++ [tkT tp tz i]).length = out.length + 1 := by rw [List.length_append]; rfl
  have so := stl_ok (r := 7) (by decide) S o (out ++ [tkT tp tz i]) hok
  have s5 := stl_o5 (r := 7) (out := out ++ [tkT tp tz i]) (by decide) hok ho
  refine q_iload_n (pc := 10) rfl rfl ?_
  refine q_iconst (pc := 11) rfl (nI 2) (by decide) ?_
  first | refine n_icmpne (pc := 12) rfl (by omega) (by omega) (fun h12 => ?_) (fun h12 => ?_) | refine q_icmpne (pc := 12) rfl (fun h12 => ?_) (fun h12 => ?_)
  · refine q_iload_n (pc := 27) rfl rfl ?_
    first | refine n_ifne (pc := 28) rfl (by omega) (fun h28 => ?_) (fun h28 => ?_) | refine q_ifne (pc := 28) rfl (fun h28 => ?_) (fun h28 => ?_)
    · refine q_aload_n (pc := 33) rfl rfl rfl ?_
      refine q_bipush (pc := 34) rfl (nI 7) (by decide) ?_
      refine q_callV (pc := 36) _ rfl rfl rfl (by exact HR.c H hl _ rfl) rfl (Nat.le_of_ble_eq_true rfl) (by omega) _ rfl ?_
      refine wc.go [_, _] rfl ?_
      refine m_settle (by omega) hl ⟨by decide, by decide⟩ S o (out ++ [tkT tp tz i]) h s s H hx yf.rf ps hok (by omega) (fun h s1 H f1 ps => ?_)
      have f2 := f.tr (yz f1)
      have hx := hx.fr f1.qf
      have X := X.yf f1
      refine q_aload_n (pc := 39) rfl rfl rfl ?_
      refine q_callV (pc := 40) _ rfl rfl rfl (by exact HR.c H hl _ rfl) rfl (Nat.le_of_ble_eq_true rfl) (by omega) _ rfl ?_
      refine m_nextT (by omega) H hl hx X a (e_at h1) (fun h s2 H f3 hx X a => ?_)
      exact iht (i + 1) _ _ _ h s2 (nI 1) z2 (by omega) hR H (f2.tr (xz f3)) hx X a (ps.fx f3) so.1 s5.1 (by omega)
    · first | (exfalso; omega) | exact absurd h28 (nI_pos (by omega)) | exact absurd (nI_pos' (by omega)) h28
  · first | (exfalso; omega) | exact absurd h12 (nI_pos (by omega)) | exact absurd (nI_pos' (by omega)) h12
theorem m_isE2 {R : mxO} (hd : 4 ≤ d) (hl : 75 ≤ P.1) {s0 : mx_St} {m x : Nat} (ihf : FALS P d n tp tz Q s0 R m) (him : i + (m + 1) = 200) (hE : ¬ isE (tkT tp tz i)) (hxo : okx x ∧ (x = 0 ∨ x = 9 ∨ x = 15)) (hR : mA (tkT tp tz) m false (i + 1) (o + 1) out (x :: S) = R) (H : HR P h s) (f : zf n s0 s) (hx : TX s n tp tz) (X : LX s tp tz i) (a : AT tp tz i) (ps : PSM s n (o + 1) out (x :: S)) (hok : okO2 o S) (ho : o < 5) (hlen : out.length + S.length < i) (z2 : Option Value) : wq d 160 10 [some (.ref 54), some (.int (nI 2)), z2] [] h Q := by
  refine q_iload_n (pc := 10) rfl rfl ?_
  refine q_iconst (pc := 11) rfl (nI 2) (by decide) ?_
  first | refine n_icmpne (pc := 12) rfl (by omega) (by omega) (fun h12 => ?_) (fun h12 => ?_) | refine q_icmpne (pc := 12) rfl (fun h12 => ?_) (fun h12 => ?_)
  · first | (exfalso; omega) | exact absurd h12 (nI_pos (by omega)) | exact absurd (nI_pos' (by omega)) h12
  · refine q_aload_n (pc := 15) rfl rfl rfl ?_
    refine q_callV (pc := 16) _ rfl rfl rfl (by exact HR.c H hl _ rfl) rfl (Nat.le_of_ble_eq_true rfl) (by omega) _ rfl ?_
    refine m_nextT (by omega) H hl hx X a hE (fun h s2 H f3 hx X a => ?_)
    refine ihf (i + 1) (o + 1) out (x :: S) h s2 19 _ z2 (Or.inr rfl) (by omega) hR H (f.tr (xz f3)) hx X a (ps.fx f3) ⟨fun y hy => ?_, ?_⟩ (by omega) (by show out.length + (S.length + 1) < i + 1; omega)
    · rcases List.mem_cons.mp hy with e | e
      · rw [e]; exact hxo.1
      · exact hok.1 y e
    · show cntO S + (if x = 0 ∨ x = 9 ∨ x = 15 then 1 else 0) = o + 1
      rw [if_pos hxo.2, hok.2]
theorem m_isE0 {R : mxO} {s0 : mx_St} (hl : 75 ≤ P.1) (kF : ∀ h' s' f, R = .inl f → HR P h' s' → zf n s0 s' → LX s' tp tz f → Q (some (.int 0)) h') (hR : .inl i = R) (H : HR P h s) (f : zf n s0 s) (X : LX s tp tz i) (z2 : Option Value) : wq d 160 10 [some (.ref 54), some (.int (nI 0)), z2] [] h Q := by
  refine q_iload_n (pc := 10) rfl rfl ?_
  refine q_iconst (pc := 11) rfl (nI 2) (by decide) ?_
  first | refine n_icmpne (pc := 12) rfl (by omega) (by omega) (fun h12 => ?_) (fun h12 => ?_) | refine q_icmpne (pc := 12) rfl (fun h12 => ?_) (fun h12 => ?_)
  · refine q_iload_n (pc := 27) rfl rfl ?_
    first | refine n_ifne (pc := 28) rfl (by omega) (fun h28 => ?_) (fun h28 => ?_) | refine q_ifne (pc := 28) rfl (fun h28 => ?_) (fun h28 => ?_)
    · first | (exfalso; omega) | exact absurd h28 (nI_pos (by omega)) | exact absurd (nI_pos' (by omega)) h28
    · refine q_iconst (pc := 31) rfl (nI 0) (by decide) ?_
      refine q_iret (pc := 32) rfl (rfl) ?_
      exact kF _ _ _ hR.symm H f X
  · first | (exfalso; omega) | exact absurd h12 (nI_pos (by omega)) | exact absurd (nI_pos' (by omega)) h12
theorem m_isEf {R : mxO} (hd : 5 ≤ d) (hl : 75 ≤ P.1) {s0 : mx_St} (kT : ∀ h' s' i' o' out', R = .inr (i', out') → HR P h' s' → zf n s0 s' → PSM s' n o' out' [] → okO2 o' [] → LX s' tp tz i' → AT tp tz i' → out'.length < i' → Q (some (.int 1)) h') (kF : ∀ h' s' f, R = .inl f → HR P h' s' → zf n s0 s' → LX s' tp tz f → Q (some (.int 0)) h') {m : Nat} (ihf : FALS P d n tp tz Q s0 R m) (iht : TRUS P d n tp tz Q s0 R m) : FALS P d n tp tz Q s0 R (m + 1) := by
  intro i o out S h s pc z1 z2 hpc him hR H f hx X a ps hok ho hlen
  have x3 := hx.2.2.1
  have hi := a.le x3.1
  have hT4 := a.2
  have hlt : out.length < 160 ∧ S.length < 160 := by omega
  rw [mA] at hR
  rcases hpc with rfl | rfl
  ·
    refine q_aload_n (pc := 5) rfl rfl rfl ?_
    refine q_callV (pc := 6) _ rfl rfl rfl (by exact HR.c H hl _ rfl) rfl (Nat.le_of_ble_eq_true rfl) (by omega) _ rfl ?_
    refine m_begin (by omega) H hl hx X hT4 ps hlt.1 hok ho hlt.2 (fun h1 h s1 H f1 ps1 => ?_) (fun h1 h2 h s1 H f1 ps1 => ?_) (fun h1 h2 => ?_)
    · rw [if_pos h1] at hR
      refine q_istore_n (pc := 9) [_, _, _] rfl (Nat.le_of_ble_eq_true rfl) rfl ?_
      first
      | (exact m_isE0 hl kF hR H f X _)
      | (exact m_isE1 (by omega) hl iht him h1 hR H (f.tr (yz f1)) (hx.fr f1.qf) (X.yf f1) a ps1 hok ho hlen _)
      | (exact m_isE2 (by omega) hl ihf him hE hxo hR H (f.tr (yz f1)) (hx.fr f1.qf) (X.yf f1) a ps1 hok h2.2 hlen _)
    · rw [if_neg (fun e => e h1), if_pos h2] at hR
      have hE : ¬ isE (tkT tp tz i) := e_op (h2.1.elim (fun e => Or.inl e) (fun e => e.elim (fun e => Or.inr (Or.inl e)) (fun e => Or.inr (Or.inr (Or.inl e.1)))))
      have hxo : okx (opD (tkT tp tz i)) ∧ (opD (tkT tp tz i) = 0 ∨ opD (tkT tp tz i) = 9 ∨ opD (tkT tp tz i) = 15) := by
        unfold opD okx
        (repeat' split) <;> decide
      refine q_istore_n (pc := 9) [_, _, _] rfl (Nat.le_of_ble_eq_true rfl) rfl ?_
      first
      | (exact m_isE0 hl kF hR H f X _)
      | (exact m_isE1 (by omega) hl iht him h1 hR H (f.tr (yz f1)) (hx.fr f1.qf) (X.yf f1) a ps1 hok ho hlen _)
      | (exact m_isE2 (by omega) hl ihf him hE hxo hR H (f.tr (yz f1)) (hx.fr f1.qf) (X.yf f1) a ps1 hok h2.2 hlen _)
    · rw [if_neg (fun e => e h1), if_neg h2] at hR
      refine q_istore_n (pc := 9) [_, _, _] rfl (Nat.le_of_ble_eq_true rfl) rfl ?_
      first
      | (exact m_isE0 hl kF hR H f X _)
      | (exact m_isE1 (by omega) hl iht him h1 hR H (f.tr (yz f1)) (hx.fr f1.qf) (X.yf f1) a ps1 hok ho hlen _)
      | (exact m_isE2 (by omega) hl ihf him hE hxo hR H (f.tr (yz f1)) (hx.fr f1.qf) (X.yf f1) a ps1 hok h2.2 hlen _)
  ·
    refine q_aload_n (pc := 19) rfl rfl rfl ?_
    refine q_callV (pc := 20) _ rfl rfl rfl (by exact HR.c H hl _ rfl) rfl (Nat.le_of_ble_eq_true rfl) (by omega) _ rfl ?_
    refine m_begin (by omega) H hl hx X hT4 ps hlt.1 hok ho hlt.2 (fun h1 h s1 H f1 ps1 => ?_) (fun h1 h2 h s1 H f1 ps1 => ?_) (fun h1 h2 => ?_)
    · rw [if_pos h1] at hR
      refine q_istore_n (pc := 23) [_, _, _] rfl (Nat.le_of_ble_eq_true rfl) rfl ?_
      refine q_goto (pc := 24) rfl ?_
      first
      | (exact m_isE0 hl kF hR H f X _)
      | (exact m_isE1 (by omega) hl iht him h1 hR H (f.tr (yz f1)) (hx.fr f1.qf) (X.yf f1) a ps1 hok ho hlen _)
      | (exact m_isE2 (by omega) hl ihf him hE hxo hR H (f.tr (yz f1)) (hx.fr f1.qf) (X.yf f1) a ps1 hok h2.2 hlen _)
    · rw [if_neg (fun e => e h1), if_pos h2] at hR
      have hE : ¬ isE (tkT tp tz i) := e_op (h2.1.elim (fun e => Or.inl e) (fun e => e.elim (fun e => Or.inr (Or.inl e)) (fun e => Or.inr (Or.inr (Or.inl e.1)))))
      have hxo : okx (opD (tkT tp tz i)) ∧ (opD (tkT tp tz i) = 0 ∨ opD (tkT tp tz i) = 9 ∨ opD (tkT tp tz i) = 15) := by
        unfold opD okx
        (repeat' split) <;> decide
      refine q_istore_n (pc := 23) [_, _, _] rfl (Nat.le_of_ble_eq_true rfl) rfl ?_
      refine q_goto (pc := 24) rfl ?_
      first
      | (exact m_isE0 hl kF hR H f X _)
      | (exact m_isE1 (by omega) hl iht him h1 hR H (f.tr (yz f1)) (hx.fr f1.qf) (X.yf f1) a ps1 hok ho hlen _)
      | (exact m_isE2 (by omega) hl ihf him hE hxo hR H (f.tr (yz f1)) (hx.fr f1.qf) (X.yf f1) a ps1 hok h2.2 hlen _)
    · rw [if_neg (fun e => e h1), if_neg h2] at hR
      refine q_istore_n (pc := 23) [_, _, _] rfl (Nat.le_of_ble_eq_true rfl) rfl ?_
      refine q_goto (pc := 24) rfl ?_
      first
      | (exact m_isE0 hl kF hR H f X _)
      | (exact m_isE1 (by omega) hl iht him h1 hR H (f.tr (yz f1)) (hx.fr f1.qf) (X.yf f1) a ps1 hok ho hlen _)
      | (exact m_isE2 (by omega) hl ihf him hE hxo hR H (f.tr (yz f1)) (hx.fr f1.qf) (X.yf f1) a ps1 hok h2.2 hlen _)
theorem m_settleC {r r' : Nat} (e : r' = r) (hd : 2 ≤ d) (hl : 75 ≤ P.1) (hr : 1 ≤ r ∧ r ≤ 7) (H : HR P h s) (hx : TX s n tp tz) (ps : PSM s n o out S) (hok : okO2 o S) (h160 : out.length + S.length ≤ 160) (kk : ∀ h' s', HR P h' s' → yf n s s' → PSM s' n (stl r S o out).1 (stl r S o out).2.1 (stl r S o out).2.2 → Q none h') : wc d 156 [.ref 54, .int (nI r')] h Q := by
  subst e
  refine wc.go [_, _] rfl ?_
  exact m_settle hd hl hr S o out h s s H hx yf.rf ps hok h160 kk
theorem rb_b {t : Int32} (h : bin t ≠ 0) : 1 ≤ rbn t ∧ rbn t ≤ 7 := by
  have e := bin_ok t
  have hk : ∀ y, y < 16 → 7 ≤ y → 1 ≤ (if rk y = 4 then 5 else rk y) ∧ (if rk y = 4 then 5 else rk y) ≤ 7 := by decide
  exact hk (bin t) e.1.1 (by have := e.1.2; omega)
theorem m_isEt {R : mxO} (hd : 5 ≤ d) (hl : 75 ≤ P.1) {s0 : mx_St} (kT : ∀ h' s' i' o' out', R = .inr (i', out') → HR P h' s' → zf n s0 s' → PSM s' n o' out' [] → okO2 o' [] → LX s' tp tz i' → AT tp tz i' → out'.length < i' → Q (some (.int 1)) h') (kF : ∀ h' s' f, R = .inl f → HR P h' s' → zf n s0 s' → LX s' tp tz f → Q (some (.int 0)) h') {m : Nat} (ihf : FALS P d n tp tz Q s0 R m) (iht : TRUS P d n tp tz Q s0 R m) : TRUS P d n tp tz Q s0 R (m + 1) := by
  intro i o out S h s z1 z2 him hR H f hx X a ps hok ho hlen
  have x3 := hx.2.2.1
  have hi := a.le x3.1
  have hT4 := a.2
  have h41 : sgP 41 (-17) := by unfold sgP; decide
  have so1 := stl_ok (r := 1) (by decide) S o out hok
  have s51 := stl_o5 (r := 1) (out := out) (by decide) hok ho
  rw [mA] at hR
  by_cases hg : tkT tp tz i = -17
  · rw [if_pos hg] at hR
    have hE : ¬ isE (tkT tp tz i) := e_op (Or.inr (Or.inr (Or.inr (Or.inl hg))))
    have hi2 := a.lt x3.1 hE
    cases hS1 : (stl 1 S o out).2.2 with
    | nil =>
      rw [hS1] at hR
      dsimp only at hR
      refine q_aload_n (pc := 43) rfl rfl rfl ?_
      refine q_bipush (pc := 44) rfl (nI 41) (by decide) ?_
      refine q_callV (pc := 46) _ rfl rfl rfl (by exact HR.c H hl _ rfl) rfl (Nat.le_of_ble_eq_true rfl) (by omega) _ rfl ?_
      refine m_isSign (c := 41) H hl hx X h41 (fun g17 => ?_) (fun g17 => ?_)
      · refine q_ifeq (pc := 49) rfl (fun z => absurd z (by decide)) (fun _ => ?_)
        refine q_aload_n (pc := 52) rfl rfl rfl ?_
        refine q_iconst (pc := 53) rfl (nI 1) (by decide) ?_
        refine q_callV (pc := 54) _ rfl rfl rfl (by exact HR.c H hl _ rfl) rfl (Nat.le_of_ble_eq_true rfl) (by omega) _ rfl ?_
        refine m_settleC rfl (by omega) hl ⟨by decide, by decide⟩ H hx ps hok (by omega) ?_
        intro h s1 H f1 ps1
        have f2 := f.tr (yz f1)
        have hx := hx.fr f1.qf
        have X := X.yf f1
        rw [hS1] at ps1
        have w1 : s1 54 16 = nI 0 := ps1.2.2.1
        refine q_aload_n (pc := 57) rfl rfl rfl ?_
        refine q_getf (pc := 58) rfl (by exact HR.c H hl _ rfl) rfl rfl ?_
        rw [w1]
        first | refine n_ifne (pc := 61) rfl (by omega) (fun h61 => ?_) (fun h61 => ?_) | refine q_ifne (pc := 61) rfl (fun h61 => ?_) (fun h61 => ?_)
        · first | (exfalso; omega) | exact absurd h61 (nI_pos (by omega)) | exact absurd (nI_pos' (by omega)) h61
        · refine q_iconst (pc := 64) rfl (nI 0) (by decide) ?_
          refine q_iret (pc := 65) rfl (rfl) ?_
          exact kF _ _ _ hR.symm H f2 X
      · exact absurd hg g17
    | cons x S2 =>
      have hx0 := stl_1e hok hS1
      rw [hS1] at hR so1 s51
      dsimp only at hR
      have hcn : cntO S2 + (if x = 0 ∨ x = 9 ∨ x = 15 then 1 else 0) = (stl 1 S o out).1 := so1.1.2
      rw [if_pos (Or.inl hx0)] at hcn
      have hl2 : (stl 1 S o out).2.1.length + (S2.length + 1) = out.length + S.length := so1.2
      have hok2 : okO2 ((stl 1 S o out).1 - 1) S2 := ⟨fun y hy => so1.1.1 y (List.mem_cons_of_mem _ hy), by omega⟩
      have so7 := stl_ok (r := 7) (by decide) S2 ((stl 1 S o out).1 - 1) (stl 1 S o out).2.1 hok2
      have s57 := stl_o5 (r := 7) (out := (stl 1 S o out).2.1) (by decide) hok2 (by omega)
      refine q_aload_n (pc := 43) rfl rfl rfl ?_
      refine q_bipush (pc := 44) rfl (nI 41) (by decide) ?_
      refine q_callV (pc := 46) _ rfl rfl rfl (by exact HR.c H hl _ rfl) rfl (Nat.le_of_ble_eq_true rfl) (by omega) _ rfl ?_
      refine m_isSign (c := 41) H hl hx X h41 (fun g17 => ?_) (fun g17 => ?_)
      · refine q_ifeq (pc := 49) rfl (fun z => absurd z (by decide)) (fun _ => ?_)
        refine q_aload_n (pc := 52) rfl rfl rfl ?_
        refine q_iconst (pc := 53) rfl (nI 1) (by decide) ?_
        refine q_callV (pc := 54) _ rfl rfl rfl (by exact HR.c H hl _ rfl) rfl (Nat.le_of_ble_eq_true rfl) (by omega) _ rfl ?_
        refine m_settleC rfl (by omega) hl ⟨by decide, by decide⟩ H hx ps hok (by omega) ?_
        intro h s1 H f1 ps1
        have f2 := f.tr (yz f1)
        have hx := hx.fr f1.qf
        have X := X.yf f1
        rw [hS1] at ps1
        have w1 : s1 54 16 = nI (S2.length + 1) := ps1.2.2.1
        refine q_aload_n (pc := 57) rfl rfl rfl ?_
        refine q_getf (pc := 58) rfl (by exact HR.c H hl _ rfl) rfl rfl ?_
        rw [w1]
        first | refine n_ifne (pc := 61) rfl (by omega) (fun h61 => ?_) (fun h61 => ?_) | refine q_ifne (pc := 61) rfl (fun h61 => ?_) (fun h61 => ?_)
        · refine q_aload_n (pc := 66) rfl rfl rfl ?_
          refine q_dup (pc := 67) rfl rfl ?_
          refine q_getf (pc := 68) rfl (by exact HR.c H hl _ rfl) rfl rfl ?_
          rw [w1]
          refine q_iconst (pc := 71) rfl (nI 1) (by decide) ?_
          first | refine n_isub (pc := 72) rfl (by omega) ?_ | refine q_isub (pc := 72) rfl ?_
          rw [show S2.length + 1 - 1 = S2.length from rfl]
          refine r_pf2 (pc := 73) (i := 16) rfl H hl rfl rfl rfl rfl (Nat.le_of_ble_eq_true rfl) rfl rfl ?_
          intro h H
          refine q_aload_n (pc := 76) rfl rfl rfl ?_
          refine q_dup (pc := 77) rfl rfl ?_
          refine q_getf (pc := 78) rfl (by exact HR.c H hl _ rfl) rfl rfl ?_
          rw [show stv s1 54 16 (nI S2.length) 54 9 = nI (stl 1 S o out).1 from (stv_o (by decide)).trans ps1.1]
          refine q_iconst (pc := 81) rfl (nI 1) (by decide) ?_
          first | refine n_isub (pc := 82) rfl (by omega) ?_ | refine q_isub (pc := 82) rfl ?_
          refine r_pf2 (pc := 83) (i := 9) rfl H hl rfl rfl rfl rfl (Nat.le_of_ble_eq_true rfl) rfl rfl ?_
          intro h H
          have f3 : yf n s1 (stv (stv s1 54 16 (nI S2.length)) 54 9 (nI ((stl 1 S o out).1 - 1))) := (yf.fd (Or.inr (Or.inr rfl))).tr (yf.fd (Or.inl rfl))
          have ps2 : PSM (stv (stv s1 54 16 (nI S2.length)) 54 9 (nI ((stl 1 S o out).1 - 1))) n ((stl 1 S o out).1 - 1) (stl 1 S o out).2.1 S2 := ⟨stv_a, (stv_o (by decide)).trans ((stv_o (by decide)).trans ps1.2.1), (stv_o (by decide)).trans stv_a, fun j hj => (congrFun ((stv_n (by decide)).trans (stv_n (by decide))) _).trans (ps1.2.2.2.1 j hj), WTA.cg ((stv_n (by decide)).trans (stv_n (by decide))) S2 ps1.2.2.2.2.2⟩
          have hx := hx.fr f3.qf
          have X := X.yf f3
          refine q_aload_n (pc := 86) rfl rfl rfl ?_
          refine q_bipush (pc := 87) rfl (nI 7) (by decide) ?_
          refine q_callV (pc := 89) _ rfl rfl rfl (by exact HR.c H hl _ rfl) rfl (Nat.le_of_ble_eq_true rfl) (by omega) _ rfl ?_
          refine m_settleC rfl (by omega) hl ⟨by decide, by decide⟩ H hx ps2 hok2 (by omega) ?_
          intro h s2 H f4 ps3
          have hx := hx.fr f4.qf
          have X := X.yf f4
          refine q_aload_n (pc := 92) rfl rfl rfl ?_
          refine q_callV (pc := 93) _ rfl rfl rfl (by exact HR.c H hl _ rfl) rfl (Nat.le_of_ble_eq_true rfl) (by omega) _ rfl ?_
          refine m_nextT (by omega) H hl hx X a hE (fun h s3 H f5 hx X a => ?_)
          refine q_goto (pc := 96) rfl ?_
          exact iht (i + 1) _ _ _ h s3 z1 z2 (by omega) hR H (((f2.tr (yz f3)).tr (yz f4)).tr (xz f5)) hx X a (ps3.fx f5) so7.1 s57.1 (by omega)
        · first | (exfalso; omega) | exact absurd h61 (nI_pos (by omega)) | exact absurd (nI_pos' (by omega)) h61
      · exact absurd hg g17
  · rw [if_neg hg] at hR
    by_cases hb : bin (tkT tp tz i) = 0
    · rw [if_neg (fun e => e hb)] at hR
      cases hS1 : (stl 1 S o out).2.2 with
      | nil =>
        rw [hS1] at hR so1
        dsimp only at hR
        refine q_aload_n (pc := 43) rfl rfl rfl ?_
        refine q_bipush (pc := 44) rfl (nI 41) (by decide) ?_
        refine q_callV (pc := 46) _ rfl rfl rfl (by exact HR.c H hl _ rfl) rfl (Nat.le_of_ble_eq_true rfl) (by omega) _ rfl ?_
        refine m_isSign (c := 41) H hl hx X h41 (fun g17 => ?_) (fun g17 => ?_)
        · exact absurd g17 hg
        · refine q_ifeq (pc := 49) rfl (fun _ => ?_) (fun z => absurd (by decide) z)
          refine q_aload_n (pc := 99) rfl rfl rfl ?_
          refine q_callV (pc := 100) _ rfl rfl rfl (by exact HR.c H hl _ rfl) rfl (Nat.le_of_ble_eq_true rfl) (by omega) _ rfl ?_
          refine m_between (by omega) H hl hx X hT4 ?_
          rw [hb, show mk 0 = nI 0 from by decide]
          refine q_istore_n (pc := 103) [_, _, _] rfl (Nat.le_of_ble_eq_true rfl) rfl ?_
          refine q_iload_n (pc := 104) rfl rfl ?_
          first | refine n_ifne (pc := 105) rfl (by omega) (fun h105 => ?_) (fun h105 => ?_) | refine q_ifne (pc := 105) rfl (fun h105 => ?_) (fun h105 => ?_)
          · first | (exfalso; omega) | exact absurd h105 (nI_pos (by omega)) | exact absurd (nI_pos' (by omega)) h105
          · refine q_aload_n (pc := 108) rfl rfl rfl ?_
            refine q_iconst (pc := 109) rfl (nI 1) (by decide) ?_
            refine q_callV (pc := 110) _ rfl rfl rfl (by exact HR.c H hl _ rfl) rfl (Nat.le_of_ble_eq_true rfl) (by omega) _ rfl ?_
            refine m_settleC rfl (by omega) hl ⟨by decide, by decide⟩ H hx ps hok (by omega) ?_
            intro h s1 H f1 ps1
            have f2 := f.tr (yz f1)
            have hx := hx.fr f1.qf
            have X := X.yf f1
            rw [hS1] at ps1
            have w1 : s1 54 16 = nI 0 := ps1.2.2.1
            refine q_aload_n (pc := 113) rfl rfl rfl ?_
            refine q_getf (pc := 114) rfl (by exact HR.c H hl _ rfl) rfl rfl ?_
            rw [w1]
            first | refine n_ifne (pc := 117) rfl (by omega) (fun h117 => ?_) (fun h117 => ?_) | refine q_ifne (pc := 117) rfl (fun h117 => ?_) (fun h117 => ?_)
            · first | (exfalso; omega) | exact absurd h117 (nI_pos (by omega)) | exact absurd (nI_pos' (by omega)) h117
            · refine q_iconst (pc := 120) rfl (nI 1) (by decide) ?_
              refine q_goto (pc := 121) rfl ?_
              refine q_iret (pc := 125) rfl (rfl) ?_
              exact kT _ _ _ _ _ hR.symm H f2 ps1 so1.1 X a (by have e := so1.2; have e2 : (stl 1 S o out).2.1.length + 0 = out.length + S.length := e; omega)
      | cons x S2 =>
        rw [hS1] at hR s51
        dsimp only at hR
        have hl3 : S2.length + 1 ≤ S.length := s51.2
        refine q_aload_n (pc := 43) rfl rfl rfl ?_
        refine q_bipush (pc := 44) rfl (nI 41) (by decide) ?_
        refine q_callV (pc := 46) _ rfl rfl rfl (by exact HR.c H hl _ rfl) rfl (Nat.le_of_ble_eq_true rfl) (by omega) _ rfl ?_
        refine m_isSign (c := 41) H hl hx X h41 (fun g17 => ?_) (fun g17 => ?_)
        · exact absurd g17 hg
        · refine q_ifeq (pc := 49) rfl (fun _ => ?_) (fun z => absurd (by decide) z)
          refine q_aload_n (pc := 99) rfl rfl rfl ?_
          refine q_callV (pc := 100) _ rfl rfl rfl (by exact HR.c H hl _ rfl) rfl (Nat.le_of_ble_eq_true rfl) (by omega) _ rfl ?_
          refine m_between (by omega) H hl hx X hT4 ?_
          rw [hb, show mk 0 = nI 0 from by decide]
          refine q_istore_n (pc := 103) [_, _, _] rfl (Nat.le_of_ble_eq_true rfl) rfl ?_
          refine q_iload_n (pc := 104) rfl rfl ?_
          first | refine n_ifne (pc := 105) rfl (by omega) (fun h105 => ?_) (fun h105 => ?_) | refine q_ifne (pc := 105) rfl (fun h105 => ?_) (fun h105 => ?_)
          · first | (exfalso; omega) | exact absurd h105 (nI_pos (by omega)) | exact absurd (nI_pos' (by omega)) h105
          · refine q_aload_n (pc := 108) rfl rfl rfl ?_
            refine q_iconst (pc := 109) rfl (nI 1) (by decide) ?_
            refine q_callV (pc := 110) _ rfl rfl rfl (by exact HR.c H hl _ rfl) rfl (Nat.le_of_ble_eq_true rfl) (by omega) _ rfl ?_
            refine m_settleC rfl (by omega) hl ⟨by decide, by decide⟩ H hx ps hok (by omega) ?_
            intro h s1 H f1 ps1
            have f2 := f.tr (yz f1)
            have hx := hx.fr f1.qf
            have X := X.yf f1
            rw [hS1] at ps1
            have w1 : s1 54 16 = nI (S2.length + 1) := ps1.2.2.1
            refine q_aload_n (pc := 113) rfl rfl rfl ?_
            refine q_getf (pc := 114) rfl (by exact HR.c H hl _ rfl) rfl rfl ?_
            rw [w1]
            first | refine n_ifne (pc := 117) rfl (by omega) (fun h117 => ?_) (fun h117 => ?_) | refine q_ifne (pc := 117) rfl (fun h117 => ?_) (fun h117 => ?_)
            · refine q_iconst (pc := 124) rfl (nI 0) (by decide) ?_
              refine q_iret (pc := 125) rfl (rfl) ?_
              exact kF _ _ _ hR.symm H f2 X
            · first | (exfalso; omega) | exact absurd h117 (nI_pos (by omega)) | exact absurd (nI_pos' (by omega)) h117
    · rw [if_pos hb] at hR
      have hE := e_bin hb
      have hi2 := a.lt x3.1 hE
      have rb := rb_b hb
      have bo := mn1 (tp := tp) (tz := tz) i
      have rb7 := rk_le (bin (tkT tp tz i))
      have so := stl_ok (r := rbn (tkT tp tz i)) rb.1 S o out hok
      have s5 := stl_o5 (r := rbn (tkT tp tz i)) (out := out) rb.1 hok ho
      have lr7 := lr_le (stl (rbn (tkT tp tz i)) S o out).2.2
      by_cases h4 : rk (bin (tkT tp tz i)) = 4 ∧ lr (stl (rbn (tkT tp tz i)) S o out).2.2 = 4
      · rw [if_pos h4] at hR
        refine q_aload_n (pc := 43) rfl rfl rfl ?_
        refine q_bipush (pc := 44) rfl (nI 41) (by decide) ?_
        refine q_callV (pc := 46) _ rfl rfl rfl (by exact HR.c H hl _ rfl) rfl (Nat.le_of_ble_eq_true rfl) (by omega) _ rfl ?_
        refine m_isSign (c := 41) H hl hx X h41 (fun g17 => ?_) (fun g17 => ?_)
        · exact absurd g17 hg
        · refine q_ifeq (pc := 49) rfl (fun _ => ?_) (fun z => absurd (by decide) z)
          refine q_aload_n (pc := 99) rfl rfl rfl ?_
          refine q_callV (pc := 100) _ rfl rfl rfl (by exact HR.c H hl _ rfl) rfl (Nat.le_of_ble_eq_true rfl) (by omega) _ rfl ?_
          refine m_between (by omega) H hl hx X hT4 ?_
          refine q_istore_n (pc := 103) [_, _, _] rfl (Nat.le_of_ble_eq_true rfl) rfl ?_
          refine q_iload_n (pc := 104) rfl rfl ?_
          refine q_ifne (pc := 105) rfl (fun h105 => ?_) (fun h105 => ?_)
          · first
            | (exfalso; omega (config := {splitDisjunctions := false}))
            | exact absurd rfl h105
            | skip
              refine q_aload_n (pc := 126) rfl rfl rfl ?_
              refine q_iload_n (pc := 127) rfl rfl ?_
              refine q_callS (pc := 128) _ (by decide) rfl rfl rfl rfl (Nat.le_of_ble_eq_true rfl) (by omega) _ rfl ?_
              refine m_rank bo ?_
              refine q_iconst (pc := 131) rfl (nI 4) (by decide) ?_
              first | refine n_icmpne (pc := 132) rfl (by omega) (by omega) (fun h132 => ?_) (fun h132 => ?_) | refine q_icmpne (pc := 132) rfl (fun h132 => ?_) (fun h132 => ?_)
              · have er : rk (bin (tkT tp tz i)) = rbn (tkT tp tz i) := by
                  unfold rbn
                  rw [if_neg (by omega)]
                first
                | (exfalso; omega (config := {splitDisjunctions := false}))
                | exact absurd rfl h132
                | skip
                  refine q_iload_n (pc := 139) rfl rfl ?_
                  refine q_callS (pc := 140) _ (by decide) rfl rfl rfl rfl (Nat.le_of_ble_eq_true rfl) (by omega) _ rfl ?_
                  refine m_rank bo ?_
                  refine q_callV (pc := 143) _ rfl rfl rfl (by exact HR.c H hl _ rfl) rfl (Nat.le_of_ble_eq_true rfl) (by omega) _ rfl ?_
                  refine m_settleC er (by omega) hl rb H hx ps hok (by omega) ?_
                  intro h s1 H f1 ps1
                  have f2 := f.tr (yz f1)
                  have hx := hx.fr f1.qf
                  have X := X.yf f1
                  refine q_iload_n (pc := 146) rfl rfl ?_
                  refine q_callS (pc := 147) _ (by decide) rfl rfl rfl rfl (Nat.le_of_ble_eq_true rfl) (by omega) _ rfl ?_
                  refine m_rank bo ?_
                  refine q_iconst (pc := 150) rfl (nI 4) (by decide) ?_
                  first | refine n_icmpne (pc := 151) rfl (by omega) (by omega) (fun h151 => ?_) (fun h151 => ?_) | refine q_icmpne (pc := 151) rfl (fun h151 => ?_) (fun h151 => ?_)
                  · first
                    | (exfalso; omega (config := {splitDisjunctions := false}))
                    | exact absurd rfl h151
                    | skip
                      omega
                  · first
                    | (exfalso; omega (config := {splitDisjunctions := false}))
                    | exact absurd rfl h151
                    | skip
                      refine q_aload_n (pc := 154) rfl rfl rfl ?_
                      refine q_callV (pc := 155) _ rfl rfl rfl (by exact HR.c H hl _ rfl) rfl (Nat.le_of_ble_eq_true rfl) (by omega) _ rfl ?_
                      refine m_last (by omega) H hl ps1 so.1.1 (by omega) ?_
                      refine q_iconst (pc := 158) rfl (nI 4) (by decide) ?_
                      first | refine n_icmpne (pc := 159) rfl (by omega) (by omega) (fun h159 => ?_) (fun h159 => ?_) | refine q_icmpne (pc := 159) rfl (fun h159 => ?_) (fun h159 => ?_)
                      · first
                        | (exfalso; omega (config := {splitDisjunctions := false}))
                        | exact absurd rfl h159
                        | skip
                          omega
                      · first
                        | (exfalso; omega (config := {splitDisjunctions := false}))
                        | exact absurd rfl h159
                        | skip
                          refine q_iconst (pc := 162) rfl (nI 0) (by decide) ?_
                          refine q_iret (pc := 163) rfl (rfl) ?_
                          exact kF _ _ _ hR.symm H f2 X
              · have er : 5 = rbn (tkT tp tz i) := by
                  unfold rbn
                  rw [if_pos (by omega)]
                first
                | (exfalso; omega (config := {splitDisjunctions := false}))
                | exact absurd rfl h132
                | skip
                  refine q_iconst (pc := 135) rfl (nI 5) (by decide) ?_
                  refine q_goto (pc := 136) rfl ?_
                  refine q_callV (pc := 143) _ rfl rfl rfl (by exact HR.c H hl _ rfl) rfl (Nat.le_of_ble_eq_true rfl) (by omega) _ rfl ?_
                  refine m_settleC er (by omega) hl rb H hx ps hok (by omega) ?_
                  intro h s1 H f1 ps1
                  have f2 := f.tr (yz f1)
                  have hx := hx.fr f1.qf
                  have X := X.yf f1
                  refine q_iload_n (pc := 146) rfl rfl ?_
                  refine q_callS (pc := 147) _ (by decide) rfl rfl rfl rfl (Nat.le_of_ble_eq_true rfl) (by omega) _ rfl ?_
                  refine m_rank bo ?_
                  refine q_iconst (pc := 150) rfl (nI 4) (by decide) ?_
                  first | refine n_icmpne (pc := 151) rfl (by omega) (by omega) (fun h151 => ?_) (fun h151 => ?_) | refine q_icmpne (pc := 151) rfl (fun h151 => ?_) (fun h151 => ?_)
                  · first
                    | (exfalso; omega (config := {splitDisjunctions := false}))
                    | exact absurd rfl h151
                    | skip
                      omega
                  · first
                    | (exfalso; omega (config := {splitDisjunctions := false}))
                    | exact absurd rfl h151
                    | skip
                      refine q_aload_n (pc := 154) rfl rfl rfl ?_
                      refine q_callV (pc := 155) _ rfl rfl rfl (by exact HR.c H hl _ rfl) rfl (Nat.le_of_ble_eq_true rfl) (by omega) _ rfl ?_
                      refine m_last (by omega) H hl ps1 so.1.1 (by omega) ?_
                      refine q_iconst (pc := 158) rfl (nI 4) (by decide) ?_
                      first | refine n_icmpne (pc := 159) rfl (by omega) (by omega) (fun h159 => ?_) (fun h159 => ?_) | refine q_icmpne (pc := 159) rfl (fun h159 => ?_) (fun h159 => ?_)
                      · first
                        | (exfalso; omega (config := {splitDisjunctions := false}))
                        | exact absurd rfl h159
                        | skip
                          omega
                      · first
                        | (exfalso; omega (config := {splitDisjunctions := false}))
                        | exact absurd rfl h159
                        | skip
                          refine q_iconst (pc := 162) rfl (nI 0) (by decide) ?_
                          refine q_iret (pc := 163) rfl (rfl) ?_
                          exact kF _ _ _ hR.symm H f2 X
          · exact absurd ((mk0 _ bo.1 bo.2).mp h105) hb
      · rw [if_neg h4] at hR
        refine q_aload_n (pc := 43) rfl rfl rfl ?_
        refine q_bipush (pc := 44) rfl (nI 41) (by decide) ?_
        refine q_callV (pc := 46) _ rfl rfl rfl (by exact HR.c H hl _ rfl) rfl (Nat.le_of_ble_eq_true rfl) (by omega) _ rfl ?_
        refine m_isSign (c := 41) H hl hx X h41 (fun g17 => ?_) (fun g17 => ?_)
        · exact absurd g17 hg
        · refine q_ifeq (pc := 49) rfl (fun _ => ?_) (fun z => absurd (by decide) z)
          refine q_aload_n (pc := 99) rfl rfl rfl ?_
          refine q_callV (pc := 100) _ rfl rfl rfl (by exact HR.c H hl _ rfl) rfl (Nat.le_of_ble_eq_true rfl) (by omega) _ rfl ?_
          refine m_between (by omega) H hl hx X hT4 ?_
          refine q_istore_n (pc := 103) [_, _, _] rfl (Nat.le_of_ble_eq_true rfl) rfl ?_
          refine q_iload_n (pc := 104) rfl rfl ?_
          refine q_ifne (pc := 105) rfl (fun h105 => ?_) (fun h105 => ?_)
          · first
            | (exfalso; omega (config := {splitDisjunctions := false}))
            | exact absurd rfl h105
            | skip
              refine q_aload_n (pc := 126) rfl rfl rfl ?_
              refine q_iload_n (pc := 127) rfl rfl ?_
              refine q_callS (pc := 128) _ (by decide) rfl rfl rfl rfl (Nat.le_of_ble_eq_true rfl) (by omega) _ rfl ?_
              refine m_rank bo ?_
              refine q_iconst (pc := 131) rfl (nI 4) (by decide) ?_
              first | refine n_icmpne (pc := 132) rfl (by omega) (by omega) (fun h132 => ?_) (fun h132 => ?_) | refine q_icmpne (pc := 132) rfl (fun h132 => ?_) (fun h132 => ?_)
              · have er : rk (bin (tkT tp tz i)) = rbn (tkT tp tz i) := by
                  unfold rbn
                  rw [if_neg (by omega)]
                first
                | (exfalso; omega (config := {splitDisjunctions := false}))
                | exact absurd rfl h132
                | skip
                  refine q_iload_n (pc := 139) rfl rfl ?_
                  refine q_callS (pc := 140) _ (by decide) rfl rfl rfl rfl (Nat.le_of_ble_eq_true rfl) (by omega) _ rfl ?_
                  refine m_rank bo ?_
                  refine q_callV (pc := 143) _ rfl rfl rfl (by exact HR.c H hl _ rfl) rfl (Nat.le_of_ble_eq_true rfl) (by omega) _ rfl ?_
                  refine m_settleC er (by omega) hl rb H hx ps hok (by omega) ?_
                  intro h s1 H f1 ps1
                  have f2 := f.tr (yz f1)
                  have hx := hx.fr f1.qf
                  have X := X.yf f1
                  refine q_iload_n (pc := 146) rfl rfl ?_
                  refine q_callS (pc := 147) _ (by decide) rfl rfl rfl rfl (Nat.le_of_ble_eq_true rfl) (by omega) _ rfl ?_
                  refine m_rank bo ?_
                  refine q_iconst (pc := 150) rfl (nI 4) (by decide) ?_
                  first | refine n_icmpne (pc := 151) rfl (by omega) (by omega) (fun h151 => ?_) (fun h151 => ?_) | refine q_icmpne (pc := 151) rfl (fun h151 => ?_) (fun h151 => ?_)
                  · first
                    | (exfalso; omega (config := {splitDisjunctions := false}))
                    | exact absurd rfl h151
                    | skip
                      refine q_aload_n (pc := 164) rfl rfl rfl ?_
                      refine q_iload_n (pc := 165) rfl rfl ?_
                      refine q_callV (pc := 166) _ rfl rfl rfl (by exact HR.c H hl _ rfl) rfl (Nat.le_of_ble_eq_true rfl) (by omega) _ rfl ?_
                      refine m_await H hl ps1 (by omega) ?_
                      intro h s2 H f3 ps2
                      have hx := hx.fr f3.qf
                      have X := X.yf f3
                      refine q_aload_n (pc := 169) rfl rfl rfl ?_
                      refine q_callV (pc := 170) _ rfl rfl rfl (by exact HR.c H hl _ rfl) rfl (Nat.le_of_ble_eq_true rfl) (by omega) _ rfl ?_
                      refine m_nextT (by omega) H hl hx X a hE (fun h s3 H f5 hx X a => ?_)
                      refine q_goto (pc := 173) rfl ?_
                      refine ihf (i + 1) _ _ _ h s3 5 _ _ (Or.inl rfl) (by omega) hR H ((f2.tr (yz f3)).tr (xz f5)) hx X a (ps2.fx f5) ⟨fun y hy => ?_, ?_⟩ s5.1 (by show (stl (rbn (tkT tp tz i)) S o out).2.1.length + ((stl (rbn (tkT tp tz i)) S o out).2.2.length + 1) < i + 1; omega)
                      · rcases List.mem_cons.mp hy with e | e
                        · rw [e]; exact bo
                        · exact so.1.1 y e
                      · show cntO (stl (rbn (tkT tp tz i)) S o out).2.2 + (if bin (tkT tp tz i) = 0 ∨ bin (tkT tp tz i) = 9 ∨ bin (tkT tp tz i) = 15 then 1 else 0) = _
                        rw [if_neg (by have := (bin_ok (tkT tp tz i)).2; omega)]
                        exact so.1.2
                  · first
                    | (exfalso; omega (config := {splitDisjunctions := false}))
                    | exact absurd rfl h151
                    | skip
                      refine q_aload_n (pc := 154) rfl rfl rfl ?_
                      refine q_callV (pc := 155) _ rfl rfl rfl (by exact HR.c H hl _ rfl) rfl (Nat.le_of_ble_eq_true rfl) (by omega) _ rfl ?_
                      refine m_last (by omega) H hl ps1 so.1.1 (by omega) ?_
                      refine q_iconst (pc := 158) rfl (nI 4) (by decide) ?_
                      first | refine n_icmpne (pc := 159) rfl (by omega) (by omega) (fun h159 => ?_) (fun h159 => ?_) | refine q_icmpne (pc := 159) rfl (fun h159 => ?_) (fun h159 => ?_)
                      · first
                        | (exfalso; omega (config := {splitDisjunctions := false}))
                        | exact absurd rfl h159
                        | skip
                          refine q_aload_n (pc := 164) rfl rfl rfl ?_
                          refine q_iload_n (pc := 165) rfl rfl ?_
                          refine q_callV (pc := 166) _ rfl rfl rfl (by exact HR.c H hl _ rfl) rfl (Nat.le_of_ble_eq_true rfl) (by omega) _ rfl ?_
                          refine m_await H hl ps1 (by omega) ?_
                          intro h s2 H f3 ps2
                          have hx := hx.fr f3.qf
                          have X := X.yf f3
                          refine q_aload_n (pc := 169) rfl rfl rfl ?_
                          refine q_callV (pc := 170) _ rfl rfl rfl (by exact HR.c H hl _ rfl) rfl (Nat.le_of_ble_eq_true rfl) (by omega) _ rfl ?_
                          refine m_nextT (by omega) H hl hx X a hE (fun h s3 H f5 hx X a => ?_)
                          refine q_goto (pc := 173) rfl ?_
                          refine ihf (i + 1) _ _ _ h s3 5 _ _ (Or.inl rfl) (by omega) hR H ((f2.tr (yz f3)).tr (xz f5)) hx X a (ps2.fx f5) ⟨fun y hy => ?_, ?_⟩ s5.1 (by show (stl (rbn (tkT tp tz i)) S o out).2.1.length + ((stl (rbn (tkT tp tz i)) S o out).2.2.length + 1) < i + 1; omega)
                          · rcases List.mem_cons.mp hy with e | e
                            · rw [e]; exact bo
                            · exact so.1.1 y e
                          · show cntO (stl (rbn (tkT tp tz i)) S o out).2.2 + (if bin (tkT tp tz i) = 0 ∨ bin (tkT tp tz i) = 9 ∨ bin (tkT tp tz i) = 15 then 1 else 0) = _
                            rw [if_neg (by have := (bin_ok (tkT tp tz i)).2; omega)]
                            exact so.1.2
                      · first
                        | (exfalso; omega (config := {splitDisjunctions := false}))
                        | exact absurd rfl h159
                        | skip
                          refine q_iconst (pc := 162) rfl (nI 0) (by decide) ?_
                          refine q_iret (pc := 163) rfl (rfl) ?_
                          omega
              · have er : 5 = rbn (tkT tp tz i) := by
                  unfold rbn
                  rw [if_pos (by omega)]
                first
                | (exfalso; omega (config := {splitDisjunctions := false}))
                | exact absurd rfl h132
                | skip
                  refine q_iconst (pc := 135) rfl (nI 5) (by decide) ?_
                  refine q_goto (pc := 136) rfl ?_
                  refine q_callV (pc := 143) _ rfl rfl rfl (by exact HR.c H hl _ rfl) rfl (Nat.le_of_ble_eq_true rfl) (by omega) _ rfl ?_
                  refine m_settleC er (by omega) hl rb H hx ps hok (by omega) ?_
                  intro h s1 H f1 ps1
                  have f2 := f.tr (yz f1)
                  have hx := hx.fr f1.qf
                  have X := X.yf f1
                  refine q_iload_n (pc := 146) rfl rfl ?_
                  refine q_callS (pc := 147) _ (by decide) rfl rfl rfl rfl (Nat.le_of_ble_eq_true rfl) (by omega) _ rfl ?_
                  refine m_rank bo ?_
                  refine q_iconst (pc := 150) rfl (nI 4) (by decide) ?_
                  first | refine n_icmpne (pc := 151) rfl (by omega) (by omega) (fun h151 => ?_) (fun h151 => ?_) | refine q_icmpne (pc := 151) rfl (fun h151 => ?_) (fun h151 => ?_)
                  · first
                    | (exfalso; omega (config := {splitDisjunctions := false}))
                    | exact absurd rfl h151
                    | skip
                      refine q_aload_n (pc := 164) rfl rfl rfl ?_
                      refine q_iload_n (pc := 165) rfl rfl ?_
                      refine q_callV (pc := 166) _ rfl rfl rfl (by exact HR.c H hl _ rfl) rfl (Nat.le_of_ble_eq_true rfl) (by omega) _ rfl ?_
                      refine m_await H hl ps1 (by omega) ?_
                      intro h s2 H f3 ps2
                      have hx := hx.fr f3.qf
                      have X := X.yf f3
                      refine q_aload_n (pc := 169) rfl rfl rfl ?_
                      refine q_callV (pc := 170) _ rfl rfl rfl (by exact HR.c H hl _ rfl) rfl (Nat.le_of_ble_eq_true rfl) (by omega) _ rfl ?_
                      refine m_nextT (by omega) H hl hx X a hE (fun h s3 H f5 hx X a => ?_)
                      refine q_goto (pc := 173) rfl ?_
                      refine ihf (i + 1) _ _ _ h s3 5 _ _ (Or.inl rfl) (by omega) hR H ((f2.tr (yz f3)).tr (xz f5)) hx X a (ps2.fx f5) ⟨fun y hy => ?_, ?_⟩ s5.1 (by show (stl (rbn (tkT tp tz i)) S o out).2.1.length + ((stl (rbn (tkT tp tz i)) S o out).2.2.length + 1) < i + 1; omega)
                      · rcases List.mem_cons.mp hy with e | e
                        · rw [e]; exact bo
                        · exact so.1.1 y e
                      · show cntO (stl (rbn (tkT tp tz i)) S o out).2.2 + (if bin (tkT tp tz i) = 0 ∨ bin (tkT tp tz i) = 9 ∨ bin (tkT tp tz i) = 15 then 1 else 0) = _
                        rw [if_neg (by have := (bin_ok (tkT tp tz i)).2; omega)]
                        exact so.1.2
                  · first
                    | (exfalso; omega (config := {splitDisjunctions := false}))
                    | exact absurd rfl h151
                    | skip
                      refine q_aload_n (pc := 154) rfl rfl rfl ?_
                      refine q_callV (pc := 155) _ rfl rfl rfl (by exact HR.c H hl _ rfl) rfl (Nat.le_of_ble_eq_true rfl) (by omega) _ rfl ?_
                      refine m_last (by omega) H hl ps1 so.1.1 (by omega) ?_
                      refine q_iconst (pc := 158) rfl (nI 4) (by decide) ?_
                      first | refine n_icmpne (pc := 159) rfl (by omega) (by omega) (fun h159 => ?_) (fun h159 => ?_) | refine q_icmpne (pc := 159) rfl (fun h159 => ?_) (fun h159 => ?_)
                      · first
                        | (exfalso; omega (config := {splitDisjunctions := false}))
                        | exact absurd rfl h159
                        | skip
                          refine q_aload_n (pc := 164) rfl rfl rfl ?_
                          refine q_iload_n (pc := 165) rfl rfl ?_
                          refine q_callV (pc := 166) _ rfl rfl rfl (by exact HR.c H hl _ rfl) rfl (Nat.le_of_ble_eq_true rfl) (by omega) _ rfl ?_
                          refine m_await H hl ps1 (by omega) ?_
                          intro h s2 H f3 ps2
                          have hx := hx.fr f3.qf
                          have X := X.yf f3
                          refine q_aload_n (pc := 169) rfl rfl rfl ?_
                          refine q_callV (pc := 170) _ rfl rfl rfl (by exact HR.c H hl _ rfl) rfl (Nat.le_of_ble_eq_true rfl) (by omega) _ rfl ?_
                          refine m_nextT (by omega) H hl hx X a hE (fun h s3 H f5 hx X a => ?_)
                          refine q_goto (pc := 173) rfl ?_
                          refine ihf (i + 1) _ _ _ h s3 5 _ _ (Or.inl rfl) (by omega) hR H ((f2.tr (yz f3)).tr (xz f5)) hx X a (ps2.fx f5) ⟨fun y hy => ?_, ?_⟩ s5.1 (by show (stl (rbn (tkT tp tz i)) S o out).2.1.length + ((stl (rbn (tkT tp tz i)) S o out).2.2.length + 1) < i + 1; omega)
                          · rcases List.mem_cons.mp hy with e | e
                            · rw [e]; exact bo
                            · exact so.1.1 y e
                          · show cntO (stl (rbn (tkT tp tz i)) S o out).2.2 + (if bin (tkT tp tz i) = 0 ∨ bin (tkT tp tz i) = 9 ∨ bin (tkT tp tz i) = 15 then 1 else 0) = _
                            rw [if_neg (by have := (bin_ok (tkT tp tz i)).2; omega)]
                            exact so.1.2
                      · first
                        | (exfalso; omega (config := {splitDisjunctions := false}))
                        | exact absurd rfl h159
                        | skip
                          refine q_iconst (pc := 162) rfl (nI 0) (by decide) ?_
                          refine q_iret (pc := 163) rfl (rfl) ?_
                          omega
          · exact absurd ((mk0 _ bo.1 bo.2).mp h105) hb
theorem m_all {R : mxO} (hd : 5 ≤ d) (hl : 75 ≤ P.1) {s0 : mx_St} (kT : ∀ h' s' i' o' out', R = .inr (i', out') → HR P h' s' → zf n s0 s' → PSM s' n o' out' [] → okO2 o' [] → LX s' tp tz i' → AT tp tz i' → out'.length < i' → Q (some (.int 1)) h') (kF : ∀ h' s' f, R = .inl f → HR P h' s' → zf n s0 s' → LX s' tp tz f → Q (some (.int 0)) h') : ∀ m, FALS P d n tp tz Q s0 R m ∧ TRUS P d n tp tz Q s0 R m := by
  intro m
  induction m with
  | zero =>
    constructor
    · intro i o out S h s pc z1 z2 hpc him hR H f hx X a
      have := a.le hx.2.2.1.1
      omega
    · intro i o out S h s z1 z2 him hR H f hx X a
      have := a.le hx.2.2.1.1
      omega
  | succ m ih => exact ⟨m_isEf hd hl kT kF ih.1 ih.2, m_isEt hd hl kT kF ih.1 ih.2⟩
theorem m_isE (hd : 5 ≤ d) (H : HR P h s) (hl : 75 ≤ P.1) (hx : TX s n tp tz) (X : LX s tp tz i) (a : AT tp tz i) (e9 : s 54 9 = nI 0) (e13 : s 54 13 = nI out.length) (ec : ∀ j, j < out.length → s 59 (160 * n + j) = mc (out.getD j 0)) (hlen : out.length < i) (kT : ∀ h' s' i' o' out', mA (tkT tp tz) (200 - i) false i 0 out [] = .inr (i', out') → HR P h' s' → zf n s s' → PSM s' n o' out' [] → okO2 o' [] → LX s' tp tz i' → AT tp tz i' → out'.length < i' → Q (some (.int 1)) h') (kF : ∀ h' s' f, mA (tkT tp tz) (200 - i) false i 0 out [] = .inl f → HR P h' s' → zf n s s' → LX s' tp tz f → Q (some (.int 0)) h') : wc d 160 [.ref 54] h Q := by
  have hi := a.le hx.2.2.1.1
  refine wc.go [_, _, _] rfl ?_
  refine q_aload_n (pc := 0) rfl rfl rfl ?_
  refine q_iconst (pc := 1) rfl (nI 0) (by decide) ?_
  refine r_pf2 (pc := 2) (i := 16) rfl H hl rfl rfl rfl rfl (Nat.le_of_ble_eq_true rfl) rfl rfl ?_
  intro h H
  have f0 : yf n s (stv s 54 16 (nI 0)) := yf.fd (Or.inr (Or.inr rfl))
  exact (m_all hd hl kT kF (200 - i)).1 i 0 out [] h _ 5 _ _ (Or.inl rfl) (by omega) rfl H (yz f0) (hx.fr f0.qf) (X.yf f0) a ⟨(stv_o (by decide)).trans e9, (stv_o (by decide)).trans e13, stv_a, fun j hj => (congrFun (stv_n (by decide)) _).trans (ec j hj), trivial⟩ ⟨fun x hx => absurd hx (List.not_mem_nil), rfl⟩ (by omega) (by show out.length + 0 < i; omega)
end P68
