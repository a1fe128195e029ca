/-! ===== the class's parser: a ONE, not, all levels ===== -/
section P43
variable {d k pc a i j c p b t n m part q : Nat} {v : Int} {L L' : mx_L} {st r : List Value} {P : mx_Pm} {h : mx_H} {s : mx_St} {Q : Option Value → mx_H → Prop} {x y w z u : Int32} {β κ : Nat → Nat} {C : Nat → Nat → Int32} {E : Nat → Nat → Nat} {ik tz : Nat} {tp : Nat → Nat} {σ : Nat → Int32} {sz : Nat → Nat} {cl : Nat → Nat → Int32}
variable {T : Nat → Int32} {pl : Nat → Nat} {f M : Nat} {out seg : List Int32} {t : Int32}
def condS (T : Nat → Int32) (i : Nat) (S : List Nat) : Prop := T i ≠ -9 ∨ 3 < lr S
def cond4 (T : Nat → Int32) (i : Nat) (S : List Nat) : Prop := lr S < 6 ∧ condS T i S
def cond3 (T : Nat → Int32) (i : Nat) (S : List Nat) : Prop := lr S < 5 ∧ condS T i S
def condN (S : List Nat) : Prop := lr S ≤ 3
def cond1 (S : List Nat) : Prop := lr S ≤ 1
def cond0 (S : List Nat) : Prop := lr S = 0
def bad5 (_ : Int32) : Prop := False
def bad4 (t : Int32) : Prop := lvI t = nI 4
def bad3 (t : Int32) : Prop := lvI t = nI 4 ∨ lvI t = nI 3
def bad1 (t : Int32) : Prop := (lvI t = nI 4 ∨ lvI t = nI 3) ∨ lvI t = nI 1
def bad0 (t : Int32) : Prop := ((lvI t = nI 4 ∨ lvI t = nI 3) ∨ lvI t = nI 1) ∨ lvI t = nI 0
theorem lv_4 (h : lvI t = nI 4) : t = -14 := by
  by_cases hx : t.toInt < -14 ∨ -7 < t.toInt
  · rw [lv_out hx] at h
    exact absurd h (by decide)
  · rcases x_lv hx with rfl | rfl | rfl | rfl | rfl | rfl | rfl | rfl <;> first | rfl | exact absurd h (by decide)
theorem lv_3 (h : lvI t = nI 3) : t = -12 ∨ t = -13 := by
  by_cases hx : t.toInt < -14 ∨ -7 < t.toInt
  · rw [lv_out hx] at h
    exact absurd h (by decide)
  · rcases x_lv hx with rfl | rfl | rfl | rfl | rfl | rfl | rfl | rfl <;> first | exact Or.inl rfl | exact Or.inr rfl | exact absurd h (by decide)
theorem lv_1 (h : lvI t = nI 1) : t = -8 := by
  by_cases hx : t.toInt < -14 ∨ -7 < t.toInt
  · rw [lv_out hx] at h
    exact absurd h (by decide)
  · rcases x_lv hx with rfl | rfl | rfl | rfl | rfl | rfl | rfl | rfl <;> first | rfl | exact absurd h (by decide)
theorem lv_0 (h : lvI t = nI 0) : t = -7 := by
  by_cases hx : t.toInt < -14 ∨ -7 < t.toInt
  · rw [lv_out hx] at h
    exact absurd h (by decide)
  · rcases x_lv hx with rfl | rfl | rfl | rfl | rfl | rfl | rfl | rfl <;> first | rfl | exact absurd h (by decide)
theorem b3_n (h : ¬ bad3 t) : t ≠ -14 ∧ t ≠ -13 ∧ t ≠ -12 := ⟨fun e => h (Or.inl (by rw [e]; rfl)), fun e => h (Or.inr (by rw [e]; rfl)), fun e => h (Or.inr (by rw [e]; rfl))⟩
theorem alg4 {i0 o : Nat} : ∀ i1, Alg T 4 o (cond4 T i0) (condS T i1) (f7 T) (fB T) bad5 bad4 := by
  intro i1
  refine ⟨fun n i out S c _ _ => f7_0 (by have := c.1; omega), fun n i out S c _ hop => ?_, fun t n i out S c hop hb => ?_, fun t S hop c => ?_, fun t _ h => h⟩
  · have e := lv_4 hop
    rw [f7_0 (by have := c.1; omega)]
    exact mB_op (by rw [e]; decide) (by rw [e]; decide) (by rw [e]; exact c.1) (by rw [e]; exact fun z => absurd z.1 (by decide))
  · have e := lv_4 hop
    subst e
    rw [f7_0 (by show rk 14 < 7; decide), f7_0 (by have := c.1; omega)]
    exact mB_s (by decide) (rb_all _) (by decide)
  · have e := lv_4 hop
    subst e
    exact Or.inr (by show 3 < rk 14; decide)
theorem alg3 {i0 o : Nat} : ∀ i1, Alg T 3 o (cond3 T i0) (cond4 T i1) (fB T) (fB T) bad4 bad3 := by
  intro i1
  refine ⟨fun n i out S c _ _ => rfl, fun n i out S c _ hop => ?_, fun t n i out S c hop hb => ?_, fun t S hop c => ?_, fun t h1 h2 h => h.elim h1 h2⟩
  · have e := lv_3 hop
    refine mB_op ?_ ?_ ?_ ?_
    · rcases e with e | e <;> rw [e] <;> decide
    · rcases e with e | e <;> rw [e] <;> decide
    · rcases e with e | e <;> rw [e] <;> exact c.1
    · rcases e with e | e <;> rw [e] <;> exact fun z => absurd z.1 (by decide)
  · have hb : T i ≠ -14 := fun e => hb (by rw [e]; rfl)
    rcases lv_3 hop with rfl | rfl <;> exact mB_s (by decide) (rb_14 hb) (by decide)
  · rcases lv_3 hop with rfl | rfl
    · exact ⟨by show rk 12 < 6; decide, Or.inr (by show 3 < rk 12; decide)⟩
    · exact ⟨by show rk 13 < 6; decide, Or.inr (by show 3 < rk 13; decide)⟩
theorem alg1 {o : Nat} : ∀ _ : Nat, Alg T 1 o cond1 condN (fN T) (fN T) bad3 bad1 := by
  intro _
  refine ⟨fun n i out S c _ _ => rfl, fun n i out S c _ hop => ?_, fun t n i out S c hop hb => ?_, fun t S hop c => ?_, fun t h1 h2 h => h.elim h1 h2⟩
  · have e := lv_1 hop
    unfold fN
    rw [if_neg (by rw [e]; decide)]
    exact mB_op (by rw [e]; decide) (by rw [e]; decide) (by rw [e]; exact Nat.lt_of_le_of_lt c (by decide)) (by rw [e]; exact fun z => absurd z.1 (by decide))
  · have e := lv_1 hop
    subst e
    unfold fN
    by_cases g : T i = -10 ∨ T i = -11
    · rw [if_pos g, if_pos g]
    · rw [if_neg g, if_neg g]
      have h3 := b3_n hb
      exact mB_s (by decide) (Nat.le_trans (rb_3 ⟨h3.1, h3.2.1, h3.2.2, g⟩) (by decide)) (by decide)
  · have e := lv_1 hop
    subst e
    show rk 8 ≤ 3
    decide
theorem alg0 {o : Nat} : ∀ _ : Nat, Alg T 0 o cond0 cond1 (fN T) (fN T) bad1 bad0 := by
  intro _
  refine ⟨fun n i out S c _ _ => rfl, fun n i out S c _ hop => ?_, fun t n i out S c hop hb => ?_, fun t S hop c => ?_, fun t h1 h2 h => h.elim h1 h2⟩
  · have e := lv_0 hop
    unfold fN
    rw [if_neg (by rw [e]; decide)]
    exact mB_op (by rw [e]; decide) (by rw [e]; decide) (by rw [e]; exact Nat.lt_of_le_of_lt (Nat.le_of_eq c) (by decide)) (by rw [e]; exact fun z => absurd z.1 (by decide))
  · have e := lv_0 hop
    subst e
    unfold fN
    by_cases g : T i = -10 ∨ T i = -11
    · rw [if_pos g, if_pos g]
    · rw [if_neg g, if_neg g]
      have h3 := b3_n (fun z => hb (Or.inl z))
      exact mB_s (by decide) (Nat.le_trans (rb_1 ⟨h3.1, h3.2.1, h3.2.2, g⟩ (fun z => hb (Or.inr (by rw [z]; rfl)))) (by decide)) (by decide)
  · have e := lv_0 hop
    subst e
    show rk 7 ≤ 1
    decide
theorem p_op2 {n i o : Nat} {cond : List Nat → Prop} {fin : Nat → Nat → Nat → List Int32 → List Nat → mxO} {bad : Int32 → Prop} (hd : 1 ≤ d) (g : PC T pl k (d - 1) 41 [] n i o cond fin bad) : PC T pl k d 40 [.int (nI 2)] n i o cond fin bad := by
  intro P h s out Q H hl pt ps hout hik kk
  refine wc.go [_, _] rfl ?_
  refine q_iload_n (pc := 0) rfl rfl ?_
  refine q_iconst (pc := 1) rfl (nI 2) (by decide) ?_
  first | refine n_icmpne (pc := 2) rfl (by omega) (by omega) (fun h2 => ?_) (fun h2 => ?_) | refine q_icmpne (pc := 2) rfl (fun h2 => ?_) (fun h2 => ?_)
  · first | (exfalso; omega) | exact absurd h2 (nI_pos (by omega)) | exact absurd (nI_pos' (by omega)) h2
  · refine q_aload_n (pc := 5) rfl rfl rfl ?_
    refine q_callV (pc := 6) _ rfl rfl rfl (by exact HR.c H hl _ rfl) rfl (Nat.le_of_ble_eq_true rfl) (by omega) _ rfl ?_
    refine g P h s out _ H hl pt ps hout hik ?_
    intro h s1 H f1 r1
    refine q_goto (pc := 9) rfl ?_
    refine q_vret (pc := 29) rfl rfl ?_
    exact kk _ _ H f1 r1
theorem p_op5 {n i o : Nat} {cond : List Nat → Prop} {fin : Nat → Nat → Nat → List Int32 → List Nat → mxO} {bad : Int32 → Prop} (hd : 1 ≤ d) (g : PC T pl k (d - 1) 42 [] n i o cond fin bad) : PC T pl k d 40 [.int (nI 5)] n i o cond fin bad := by
  intro P h s out Q H hl pt ps hout hik kk
  refine wc.go [_, _] rfl ?_
  refine q_iload_n (pc := 0) rfl rfl ?_
  refine q_iconst (pc := 1) rfl (nI 2) (by decide) ?_
  first | refine n_icmpne (pc := 2) rfl (by omega) (by omega) (fun h2 => ?_) (fun h2 => ?_) | refine q_icmpne (pc := 2) rfl (fun h2 => ?_) (fun h2 => ?_)
  · first
    | (exfalso; omega (config := {splitDisjunctions := false}))
    | exact absurd rfl h2
    | skip
      refine q_iload_n (pc := 12) rfl rfl ?_
      refine q_iconst (pc := 13) rfl (nI 5) (by decide) ?_
      first | refine n_icmplt (pc := 14) rfl (by omega) (by omega) (fun h14 => ?_) (fun h14 => ?_) | refine q_icmplt (pc := 14) rfl (fun h14 => ?_) (fun h14 => ?_)
      · first | (exfalso; omega) | exact absurd h14 (nI_pos (by omega)) | exact absurd (nI_pos' (by omega)) h14
      · refine q_aload_n (pc := 17) rfl rfl rfl ?_
        refine q_callV (pc := 18) _ rfl rfl rfl (by exact HR.c H hl _ rfl) rfl (Nat.le_of_ble_eq_true rfl) (by omega) _ rfl ?_
        refine g P h s out _ H hl pt ps hout hik ?_
        intro h s1 H f1 r1
        refine q_goto (pc := 21) rfl ?_
        refine q_vret (pc := 29) rfl rfl ?_
        exact kk _ _ H f1 r1
  · exfalso; omega
theorem p_opC {L n i o : Nat} {cond : List Nat → Prop} {fin : Nat → Nat → Nat → List Int32 → List Nat → mxO} {bad : Int32 → Prop} (hd : 1 ≤ d) (hL : L ≠ 2 ∧ L < 5) (g : PC T pl k (d - 1) 39 [.int (nI L)] n i o cond fin bad) : PC T pl k d 40 [.int (nI L)] n i o cond fin bad := by
  intro P h s out Q H hl pt ps hout hik kk
  refine wc.go [_, _] rfl ?_
  refine q_iload_n (pc := 0) rfl rfl ?_
  refine q_iconst (pc := 1) rfl (nI 2) (by decide) ?_
  first | refine n_icmpne (pc := 2) rfl (by omega) (by omega) (fun h2 => ?_) (fun h2 => ?_) | refine q_icmpne (pc := 2) rfl (fun h2 => ?_) (fun h2 => ?_)
  · first
    | (exfalso; omega (config := {splitDisjunctions := false}))
    | exact absurd rfl h2
    | skip
      refine q_iload_n (pc := 12) rfl rfl ?_
      refine q_iconst (pc := 13) rfl (nI 5) (by decide) ?_
      first | refine n_icmplt (pc := 14) rfl (by omega) (by omega) (fun h14 => ?_) (fun h14 => ?_) | refine q_icmplt (pc := 14) rfl (fun h14 => ?_) (fun h14 => ?_)
      · refine q_aload_n (pc := 24) rfl rfl rfl ?_
        refine q_iload_n (pc := 25) rfl rfl ?_
        refine q_callV (pc := 26) _ rfl rfl rfl (by exact HR.c H hl _ rfl) rfl (Nat.le_of_ble_eq_true rfl) (by omega) _ rfl ?_
        refine g P h s out _ H hl pt ps hout hik ?_
        intro h s1 H f1 r1
        refine q_vret (pc := 29) rfl rfl ?_
        exact kk _ _ H f1 r1
      · first | (exfalso; omega) | exact absurd h14 (nI_pos (by omega)) | exact absurd (nI_pos' (by omega)) h14
  · exfalso; omega
theorem p_s2F (H : HR P h s) (hl : 51 ≤ P.1) (hd : 2 ≤ d) (fs : FS s pl k f) (kk : ∀ h' s', HR P h' s' → pf s s' → FS s' pl k f → Q none h') (z1 : Int32) : wq d 42 46 [some (.ref 25), some (.int z1)] [] h Q := by
  refine q_aload_n (pc := 46) rfl rfl rfl ?_
  refine q_dup (pc := 47) rfl rfl ?_
  refine q_getf (pc := 48) rfl (by first | exact HR.pr H hl ps | exact HR.pf H hl fs | exact HR.c H hl _ rfl) rfl rfl ?_
  refine q_iconst (pc := 51) rfl (nI 1) (by decide) ?_
  first | refine n_isub (pc := 52) rfl (by omega) ?_ | refine q_isub (pc := 52) rfl ?_
  refine r_pf2 (pc := 53) (i := 5) rfl H hl rfl rfl rfl rfl (Nat.le_of_ble_eq_true rfl) rfl rfl ?_
  intro h H
  have fs := fs.op (j := 5) (v := s 25 5 - nI 1) (by decide)
  refine q_aload_n (pc := 56) rfl rfl rfl ?_
  refine q_bipush (pc := 57) rfl (-15) (by decide) ?_
  refine q_callV (pc := 59) _ rfl rfl rfl (by first | exact HR.pr H hl ps | exact HR.pf H hl fs | exact HR.c H hl _ rfl) rfl (Nat.le_of_ble_eq_true rfl) (by omega) _ rfl ?_
  refine c_emitX H hl fs ?_
  refine q_goto (pc := 62) rfl ?_
  refine q_vret (pc := 106) rfl rfl ?_
  exact kk _ _ H (pf.wr (by decide)) fs
theorem p_s2K {i o : Nat} (H : HR P h s) (hl : 51 ≤ P.1) (hd : 2 ≤ d) (ps : PS s i (o + 1) out) (hn : out.length < 160) (kk : ∀ h' s', HR P h' s' → pf s s' → PS s' i o (out ++ [-15]) → Q none h') (z1 : Int32) : wq d 42 46 [some (.ref 25), some (.int z1)] [] h Q := by
  refine q_aload_n (pc := 46) rfl rfl rfl ?_
  refine q_dup (pc := 47) rfl rfl ?_
  refine q_getf (pc := 48) rfl (by first | exact HR.pr H hl ps | exact HR.pf H hl fs | exact HR.c H hl _ rfl) rfl rfl ?_
  refine q_iconst (pc := 51) rfl (nI 1) (by decide) ?_
  first | refine n_isub (pc := 52) rfl (by omega) ?_ | refine q_isub (pc := 52) rfl ?_
  refine r_pf2 (pc := 53) (i := 5) rfl H hl rfl rfl rfl rfl (Nat.le_of_ble_eq_true rfl) rfl rfl ?_
  intro h H
  have fr : pf s _ := pf.wr (s := s) (j := 5) (v := nI (o + 1 - 1)) (by decide)
  have ps := ps.op (j := o + 1 - 1)
  refine q_aload_n (pc := 56) rfl rfl rfl ?_
  refine q_bipush (pc := 57) rfl (-15) (by decide) ?_
  refine q_callV (pc := 59) _ rfl rfl rfl (by first | exact HR.pr H hl ps | exact HR.pf H hl fs | exact HR.c H hl _ rfl) rfl (Nat.le_of_ble_eq_true rfl) (by omega) _ rfl ?_
  refine c_emit H hl ps hn ?_
  intro h s2 H f2 ps
  refine q_goto (pc := 62) rfl ?_
  refine q_vret (pc := 106) rfl rfl ?_
  exact kk _ _ H (fr.tr f2) ps
theorem p_s3F (H : HR P h s) (hl : 51 ≤ P.1) (hd : 2 ≤ d) (fs : FS s pl k f) (kk : ∀ h' s', HR P h' s' → pf s s' → FS s' pl k f → Q none h') (z1 : Int32) : wq d 42 83 [some (.ref 25), some (.int z1)] [] h Q := by
  refine q_aload_n (pc := 83) rfl rfl rfl ?_
  refine q_bipush (pc := 84) rfl (-17) (by decide) ?_
  refine q_callV (pc := 86) _ rfl rfl rfl (by first | exact HR.pr H hl ps | exact HR.pf H hl fs | exact HR.c H hl _ rfl) rfl (Nat.le_of_ble_eq_true rfl) (by omega) _ rfl ?_
  refine c_expectX H hl fs ?_
  refine q_aload_n (pc := 89) rfl rfl rfl ?_
  refine q_dup (pc := 90) rfl rfl ?_
  refine q_getf (pc := 91) rfl (by first | exact HR.pr H hl ps | exact HR.pf H hl fs | exact HR.c H hl _ rfl) rfl rfl ?_
  refine q_iconst (pc := 94) rfl (nI 1) (by decide) ?_
  first | refine n_isub (pc := 95) rfl (by omega) ?_ | refine q_isub (pc := 95) rfl ?_
  refine r_pf2 (pc := 96) (i := 5) rfl H hl rfl rfl rfl rfl (Nat.le_of_ble_eq_true rfl) rfl rfl ?_
  intro h H
  have fs := fs.op (j := 5) (v := s 25 5 - nI 1) (by decide)
  refine q_goto (pc := 99) rfl ?_
  refine q_vret (pc := 106) rfl rfl ?_
  exact kk _ _ H (pf.wr (by decide)) fs
theorem p_s3K {i o : Nat} (H : HR P h s) (hl : 51 ≤ P.1) (hd : 2 ≤ d) (pt : PT s T pl k) (ps : PS s i (o + 1) out) (hik : i ≤ k) (k1 : T i = -17 → ∀ h' s', HR P h' s' → pf s s' → PS s' (i + 1) o out → Q none h') (k2 : T i ≠ -17 → ∀ h' s', HR P h' s' → pf s s' → FS s' pl k i → Q none h') (z1 : Int32) : wq d 42 83 [some (.ref 25), some (.int z1)] [] h Q := by
  refine q_aload_n (pc := 83) rfl rfl rfl ?_
  refine q_bipush (pc := 84) rfl (-17) (by decide) ?_
  refine q_callV (pc := 86) _ rfl rfl rfl (by first | exact HR.pr H hl ps | exact HR.pr H hl ps2 | exact HR.pf H hl fs | exact HR.c H hl _ rfl) rfl (Nat.le_of_ble_eq_true rfl) (by omega) _ rfl ?_
  refine c_expect (by omega) H hl pt ps hik (fun h17 h H => ?_) (fun h17 h H => ?_)
  · have ps2 := ps.nx (j := i + 1)
    refine q_aload_n (pc := 89) rfl rfl rfl ?_
    refine q_dup (pc := 90) rfl rfl ?_
    refine q_getf (pc := 91) rfl (by first | exact HR.pr H hl ps | exact HR.pr H hl ps2 | exact HR.pf H hl fs | exact HR.c H hl _ rfl) rfl rfl ?_
    refine q_iconst (pc := 94) rfl (nI 1) (by decide) ?_
    first | refine n_isub (pc := 95) rfl (by omega) ?_ | refine q_isub (pc := 95) rfl ?_
    refine r_pf2 (pc := 96) (i := 5) rfl H hl rfl rfl rfl rfl (Nat.le_of_ble_eq_true rfl) rfl rfl ?_
    intro h H
    refine q_goto (pc := 99) rfl ?_
    refine q_vret (pc := 106) rfl rfl ?_
    first
    | (exact k1 h17 _ _ H ((pf.wr (by decide)).tr (pf.wr (by decide))) (ps2.op (j := o + 1 - 1)))
    | (exact k2 h17 _ _ H ((pf.wr (by decide)).tr (pf.wr (by decide))) (fs.op (by decide)))
  · have fs : FS (stv s 25 9 (nI (pl i))) pl k i := ⟨⟨hik, pt.2.2.1 i hik⟩, stv_a⟩
    refine q_aload_n (pc := 89) rfl rfl rfl ?_
    refine q_dup (pc := 90) rfl rfl ?_
    refine q_getf (pc := 91) rfl (by first | exact HR.pr H hl ps | exact HR.pr H hl ps2 | exact HR.pf H hl fs | exact HR.c H hl _ rfl) rfl rfl ?_
    refine q_iconst (pc := 94) rfl (nI 1) (by decide) ?_
    first | refine n_isub (pc := 95) rfl (by omega) ?_ | refine q_isub (pc := 95) rfl ?_
    refine r_pf2 (pc := 96) (i := 5) rfl H hl rfl rfl rfl rfl (Nat.le_of_ble_eq_true rfl) rfl rfl ?_
    intro h H
    refine q_goto (pc := 99) rfl ?_
    refine q_vret (pc := 106) rfl rfl ?_
    first
    | (exact k1 h17 _ _ H ((pf.wr (by decide)).tr (pf.wr (by decide))) (ps2.op (j := o + 1 - 1)))
    | (exact k2 h17 _ _ H ((pf.wr (by decide)).tr (pf.wr (by decide))) (fs.op (by decide)))
theorem bin_0 (hb : ¬ bad0 t) (h : ¬ (t = -10 ∨ t = -11)) : bin t = 0 := by
  have h3 := b3_n (fun z => hb (Or.inl (Or.inl z)))
  unfold bin
  rw [if_neg (fun e => hb (Or.inr (by rw [e]; rfl))), if_neg (fun e => hb (Or.inl (Or.inr (by rw [e]; rfl)))), if_neg (fun e => h (Or.inl e)), if_neg (fun e => h (Or.inr e)), if_neg h3.2.2, if_neg h3.2.1, if_neg h3.1]
theorem p_single {n i o : Nat} (hd : 2 ≤ d) (ho : o ≤ 5) (hkM : k < n + i) (g0 : o < 5 → ∀ m j, m < n → m + j = n + i → PC T pl k (d - 1) 39 [.int (nI 0)] m j (o + 1) cond0 (fN T) bad0) (g1 : o < 5 → ∀ m j, m < n → m + j = n + i → PC T pl k (d - 1) 42 [] m j (o + 1) (condS T j) (f7 T) bad5) : PC T pl k d 42 [] n i o (condS T i) (f7 T) bad5 := by
  intro P h s out Q H hl pt ps hout hik kk
  have k6 := pt.2.1
  obtain ⟨n, rfl⟩ : ∃ m, n = m + 1 := ⟨n - 1, by omega⟩
  have hEk : T i = -13 ∨ T i = -16 ∨ T i = -9 ∨ ¬ T i < -6 → i < k := fun g => by
    rcases Nat.lt_or_ge i k with e | e
    · exact e
    · exfalso
      have e : i = k := by omega
      rw [e] at g
      have := isE_lv pt.2.2.2.1
      exact g.elim (fun z => this.2.2 (Or.inl z)) (fun g => g.elim (fun z => this.2.2 (Or.inr (Or.inl z))) (fun g => g.elim (fun z => this.2.2 (Or.inr (Or.inr z))) (fun z => z this.2.1)))
  by_cases ha : ¬ T i < -6
  · have hik2 := hEk (Or.inr (Or.inr (Or.inr ha)))
    refine wc.go [_, _] rfl ?_
    refine q_aload_n (pc := 0) rfl rfl rfl ?_
    refine q_callV (pc := 1) _ rfl rfl rfl (by first | exact HR.pr H hl ps | exact HR.pf H hl fs | exact HR.c H hl _ rfl) rfl (Nat.le_of_ble_eq_true rfl) (by omega) _ rfl ?_
    refine c_token H hl pt ps hik ?_
    refine q_istore_n (pc := 4) [_, _] rfl (Nat.le_of_ble_eq_true rfl) rfl ?_
    refine q_iload_n (pc := 5) rfl rfl ?_
    refine q_bipush (pc := 6) rfl (-6) (by decide) ?_
    refine q_icmplt (pc := 8) rfl (fun h8 => ?_) (fun h8 => ?_)
    · exact absurd h8 ha
    · 
      first
      | (exfalso; omega (config := {splitDisjunctions := false}))
      | skip
        refine q_aload_n (pc := 11) rfl rfl rfl ?_
        refine q_iload_n (pc := 12) rfl rfl ?_
        refine q_callV (pc := 13) _ rfl rfl rfl (by first | exact HR.pr H hl ps | exact HR.pf H hl fs | exact HR.c H hl _ rfl) rfl (Nat.le_of_ble_eq_true rfl) (by omega) _ rfl ?_
        refine c_emit H hl ps (by omega) ?_
        intro h s1 H f1 ps
        refine q_aload_n (pc := 16) rfl rfl rfl ?_
        refine q_dup (pc := 17) rfl rfl ?_
        refine q_getf (pc := 18) rfl (by first | exact HR.pr H hl ps | exact HR.pf H hl fs | exact HR.c H hl _ rfl) rfl rfl ?_
        refine q_iconst (pc := 21) rfl (nI 1) (by decide) ?_
        first | refine n_iadd (pc := 22) rfl ?_ | refine q_iadd (pc := 22) rfl ?_
        refine r_pf2 (pc := 23) (i := 4) rfl H hl rfl rfl rfl rfl (Nat.le_of_ble_eq_true rfl) rfl rfl ?_
        intro h H
        have ps := ps.nx (j := i + 1)
        have fr := f1.tr (pf.wr (s := s1) (j := 4) (v := nI (i + 1)) (by decide))
        refine q_goto (pc := 26) rfl ?_
        refine q_vret (pc := 106) rfl rfl ?_
        exact kk _ _ H fr (Or.inr ⟨n, i + 1, [T i], ps, by omega, by omega, by omega, by show 1 + i ≤ i + 1; omega, wf_a ha, fun z => z, fun S _ => by rw [mA, if_pos ha]; rfl⟩)
  have hv : ∀ S, ¬ o < 5 → mA T (n + 1) false i o out S = .inl i := fun S h5 => by
    rw [mA, if_neg ha, if_neg (fun z => h5 z.2)]
  by_cases hm : T i = -13
  · have hik2 := hEk (Or.inl hm)
    have hu : ∀ S, o < 5 → mA T (n + 1) false i o out S = mA T n false (i + 1) (o + 1) out (15 :: S) := fun S h5 => by
      rw [mA, if_neg ha, if_pos ⟨Or.inr (Or.inl hm), h5⟩, hm]
      rfl
    refine wc.go [_, _] rfl ?_
    refine q_aload_n (pc := 0) rfl rfl rfl ?_
    refine q_callV (pc := 1) _ rfl rfl rfl (by first | exact HR.pr H hl ps | exact HR.pf H hl fs | exact HR.c H hl _ rfl) rfl (Nat.le_of_ble_eq_true rfl) (by omega) _ rfl ?_
    refine c_token H hl pt ps hik ?_
    refine q_istore_n (pc := 4) [_, _] rfl (Nat.le_of_ble_eq_true rfl) rfl ?_
    refine q_iload_n (pc := 5) rfl rfl ?_
    refine q_bipush (pc := 6) rfl (-6) (by decide) ?_
    refine q_icmplt (pc := 8) rfl (fun h8 => ?_) (fun h8 => ?_)
    · 
      first
      | (exfalso; omega (config := {splitDisjunctions := false}))
      | skip
        refine q_iload_n (pc := 29) rfl rfl ?_
        refine q_bipush (pc := 30) rfl (-13) (by decide) ?_
        refine q_icmpne (pc := 32) rfl (fun h32 => ?_) (fun h32 => ?_)
        · exact absurd hm h32
        · 
          first
          | (exfalso; omega (config := {splitDisjunctions := false}))
          | exact absurd rfl h32
          | skip
            refine q_aload_n (pc := 35) rfl rfl rfl ?_
            refine q_callV (pc := 36) _ rfl rfl rfl (by first | exact HR.pr H hl ps | exact HR.pf H hl fs | exact HR.c H hl _ rfl) rfl (Nat.le_of_ble_eq_true rfl) (by omega) _ rfl ?_
            refine c_opens (by omega) H hl pt ps hik ho (fun ho5 h H => ?_) (fun ho5 h H => ?_)
            · have ps := (ps.op (j := o + 1)).nx (j := i + 1)
              have fr := (pf.wr (s := s) (j := 5) (v := nI (o + 1)) (by decide)).tr (pf.wr (j := 4) (v := nI (i + 1)) (by decide))
              refine q_ifeq (pc := 39) rfl (fun z => absurd z (by decide)) (fun _ => ?_)
              refine q_aload_n (pc := 42) rfl rfl rfl ?_
              refine q_callV (pc := 43) _ rfl rfl rfl (by first | exact HR.pr H hl ps | exact HR.pf H hl fs | exact HR.c H hl _ rfl) rfl (Nat.le_of_ble_eq_true rfl) (by omega) _ rfl ?_
              refine g1 ho5 n (i + 1) (by omega) (by omega) P h _ out _ H hl (pt.fr fr) ps (by omega) (by omega) ?_
              intro h s1 H f1 r1
              have fr := fr.tr f1
              rcases r1 with ⟨f, fs, r1⟩ | ⟨n1, i1, seg1, ps, q1, q2, q3, q4, hw1, hb1, r1⟩
              · exact p_s2F H hl (by omega) fs (fun h' s' H f2 fs => kk _ _ H (fr.tr f2) (Or.inl ⟨f, fs, fun S _ => by rw [hu S ho5]; exact r1 _ (Or.inr (by show 3 < rk 15; decide))⟩)) _
              · refine p_s2K H hl (by omega) ps (by rw [List.length_append]; omega) (fun h' s' H f2 ps => kk _ _ H (fr.tr f2) (Or.inr ⟨n1, i1, seg1 ++ [-15], by rw [← List.append_assoc]; exact ps, by omega, q2, by omega, by rw [List.length_append]; show _ + 1 + _ ≤ _; omega, wf_u (x := 15) hw1 (Or.inr rfl), fun z => z, fun S _ => ?_⟩)) _
                rw [hu S ho5, r1 _ (Or.inr (by show 3 < rk 15; decide)), ← List.append_assoc]
                unfold f7
                rw [stl_2 (by decide) (by decide) (Or.inr rfl)]
                rfl
            · have fs : FS (stv s 25 9 (nI (pl i))) pl k i := ⟨⟨hik, pt.2.2.1 i hik⟩, stv_a⟩
              have fr := pf.wr (s := s) (j := 9) (v := nI (pl i)) (by decide)
              refine q_ifeq (pc := 39) rfl (fun _ => ?_) (fun z => absurd (by decide) z)
              refine q_vret (pc := 106) rfl rfl ?_
              exact kk _ _ H fr (Or.inl ⟨i, fs, fun S _ => hv S ho5⟩)
    · exact absurd (Classical.byContradiction ha) h8
  by_cases hb : T i = -16
  · have hik2 := hEk (Or.inr (Or.inl hb))
    have hu : ∀ S, o < 5 → mA T (n + 1) false i o out S = mA T n false (i + 1) (o + 1) out (0 :: S) := fun S h5 => by
      rw [mA, if_neg ha, if_pos ⟨Or.inl hb, h5⟩, hb]
      rfl
    refine wc.go [_, _] rfl ?_
    refine q_aload_n (pc := 0) rfl rfl rfl ?_
    refine q_callV (pc := 1) _ rfl rfl rfl (by first | exact HR.pr H hl ps | exact HR.pf H hl fs | exact HR.c H hl _ rfl) rfl (Nat.le_of_ble_eq_true rfl) (by omega) _ rfl ?_
    refine c_token H hl pt ps hik ?_
    refine q_istore_n (pc := 4) [_, _] rfl (Nat.le_of_ble_eq_true rfl) rfl ?_
    refine q_iload_n (pc := 5) rfl rfl ?_
    refine q_bipush (pc := 6) rfl (-6) (by decide) ?_
    refine q_icmplt (pc := 8) rfl (fun h8 => ?_) (fun h8 => ?_)
    · 
      first
      | (exfalso; omega (config := {splitDisjunctions := false}))
      | skip
        refine q_iload_n (pc := 29) rfl rfl ?_
        refine q_bipush (pc := 30) rfl (-13) (by decide) ?_
        refine q_icmpne (pc := 32) rfl (fun h32 => ?_) (fun h32 => ?_)
        · 
          first
          | (exfalso; omega (config := {splitDisjunctions := false}))
          | exact absurd rfl h32
          | skip
            refine q_iload_n (pc := 65) rfl rfl ?_
            refine q_bipush (pc := 66) rfl (-16) (by decide) ?_
            refine q_icmpne (pc := 68) rfl (fun h68 => ?_) (fun h68 => ?_)
            · exact absurd hb h68
            · 
              first
              | (exfalso; omega (config := {splitDisjunctions := false}))
              | exact absurd rfl h68
              | skip
                refine q_aload_n (pc := 71) rfl rfl rfl ?_
                refine q_callV (pc := 72) _ rfl rfl rfl (by first | exact HR.pr H hl ps | exact HR.pf H hl fs | exact HR.c H hl _ rfl) rfl (Nat.le_of_ble_eq_true rfl) (by omega) _ rfl ?_
                refine c_opens (by omega) H hl pt ps hik ho (fun ho5 h H => ?_) (fun ho5 h H => ?_)
                · have ps := (ps.op (j := o + 1)).nx (j := i + 1)
                  have fr := (pf.wr (s := s) (j := 5) (v := nI (o + 1)) (by decide)).tr (pf.wr (j := 4) (v := nI (i + 1)) (by decide))
                  refine q_ifeq (pc := 75) rfl (fun z => absurd z (by decide)) (fun _ => ?_)
                  refine q_aload_n (pc := 78) rfl rfl rfl ?_
                  refine q_iconst (pc := 79) rfl (nI 0) (by decide) ?_
                  refine q_callV (pc := 80) _ rfl rfl rfl (by first | exact HR.pr H hl ps | exact HR.pf H hl fs | exact HR.c H hl _ rfl) rfl (Nat.le_of_ble_eq_true rfl) (by omega) _ rfl ?_
                  refine g0 ho5 n (i + 1) (by omega) (by omega) P h _ out _ H hl (pt.fr fr) ps (by omega) (by omega) ?_
                  intro h s1 H f1 r1
                  have fr := fr.tr f1
                  rcases r1 with ⟨f, fs, r1⟩ | ⟨n1, i1, seg1, ps, q1, q2, q3, q4, hw1, hb1, r1⟩
                  · exact p_s3F H hl (by omega) fs (fun h' s' H f2 fs => kk _ _ H (fr.tr f2) (Or.inl ⟨f, fs, fun S _ => by rw [hu S ho5]; exact r1 _ rfl⟩)) _
                  · have hn1 : 0 < n1 := by omega
                    obtain ⟨n1, rfl⟩ : ∃ m, n1 = m + 1 := ⟨n1 - 1, by omega⟩
                    refine p_s3K H hl (by omega) (pt.fr fr) ps q2 (fun h17 h' s' H f2 ps => kk _ _ H (fr.tr f2) (Or.inr ⟨n1, i1 + 1, seg1, ps, by omega, ?_, by omega, by omega, hw1, fun z => z, fun S _ => ?_⟩)) (fun h17 h' s' H f2 fs => kk _ _ H (fr.tr f2) (Or.inl ⟨i1, fs, fun S _ => ?_⟩)) _
                    · rcases Nat.lt_or_ge i1 k with e | e
                      · exact e
                      · exfalso
                        have e : i1 = k := by omega
                        rw [e] at h17
                        have := pt.2.2.2.1
                        rw [h17] at this
                        exact this.elim (fun z => absurd z (by decide)) (fun z => absurd z (by decide))
                    · rw [hu S ho5, r1 _ (show lr (0 :: S) = 0 by show rk 0 = 0; decide)]
                      unfold fN
                      rw [if_neg (by rw [h17]; decide), mA, if_pos h17, stl_0 (show lr (0 :: S) < 1 by show rk 0 < 1; decide)]
                      rfl
                    · rw [hu S ho5, r1 _ (show lr (0 :: S) = 0 by show rk 0 = 0; decide)]
                      unfold fN
                      split
                      · rfl
                      · rename_i hle
                        have hb0 : bin (T i1) = 0 := bin_0 hb1 hle
                        rw [mA, if_neg h17, if_neg (fun z => z hb0), stl_0 (show lr (0 :: S) < 1 by show rk 0 < 1; decide)]
                · have fs : FS (stv s 25 9 (nI (pl i))) pl k i := ⟨⟨hik, pt.2.2.1 i hik⟩, stv_a⟩
                  have fr := pf.wr (s := s) (j := 9) (v := nI (pl i)) (by decide)
                  refine q_ifeq (pc := 75) rfl (fun _ => ?_) (fun z => absurd (by decide) z)
                  refine q_vret (pc := 106) rfl rfl ?_
                  exact kk _ _ H fr (Or.inl ⟨i, fs, fun S _ => hv S ho5⟩)
        · exact absurd h32 hm
    · exact absurd (Classical.byContradiction ha) h8
  · have hv : ∀ S, condS T i S → mA T (n + 1) false i o out S = .inl i := fun S c => by
      rw [mA, if_neg ha, if_neg]
      rintro ⟨z | z | z, _⟩
      · exact hb z
      · exact hm z
      · exact c.elim (fun e => e z.1) (fun e => absurd z.2 (by omega))
    refine wc.go [_, _] rfl ?_
    refine q_aload_n (pc := 0) rfl rfl rfl ?_
    refine q_callV (pc := 1) _ rfl rfl rfl (by first | exact HR.pr H hl ps | exact HR.pf H hl fs | exact HR.c H hl _ rfl) rfl (Nat.le_of_ble_eq_true rfl) (by omega) _ rfl ?_
    refine c_token H hl pt ps hik ?_
    refine q_istore_n (pc := 4) [_, _] rfl (Nat.le_of_ble_eq_true rfl) rfl ?_
    refine q_iload_n (pc := 5) rfl rfl ?_
    refine q_bipush (pc := 6) rfl (-6) (by decide) ?_
    refine q_icmplt (pc := 8) rfl (fun h8 => ?_) (fun h8 => ?_)
    · 
      first
      | (exfalso; omega (config := {splitDisjunctions := false}))
      | skip
        refine q_iload_n (pc := 29) rfl rfl ?_
        refine q_bipush (pc := 30) rfl (-13) (by decide) ?_
        refine q_icmpne (pc := 32) rfl (fun h32 => ?_) (fun h32 => ?_)
        · 
          first
          | (exfalso; omega (config := {splitDisjunctions := false}))
          | exact absurd rfl h32
          | skip
            refine q_iload_n (pc := 65) rfl rfl ?_
            refine q_bipush (pc := 66) rfl (-16) (by decide) ?_
            refine q_icmpne (pc := 68) rfl (fun h68 => ?_) (fun h68 => ?_)
            · 
              first
              | (exfalso; omega (config := {splitDisjunctions := false}))
              | exact absurd rfl h68
              | skip
                refine q_aload_n (pc := 102) rfl rfl rfl ?_
                refine q_callV (pc := 103) _ rfl rfl rfl (by first | exact HR.pr H hl ps | exact HR.pf H hl fs | exact HR.c H hl _ rfl) rfl (Nat.le_of_ble_eq_true rfl) (by omega) _ rfl ?_
                refine c_fail H hl pt ps hik ?_
                intro h H
                refine q_vret (pc := 106) rfl rfl ?_
                exact kk _ _ H (pf.wr (by decide)) (Or.inl ⟨i, ⟨⟨hik, pt.2.2.1 i hik⟩, stv_a⟩, hv⟩)
            · exact absurd h68 hb
        · exact absurd h32 hm
    · exact absurd (Classical.byContradiction ha) h8
theorem p_nF (H : HR P h s) (hl : 51 ≤ P.1) (hd : 2 ≤ d) (fs : FS s pl k f) (kk : ∀ h' s', HR P h' s' → pf s s' → FS s' pl k f → Q none h') (z1 : Option Value) : wq d 41 20 [some (.ref 25), z1] [] h Q := by
  refine q_aload_n (pc := 20) rfl rfl rfl ?_
  refine q_dup (pc := 21) rfl rfl ?_
  refine q_getf (pc := 22) rfl (by first | exact HR.pr H hl ps | exact HR.pf H hl fs | exact HR.c H hl _ rfl) rfl rfl ?_
  refine q_iconst (pc := 25) rfl (nI 1) (by decide) ?_
  first | refine n_isub (pc := 26) rfl (by omega) ?_ | refine q_isub (pc := 26) rfl ?_
  refine r_pf2 (pc := 27) (i := 5) rfl H hl rfl rfl rfl rfl (Nat.le_of_ble_eq_true rfl) rfl rfl ?_
  intro h H
  have fs := fs.op (j := 5) (v := s 25 5 - nI 1) (by decide)
  refine q_aload_n (pc := 30) rfl rfl rfl ?_
  refine q_bipush (pc := 31) rfl (-9) (by decide) ?_
  refine q_callV (pc := 33) _ rfl rfl rfl (by first | exact HR.pr H hl ps | exact HR.pf H hl fs | exact HR.c H hl _ rfl) rfl (Nat.le_of_ble_eq_true rfl) (by omega) _ rfl ?_
  refine c_emitX H hl fs ?_
  refine q_vret (pc := 36) rfl rfl ?_
  exact kk _ _ H (pf.wr (by decide)) fs
theorem p_nK {i o : Nat} (H : HR P h s) (hl : 51 ≤ P.1) (hd : 2 ≤ d) (ps : PS s i (o + 1) out) (hn : out.length < 160) (kk : ∀ h' s', HR P h' s' → pf s s' → PS s' i o (out ++ [-9]) → Q none h') (z1 : Option Value) : wq d 41 20 [some (.ref 25), z1] [] h Q := by
  refine q_aload_n (pc := 20) rfl rfl rfl ?_
  refine q_dup (pc := 21) rfl rfl ?_
  refine q_getf (pc := 22) rfl (by first | exact HR.pr H hl ps | exact HR.pf H hl fs | exact HR.c H hl _ rfl) rfl rfl ?_
  refine q_iconst (pc := 25) rfl (nI 1) (by decide) ?_
  first | refine n_isub (pc := 26) rfl (by omega) ?_ | refine q_isub (pc := 26) rfl ?_
  refine r_pf2 (pc := 27) (i := 5) rfl H hl rfl rfl rfl rfl (Nat.le_of_ble_eq_true rfl) rfl rfl ?_
  intro h H
  have fr : pf s _ := pf.wr (s := s) (j := 5) (v := nI (o + 1 - 1)) (by decide)
  have ps := ps.op (j := o + 1 - 1)
  refine q_aload_n (pc := 30) rfl rfl rfl ?_
  refine q_bipush (pc := 31) rfl (-9) (by decide) ?_
  refine q_callV (pc := 33) _ rfl rfl rfl (by first | exact HR.pr H hl ps | exact HR.pf H hl fs | exact HR.c H hl _ rfl) rfl (Nat.le_of_ble_eq_true rfl) (by omega) _ rfl ?_
  refine c_emit H hl ps hn ?_
  intro h s2 H f2 ps
  refine q_vret (pc := 36) rfl rfl ?_
  exact kk _ _ H (fr.tr f2) ps
theorem p_n3F (H : HR P h s) (hl : 51 ≤ P.1) (hd : 2 ≤ d) (fs : FS s pl k f) (kk : Q none h) (z1 : Option Value) : wq d 41 42 [some (.ref 25), z1] [] h Q := by
  have hb := fs.1.2
  refine q_aload_n (pc := 42) rfl rfl rfl ?_
  refine q_callV (pc := 43) _ rfl rfl rfl (by first | exact HR.pr H hl ps | exact HR.pf H hl fs | exact HR.c H hl _ rfl) rfl (Nat.le_of_ble_eq_true rfl) (by omega) _ rfl ?_
  refine c_tokenX H hl (fun v => ?_)
  refine q_istore_n (pc := 46) [_, _] rfl (Nat.le_of_ble_eq_true rfl) rfl ?_
  refine q_aload_n (pc := 47) rfl rfl rfl ?_
  refine q_getf (pc := 48) rfl (by first | exact HR.pr H hl ps | exact HR.pf H hl fs | exact HR.c H hl _ rfl) rfl rfl ?_
  refine q_iconst (pc := 51) rfl (-1) (by decide) ?_
  refine q_icmpne (pc := 52) rfl (fun h52 => ?_) (fun h52 => ?_)
  · first
    | (exfalso; omega (config := {splitDisjunctions := false}))
    | exact absurd rfl h52
    | skip
      refine q_vret (pc := 87) rfl rfl ?_
      exact kk
  · exact absurd h52 (nI_m1 (by omega))
theorem p_n4F (H : HR P h s) (hl : 51 ≤ P.1) (hd : 2 ≤ d) (fs : FS s pl k f) (kk : Q none h) (z1 : Int32) : wq d 41 82 [some (.ref 25), some (.int z1)] [] h Q := by
  refine q_aload_n (pc := 82) rfl rfl rfl ?_
  refine q_iload_n (pc := 83) rfl rfl ?_
  refine q_callV (pc := 84) _ rfl rfl rfl (by first | exact HR.pr H hl ps | exact HR.pf H hl fs | exact HR.c H hl _ rfl) rfl (Nat.le_of_ble_eq_true rfl) (by omega) _ rfl ?_
  refine c_emitX H hl fs ?_
  refine q_vret (pc := 87) rfl rfl ?_
  exact kk
theorem p_n4K {i o : Nat} (hl : 51 ≤ P.1) (hd : 3 ≤ d) (H : HR P h s) (ps : PS s i o out) (hn : out.length < 160) (kk : ∀ h' s', HR P h' s' → pf s s' → PS s' i o (out ++ [x]) → Q none h') (_ : Unit) : wq d 41 82 [some (.ref 25), some (.int x)] [] h Q := by
  refine q_aload_n (pc := 82) rfl rfl rfl ?_
  refine q_iload_n (pc := 83) rfl rfl ?_
  refine q_callV (pc := 84) _ rfl rfl rfl (by first | exact HR.pr H hl ps | exact HR.pf H hl fs | exact HR.c H hl _ rfl) rfl (Nat.le_of_ble_eq_true rfl) (by omega) _ rfl ?_
  refine c_emit H hl ps hn ?_
  intro h s2 H f2 ps
  refine q_vret (pc := 87) rfl rfl ?_
  exact kk _ _ H f2 ps
theorem p_n3K {n i o n1 i1 : Nat} {s1 : mx_St} {seg1 : List Int32} (hd : 3 ≤ d) (ho : o ≤ 5) (hkM : k < n + i) (hl : 51 ≤ P.1) (pt : PT s T pl k) (g3 : ∀ m j, m ≤ n → m + j = n + i → PC T pl k (d - 1) 39 [.int (nI 3)] m j o (cond3 T j) (fB T) bad3) (hc3 : ∀ S, condN S → cond3 T i S) (H : HR P h s1) (f1 : pf s s1) (ps : PS s1 i1 o (out ++ seg1)) (q1 : n1 + i1 = n + i) (q2 : i1 ≤ k) (q3 : i < i1) (q4 : seg1.length + i ≤ i1) (hw1 : wf1 seg1) (hb1 : ¬ bad3 (T i1)) (r1 : ∀ S, cond3 T i S → mA T n false i o out S = fB T n1 i1 o (out ++ seg1) S) (hout : out.length ≤ i) (kk : ∀ h' s', HR P h' s' → pf s s' → PRes T pl k n i o out s' condN (fN T) bad3 → Q none h') (z1 : Option Value) : wq d 41 42 [some (.ref 25), z1] [] h Q := by
  have k6 := pt.2.1
  by_cases hle : T i1 = -10 ∨ T i1 = -11
  · have hik2 : i1 < k := by
      rcases Nat.lt_or_ge i1 k with e | e
      · exact e
      · exfalso
        have e : i1 = k := by omega
        rw [e] at hle
        have := pt.2.2.2.1
        rcases hle with g | g <;> rw [g] at this <;> exact this.elim (fun z => absurd z (by decide)) (fun z => absurd z (by decide))
    obtain ⟨n1, rfl⟩ : ∃ m, n1 = m + 1 := ⟨n1 - 1, by omega⟩
    have hbn : dc (bin (T i1)) = T i1 ∧ (bin (T i1) = 10 ∨ bin (T i1) = 11) := by rcases hle with g | g <;> rw [g] <;> decide
    have h4 : ∀ S, lr (bin (T i1) :: S) = 4 := fun S => by show rk _ = 4; rcases hbn.2 with g | g <;> rw [g] <;> decide
    have hu : ∀ S, condN S → mA T n false i o out S = mA T n1 false (i1 + 1) o (out ++ seg1) (bin (T i1) :: S) := fun S c => by
      rw [r1 S (hc3 S c)]
      exact mB_op (by rcases hle with g | g <;> rw [g] <;> decide) (by rcases hle with g | g <;> rw [g] <;> decide) (Nat.lt_of_le_of_lt c (by rcases hle with g | g <;> rw [g] <;> decide)) (fun z => by have := z.2; unfold condN at c; omega)
    have hcc : ∀ S, cond3 T (i1 + 1) (bin (T i1) :: S) := fun S => ⟨by rw [h4]; decide, Or.inr (by rw [h4]; decide)⟩
    refine q_aload_n (pc := 42) rfl rfl rfl ?_
    refine q_callV (pc := 43) _ rfl rfl rfl (by first | exact HR.pr H hl ps | exact HR.pf H hl fs | exact HR.c H hl _ rfl) rfl (Nat.le_of_ble_eq_true rfl) (by omega) _ rfl ?_
    refine c_token H hl (pt.fr f1) ps q2 ?_
    refine q_istore_n (pc := 46) [_, _] rfl (Nat.le_of_ble_eq_true rfl) rfl ?_
    refine q_aload_n (pc := 47) rfl rfl rfl ?_
    refine q_getf (pc := 48) rfl (by first | exact HR.pr H hl ps | exact HR.pf H hl fs | exact HR.c H hl _ rfl) rfl rfl ?_
    refine q_iconst (pc := 51) rfl (-1) (by decide) ?_
    refine q_icmpne (pc := 52) rfl (fun h52 => ?_) (fun h52 => ?_)
    · exact absurd rfl h52
    · first
      | (exfalso; omega (config := {splitDisjunctions := false}))
      | exact absurd rfl h52
      | skip
        refine q_iload_n (pc := 55) rfl rfl ?_
        refine q_bipush (pc := 56) rfl (-10) (by decide) ?_
        refine q_icmpeq (pc := 58) rfl (fun h58 => ?_) (fun h58 => ?_)
        · first
          | (exfalso; omega (config := {splitDisjunctions := false}))
          | exact absurd rfl h58
          | skip
            refine q_aload_n (pc := 67) rfl rfl rfl ?_
            refine q_dup (pc := 68) rfl rfl ?_
            refine q_getf (pc := 69) rfl (by first | exact HR.pr H hl ps | exact HR.pf H hl fs | exact HR.c H hl _ rfl) rfl rfl ?_
            refine q_iconst (pc := 72) rfl (nI 1) (by decide) ?_
            first | refine n_iadd (pc := 73) rfl ?_ | refine q_iadd (pc := 73) rfl ?_
            refine r_pf2 (pc := 74) (i := 4) rfl H hl rfl rfl rfl rfl (Nat.le_of_ble_eq_true rfl) rfl rfl ?_
            intro h H
            have ps := ps.nx (j := i1 + 1)
            have fr := f1.tr (pf.wr (s := s1) (j := 4) (v := nI (i1 + 1)) (by decide))
            refine q_aload_n (pc := 77) rfl rfl rfl ?_
            refine q_iconst (pc := 78) rfl (nI 3) (by decide) ?_
            refine q_callV (pc := 79) _ rfl rfl rfl (by first | exact HR.pr H hl ps | exact HR.pf H hl fs | exact HR.c H hl _ rfl) rfl (Nat.le_of_ble_eq_true rfl) (by omega) _ rfl ?_
            refine g3 n1 (i1 + 1) (by omega) (by omega) P h _ (out ++ seg1) _ H hl (pt.fr fr) ps (by rw [List.length_append]; omega) (by omega) ?_
            intro h s2 H f2 r2
            have fr := fr.tr f2
            rcases r2 with ⟨f, fs, r2⟩ | ⟨n2, i2, seg2, ps, u1, u2, u3, u4, hw2, hb2, r2⟩
            · exact p_n4F H hl (by omega) fs (kk _ _ H fr (Or.inl ⟨f, fs, fun S c => (hu S c).trans (r2 _ (hcc S))⟩)) _
            · exact p_n4K hl hd H ps (by rw [List.length_append, List.length_append]; omega) (fun h' s' H f2 ps => kk _ _ H (fr.tr f2) (Or.inr ⟨n2, i2, seg1 ++ seg2 ++ [T i1], by rw [← List.append_assoc, ← List.append_assoc]; exact ps, by omega, u2, by omega, by rw [List.length_append, List.length_append]; show _ + 1 + _ ≤ _; omega, by rw [← hbn.1]; exact wf_b hw1 hw2 (by rcases hbn.2 with g | g <;> rw [g] <;> decide), hb2, fun S c => by
                rw [hu S c, r2 _ (hcc S), ← List.append_assoc, ← List.append_assoc]
                unfold fN fB
                by_cases g : T i2 = -10 ∨ T i2 = -11
                · rw [if_pos g]
                  exact mB_le g (h4 S)
                · rw [if_neg g]
                  have h3 := b3_n hb2
                  have e := mB_s (T := T) (n := n2) (i := i2) (o := o) (x := bin (T i1)) (out := out ++ seg1 ++ seg2) (S := S) (by rcases hbn.2 with g | g <;> rw [g] <;> decide) (Nat.le_trans (rb_3 ⟨h3.1, h3.2.1, h3.2.2, g⟩) (by rcases hbn.2 with g | g <;> rw [g] <;> decide)) (by rcases hbn.2 with g | g <;> rw [g] <;> decide)
                  rw [hbn.1] at e
                  exact e⟩)) ()
        · first
          | (exfalso; omega (config := {splitDisjunctions := false}))
          | exact absurd rfl h58
          | skip
            refine q_iload_n (pc := 61) rfl rfl ?_
            refine q_bipush (pc := 62) rfl (-11) (by decide) ?_
            refine q_icmpne (pc := 64) rfl (fun h64 => ?_) (fun h64 => ?_)
            · exact (hle.elim (fun e => h58 e) (fun e => h64 e)).elim
            · first
              | (exfalso; omega (config := {splitDisjunctions := false}))
              | exact absurd rfl h64
              | skip
                refine q_aload_n (pc := 67) rfl rfl rfl ?_
                refine q_dup (pc := 68) rfl rfl ?_
                refine q_getf (pc := 69) rfl (by first | exact HR.pr H hl ps | exact HR.pf H hl fs | exact HR.c H hl _ rfl) rfl rfl ?_
                refine q_iconst (pc := 72) rfl (nI 1) (by decide) ?_
                first | refine n_iadd (pc := 73) rfl ?_ | refine q_iadd (pc := 73) rfl ?_
                refine r_pf2 (pc := 74) (i := 4) rfl H hl rfl rfl rfl rfl (Nat.le_of_ble_eq_true rfl) rfl rfl ?_
                intro h H
                have ps := ps.nx (j := i1 + 1)
                have fr := f1.tr (pf.wr (s := s1) (j := 4) (v := nI (i1 + 1)) (by decide))
                refine q_aload_n (pc := 77) rfl rfl rfl ?_
                refine q_iconst (pc := 78) rfl (nI 3) (by decide) ?_
                refine q_callV (pc := 79) _ rfl rfl rfl (by first | exact HR.pr H hl ps | exact HR.pf H hl fs | exact HR.c H hl _ rfl) rfl (Nat.le_of_ble_eq_true rfl) (by omega) _ rfl ?_
                refine g3 n1 (i1 + 1) (by omega) (by omega) P h _ (out ++ seg1) _ H hl (pt.fr fr) ps (by rw [List.length_append]; omega) (by omega) ?_
                intro h s2 H f2 r2
                have fr := fr.tr f2
                rcases r2 with ⟨f, fs, r2⟩ | ⟨n2, i2, seg2, ps, u1, u2, u3, u4, hw2, hb2, r2⟩
                · exact p_n4F H hl (by omega) fs (kk _ _ H fr (Or.inl ⟨f, fs, fun S c => (hu S c).trans (r2 _ (hcc S))⟩)) _
                · exact p_n4K hl hd H ps (by rw [List.length_append, List.length_append]; omega) (fun h' s' H f2 ps => kk _ _ H (fr.tr f2) (Or.inr ⟨n2, i2, seg1 ++ seg2 ++ [T i1], by rw [← List.append_assoc, ← List.append_assoc]; exact ps, by omega, u2, by omega, by rw [List.length_append, List.length_append]; show _ + 1 + _ ≤ _; omega, by rw [← hbn.1]; exact wf_b hw1 hw2 (by rcases hbn.2 with g | g <;> rw [g] <;> decide), hb2, fun S c => by
                    rw [hu S c, r2 _ (hcc S), ← List.append_assoc, ← List.append_assoc]
                    unfold fN fB
                    by_cases g : T i2 = -10 ∨ T i2 = -11
                    · rw [if_pos g]
                      exact mB_le g (h4 S)
                    · rw [if_neg g]
                      have h3 := b3_n hb2
                      have e := mB_s (T := T) (n := n2) (i := i2) (o := o) (x := bin (T i1)) (out := out ++ seg1 ++ seg2) (S := S) (by rcases hbn.2 with g | g <;> rw [g] <;> decide) (Nat.le_trans (rb_3 ⟨h3.1, h3.2.1, h3.2.2, g⟩) (by rcases hbn.2 with g | g <;> rw [g] <;> decide)) (by rcases hbn.2 with g | g <;> rw [g] <;> decide)
                      rw [hbn.1] at e
                      exact e⟩)) ()
  ·
    refine q_aload_n (pc := 42) rfl rfl rfl ?_
    refine q_callV (pc := 43) _ rfl rfl rfl (by first | exact HR.pr H hl ps | exact HR.pf H hl fs | exact HR.c H hl _ rfl) rfl (Nat.le_of_ble_eq_true rfl) (by omega) _ rfl ?_
    refine c_token H hl (pt.fr f1) ps q2 ?_
    refine q_istore_n (pc := 46) [_, _] rfl (Nat.le_of_ble_eq_true rfl) rfl ?_
    refine q_aload_n (pc := 47) rfl rfl rfl ?_
    refine q_getf (pc := 48) rfl (by first | exact HR.pr H hl ps | exact HR.pf H hl fs | exact HR.c H hl _ rfl) rfl rfl ?_
    refine q_iconst (pc := 51) rfl (-1) (by decide) ?_
    refine q_icmpne (pc := 52) rfl (fun h52 => ?_) (fun h52 => ?_)
    · exact absurd rfl h52
    · first
      | (exfalso; omega (config := {splitDisjunctions := false}))
      | exact absurd rfl h52
      | skip
        refine q_iload_n (pc := 55) rfl rfl ?_
        refine q_bipush (pc := 56) rfl (-10) (by decide) ?_
        refine q_icmpeq (pc := 58) rfl (fun h58 => ?_) (fun h58 => ?_)
        · exact absurd (Or.inl h58) hle
        · first
          | (exfalso; omega (config := {splitDisjunctions := false}))
          | exact absurd rfl h58
          | skip
            refine q_iload_n (pc := 61) rfl rfl ?_
            refine q_bipush (pc := 62) rfl (-11) (by decide) ?_
            refine q_icmpne (pc := 64) rfl (fun h64 => ?_) (fun h64 => ?_)
            · first
              | (exfalso; omega (config := {splitDisjunctions := false}))
              | exact absurd rfl h64
              | skip
                refine q_vret (pc := 87) rfl rfl ?_
                refine kk _ _ H f1 (Or.inr ⟨n1, i1, seg1, ps, q1, q2, q3, q4, hw1, hb1, fun S c => ?_⟩)
                rw [r1 S (hc3 S c)]
                unfold fN fB
                rw [if_neg hle]
            · exact absurd (Or.inr h64) hle
theorem p_neg {n i o : Nat} (hd : 3 ≤ d) (ho : o ≤ 5) (hkM : k < n + i) (g1 : o < 5 → ∀ m j, m < n → m + j = n + i → PC T pl k (d - 1) 41 [] m j (o + 1) condN (fN T) bad3) (g3 : ∀ m j, m ≤ n → m + j = n + i → PC T pl k (d - 1) 39 [.int (nI 3)] m j o (cond3 T j) (fB T) bad3) : PC T pl k d 41 [] n i o condN (fN T) bad3 := by
  intro P h s out Q H hl pt ps hout hik kk
  have k6 := pt.2.1
  by_cases hm : T i = -9
  · have hik2 : i < k := by
      rcases Nat.lt_or_ge i k with e | e
      · exact e
      · exfalso
        have e : i = k := by omega
        rw [e] at hm
        exact (isE_lv pt.2.2.2.1).2.2 (Or.inr (Or.inr hm))
    obtain ⟨n, rfl⟩ : ∃ m, n = m + 1 := ⟨n - 1, by omega⟩
    have ha : ¬ ¬ T i < -6 := fun z => z (by rw [hm]; decide)
    have hu : ∀ S, condN S → o < 5 → mA T (n + 1) false i o out S = mA T n false (i + 1) (o + 1) out (9 :: S) := fun S c h5 => by
      rw [mA, if_neg ha, if_pos ⟨Or.inr (Or.inr ⟨hm, c⟩), h5⟩, hm]
      rfl
    have hv : ∀ S, ¬ o < 5 → mA T (n + 1) false i o out S = .inl i := fun S h5 => by
      rw [mA, if_neg ha, if_neg (fun z => h5 z.2)]
    have hc9 : ∀ S, condN (9 :: S) := fun S => by show rk 9 ≤ 3; decide
    refine wc.go [_, _] rfl ?_
    refine q_aload_n (pc := 0) rfl rfl rfl ?_
    refine q_callV (pc := 1) _ rfl rfl rfl (by first | exact HR.pr H hl ps | exact HR.pf H hl fs | exact HR.c H hl _ rfl) rfl (Nat.le_of_ble_eq_true rfl) (by omega) _ rfl ?_
    refine c_token H hl pt ps hik ?_
    refine q_bipush (pc := 4) rfl (-9) (by decide) ?_
    refine q_icmpne (pc := 6) rfl (fun h6 => ?_) (fun h6 => ?_)
    · exact absurd hm h6
    · 
      first
      | (exfalso; omega (config := {splitDisjunctions := false}))
      | exact absurd rfl h6
      | skip
        refine q_aload_n (pc := 9) rfl rfl rfl ?_
        refine q_callV (pc := 10) _ rfl rfl rfl (by first | exact HR.pr H hl ps | exact HR.pf H hl fs | exact HR.c H hl _ rfl) rfl (Nat.le_of_ble_eq_true rfl) (by omega) _ rfl ?_
        refine c_opens (by omega) H hl pt ps hik ho (fun ho5 h H => ?_) (fun ho5 h H => ?_)
        · have ps := (ps.op (j := o + 1)).nx (j := i + 1)
          have fr := (pf.wr (s := s) (j := 5) (v := nI (o + 1)) (by decide)).tr (pf.wr (j := 4) (v := nI (i + 1)) (by decide))
          refine q_ifeq (pc := 13) rfl (fun z => absurd z (by decide)) (fun _ => ?_)
          refine q_aload_n (pc := 16) rfl rfl rfl ?_
          refine q_callV (pc := 17) _ rfl rfl rfl (by first | exact HR.pr H hl ps | exact HR.pf H hl fs | exact HR.c H hl _ rfl) rfl (Nat.le_of_ble_eq_true rfl) (by omega) _ rfl ?_
          refine g1 ho5 n (i + 1) (by omega) (by omega) P h _ out _ H hl (pt.fr fr) ps (by omega) (by omega) ?_
          intro h s1 H f1 r1
          have fr := fr.tr f1
          rcases r1 with ⟨f, fs, r1⟩ | ⟨n1, i1, seg1, ps, q1, q2, q3, q4, hw1, hb1, r1⟩
          · exact p_nF H hl (by omega) fs (fun h' s' H f2 fs => kk _ _ H (fr.tr f2) (Or.inl ⟨f, fs, fun S c => by rw [hu S c ho5]; exact r1 _ (hc9 S)⟩)) _
          · refine p_nK H hl (by omega) ps (by rw [List.length_append]; omega) (fun h' s' H f2 ps => kk _ _ H (fr.tr f2) (Or.inr ⟨n1, i1, seg1 ++ [-9], by rw [← List.append_assoc]; exact ps, by omega, q2, by omega, by rw [List.length_append]; show _ + 1 + _ ≤ _; omega, wf_u (x := 9) hw1 (Or.inl rfl), hb1, fun S c => ?_⟩)) _
            rw [hu S c ho5, r1 _ (hc9 S), ← List.append_assoc]
            unfold fN
            by_cases g : T i1 = -10 ∨ T i1 = -11
            · rw [if_pos g, if_pos g]
            · rw [if_neg g, if_neg g]
              have h3 := b3_n hb1
              exact mB_u (by decide) (Nat.le_trans (rb_3 ⟨h3.1, h3.2.1, h3.2.2, g⟩) (by decide)) (Or.inl rfl)
        · have fs : FS (stv s 25 9 (nI (pl i))) pl k i := ⟨⟨hik, pt.2.2.1 i hik⟩, stv_a⟩
          have fr := pf.wr (s := s) (j := 9) (v := nI (pl i)) (by decide)
          refine q_ifeq (pc := 13) rfl (fun _ => ?_) (fun z => absurd (by decide) z)
          refine q_vret (pc := 36) rfl rfl ?_
          exact kk _ _ H fr (Or.inl ⟨i, fs, fun S _ => hv S ho5⟩)
  · have hc3 : ∀ S, condN S → cond3 T i S := fun S c => ⟨Nat.lt_of_le_of_lt c (by decide), Or.inl hm⟩
    refine wc.go [_, _] rfl ?_
    refine q_aload_n (pc := 0) rfl rfl rfl ?_
    refine q_callV (pc := 1) _ rfl rfl rfl (by first | exact HR.pr H hl ps | exact HR.pf H hl fs | exact HR.c H hl _ rfl) rfl (Nat.le_of_ble_eq_true rfl) (by omega) _ rfl ?_
    refine c_token H hl pt ps hik ?_
    refine q_bipush (pc := 4) rfl (-9) (by decide) ?_
    refine q_icmpne (pc := 6) rfl (fun h6 => ?_) (fun h6 => ?_)
    · 
      first
      | (exfalso; omega (config := {splitDisjunctions := false}))
      | exact absurd rfl h6
      | skip
        refine q_aload_n (pc := 37) rfl rfl rfl ?_
        refine q_iconst (pc := 38) rfl (nI 3) (by decide) ?_
        refine q_callV (pc := 39) _ rfl rfl rfl (by first | exact HR.pr H hl ps | exact HR.pf H hl fs | exact HR.c H hl _ rfl) rfl (Nat.le_of_ble_eq_true rfl) (by omega) _ rfl ?_
        refine g3 n i (Nat.le_refl _) rfl P h s out _ H hl pt ps hout hik ?_
        intro h s1 H f1 r1
        rcases r1 with ⟨f, fs, r1⟩ | ⟨n1, i1, seg1, ps, q1, q2, q3, q4, hw1, hb1, r1⟩
        · exact p_n3F H hl (by omega) fs (kk _ _ H f1 (Or.inl ⟨f, fs, fun S c => r1 S (hc3 S c)⟩)) _
        · exact p_n3K hd ho (by omega) hl pt g3 hc3 H f1 ps q1 q2 q3 q4 hw1 hb1 r1 hout kk _
    · exact absurd h6 hm
/-- all levels -/
def LV (T : Nat → Int32) (pl : Nat → Nat) (k M n : Nat) : Prop := ∀ i o d, n + i = M → o ≤ 5 → (12 * (5 - o) + 2 ≤ d → PC T pl k d 42 [] n i o (condS T i) (f7 T) bad5) ∧ (12 * (5 - o) + 4 ≤ d → PC T pl k d 39 [.int (nI 4)] n i o (cond4 T i) (fB T) bad4) ∧ (12 * (5 - o) + 6 ≤ d → PC T pl k d 39 [.int (nI 3)] n i o (cond3 T i) (fB T) bad3) ∧ (12 * (5 - o) + 7 ≤ d → PC T pl k d 41 [] n i o condN (fN T) bad3) ∧ (12 * (5 - o) + 9 ≤ d → PC T pl k d 39 [.int (nI 1)] n i o cond1 (fN T) bad1) ∧ (12 * (5 - o) + 11 ≤ d → PC T pl k d 39 [.int (nI 0)] n i o cond0 (fN T) bad0)
theorem p_all (hkM : k < M) : ∀ n, LV T pl k M n := by
  intro n
  induction n using Nat.strongRecOn with
  | ind n ih =>
  have s1 : ∀ m i o d, m ≤ n → m + i = M → o ≤ 5 → 12 * (5 - o) + 2 ≤ d → PC T pl k d 42 [] m i o (condS T i) (f7 T) bad5 := by
    intro m i o d hm hi ho hd
    rcases Nat.eq_or_lt_of_le hm with e | e
    · subst e
      exact p_single (by omega) ho (by omega) (fun h5 m' j h1 h2 => (ih m' h1 j (o + 1) (d - 1) (by omega) (by omega)).2.2.2.2.2 (by omega)) (fun h5 m' j h1 h2 => (ih m' h1 j (o + 1) (d - 1) (by omega) (by omega)).1 (by omega))
    · exact (ih m e i o d hi ho).1 hd
  have s4 : ∀ m i o d, m ≤ n → m + i = M → o ≤ 5 → 12 * (5 - o) + 4 ≤ d → PC T pl k d 39 [.int (nI 4)] m i o (cond4 T i) (fB T) bad4 := by
    intro m i o d hm hi ho hd
    exact p_chain (condO := condS T) (by omega) (by decide) (by omega) (fun n1 i1 e1 e2 => p_op5 (by omega) (s1 n1 i1 o _ (by omega) (by omega) ho (by omega))) (fun S c => c.2) alg4
  have s3 : ∀ m i o d, m ≤ n → m + i = M → o ≤ 5 → 12 * (5 - o) + 6 ≤ d → PC T pl k d 39 [.int (nI 3)] m i o (cond3 T i) (fB T) bad3 := by
    intro m i o d hm hi ho hd
    exact p_chain (condO := cond4 T) (by omega) (by decide) (by omega) (fun n1 i1 e1 e2 => p_opC (by omega) (by decide) (s4 n1 i1 o _ (by omega) (by omega) ho (by omega))) (fun S c => ⟨Nat.lt_trans c.1 (by decide), c.2⟩) alg3
  have sN : ∀ m i o d, m ≤ n → m + i = M → o ≤ 5 → 12 * (5 - o) + 7 ≤ d → PC T pl k d 41 [] m i o condN (fN T) bad3 := by
    intro m i o d hm hi ho hd
    rcases Nat.eq_or_lt_of_le hm with e | e
    · subst e
      exact p_neg (by omega) ho (by omega) (fun h5 m' j h1 h2 => (ih m' h1 j (o + 1) (d - 1) (by omega) (by omega)).2.2.2.1 (by omega)) (fun m' j h1 h2 => s3 m' j o _ h1 (by omega) ho (by omega))
    · exact (ih m e i o d hi ho).2.2.2.1 hd
  have sA : ∀ m i o d, m ≤ n → m + i = M → o ≤ 5 → 12 * (5 - o) + 9 ≤ d → PC T pl k d 39 [.int (nI 1)] m i o cond1 (fN T) bad1 := by
    intro m i o d hm hi ho hd
    exact p_chain (condO := fun _ => condN) (by omega) (by decide) (by omega) (fun n1 i1 e1 e2 => p_op2 (by omega) (sN n1 i1 o _ (by omega) (by omega) ho (by omega))) (fun S c => Nat.le_trans c (by decide)) alg1
  have s0 : ∀ m i o d, m ≤ n → m + i = M → o ≤ 5 → 12 * (5 - o) + 11 ≤ d → PC T pl k d 39 [.int (nI 0)] m i o cond0 (fN T) bad0 := by
    intro m i o d hm hi ho hd
    exact p_chain (condO := fun _ => cond1) (by omega) (by decide) (by omega) (fun n1 i1 e1 e2 => p_opC (by omega) (by decide) (sA n1 i1 o _ (by omega) (by omega) ho (by omega))) (fun S c => by show lr S ≤ 1; have : lr S = 0 := c; omega) alg0
  intro i o d hi ho
  exact ⟨fun g => s1 n i o d (Nat.le_refl _) hi ho g, fun g => s4 n i o d (Nat.le_refl _) hi ho g, fun g => s3 n i o d (Nat.le_refl _) hi ho g, fun g => sN n i o d (Nat.le_refl _) hi ho g, fun g => sA n i o d (Nat.le_refl _) hi ho g, fun g => s0 n i o d (Nat.le_refl _) hi ho g⟩
end P43
