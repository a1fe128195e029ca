/-! ===== a tide, a night ===== -/
def tru (C : Nat → Nat → Int32) (E : Nat → Nat → Nat) (β : Nat → Nat) (p c : Nat) : Bool := decide (lyN C E β p c = β (36 + c))
def ngt (C : Nat → Nat → Int32) (E : Nat → Nat → Nat) (p m : Nat) : Nat → (Nat → Nat) → Nat → Nat → Nat → (Nat → Nat) × Nat × Nat
  | 0, β, _, sp, rl => (β, sp, rl)
  | n + 1, β, dn, sp, rl => if nst (nfr β dn) (apN (β (72 + 4 * p + 2))) 36 = 36 ∨ m - sp < mnN C E β p (nst (nfr β dn) (apN (β (72 + 4 * p + 2))) 36) then (β, sp, rl) else ngt C E p m n (layb C E β p (nst (nfr β dn) (apN (β (72 + 4 * p + 2))) 36)) (dn ||| 2 ^ nst (nfr β dn) (apN (β (72 + 4 * p + 2))) 36) (sp + mnN C E β p (nst (nfr β dn) (apN (β (72 + 4 * p + 2))) 36)) (rl + 1)
theorem bok_lay {C : Nat → Nat → Int32} {E : Nat → Nat → Nat} {β : Nat → Nat} {n p c : Nat} (hk : bok β n) (hp : p < 4) (hc : c < 36) : bok (layb C E β p c) n := by
  obtain ⟨h1, h2, h3, h4, h5⟩ := hk
  have hl := lyG_le C E (β := β) (β (72 + 4 * p)) (β (72 + 4 * p + 1)) (β 90) c (h1 _ (by omega))
  unfold layb upN lyN
  have hmin : min (β (72 + 4 * p + 3) + 1) 9999 ≤ 9999 := Nat.min_le_right _ _
  generalize min (β (72 + 4 * p + 3) + 1) 9999 = mz at hmin
  generalize lyG C E β (β (72 + 4 * p)) (β (72 + 4 * p + 1)) (β 90) c = lz at hl
  refine ⟨fun i hi => ?_, fun q hq => ?_, ?_, ?_, ?_⟩
  · have := h1 i hi
    dsimp only
    repeat' split
    all_goals omega
  · obtain ⟨g1, g2, g3, g4⟩ := h2 q hq
    refine ⟨?_, ?_, ?_, ?_⟩ <;> dsimp only <;> (repeat' split) <;> omega
  · dsimp only
    repeat' split
    all_goals omega
  · dsimp only
    repeat' split
    all_goals omega
  · dsimp only
    repeat' split
    all_goals omega
theorem bok_flo {C : Nat → Nat → Int32} {E : Nat → Nat → Nat} {β : Nat → Nat} {n r : Nat} (hk : bok β n) (h9 : β 89 ≤ 999) : bok (flob C E β r) n := by
  obtain ⟨h1, h2, h3, h4, h5⟩ := hk
  have hl : ∀ c, lfG C E β (β 90) c ≤ 9 := fun c => (bdN_le (by decide)).2
  unfold flob
  refine ⟨fun i hi => ?_, fun q hq => ?_, ?_, ?_, ?_⟩
  · have := h1 i hi
    have := hl i
    dsimp only
    repeat' split
    all_goals omega
  · obtain ⟨g1, g2, g3, g4⟩ := h2 q hq
    refine ⟨?_, ?_, ?_, ?_⟩ <;> dsimp only <;> (repeat' split) <;> omega
  · dsimp only
    repeat' split
    all_goals omega
  · dsimp only
    repeat' split
    all_goals omega
  · dsimp only
    repeat' split
    all_goals omega
theorem mnN_le {C : Nat → Nat → Int32} {E : Nat → Nat → Nat} {β : Nat → Nat} {n p c : Nat} (hk : bok β n) (hp : p < 4) (hc : c < 36) : mnN C E β p c ≤ 109 := by
  have h1 := apN_le (hk.2.1 p hp).2.2.1 hc
  have h2 := tkG_b C E β (β (72 + 4 * p)) (β (72 + 4 * p + 1)) (β 90) c
  unfold mnN tkN
  omega
/-- the first of the marks are what the tide left -/
def flo1 (C : Nat → Nat → Int32) (E : Nat → Nat → Nat) (β : Nat → Nat) (f c : Nat) : Nat → Nat := fun i => if f ≤ i ∧ i < c then lfG C E β (β 90) i else β i
theorem flo1_s (C : Nat → Nat → Int32) (E : Nat → Nat → Nat) (β : Nat → Nat) {f c : Nat} (h : f ≤ c) : upN (flo1 C E β f c) c (lfG C E β (β 90) c) = flo1 C E β f (c + 1) := by
  funext i
  unfold upN flo1
  by_cases e : i = c
  · subst e; rw [if_pos rfl, if_pos (by omega)]
  · rw [if_neg e]
    by_cases g : f ≤ i ∧ i < c
    · rw [if_pos g, if_pos (by omega)]
    · rw [if_neg g, if_neg (by omega)]
theorem flo1_0 (C : Nat → Nat → Int32) (E : Nat → Nat → Nat) (β : Nat → Nat) (f : Nat) : flo1 C E β f f = β := by
  funext i
  unfold flo1
  rw [if_neg (by omega)]
section P26
variable {d k pc a i j c p b t n m part : Nat} {v : Int} {L L' : mx_L} {st r : List Value} {P : mx_Pm} {h : mx_H} {s : mx_St} {Q : Option Value → mx_H → Prop} {x y w : Int32} {β : Nat → Nat} {C : Nat → Nat → Int32} {E : Nat → Nat → Nat}
theorem c_flood1 (hd : 3 ≤ d) (hl : 51 ≤ P.1) (hb : isB b) (hk : bok β P.2.1) {s0 : mx_St} {x0 : Int32} {f : Nat} (kk : ∀ h' s', HR P h' s' → BT s' b β → TB P s' C E → sf s0 s' (fun i => 33 ≤ i ∧ i < 36) → (∀ j, f ≤ j → j < 36 → s' 35 j = nI (lfG C E β (β 90) j)) → wq d 51 44 [some (.ref 31), some (.ref b), some (.int x0), some (.int (nI f)), some (.int (nI 36))] [] h' Q) (c : Nat) (hc : f ≤ c ∧ c ≤ 36) (h : mx_H) (s : mx_St) (H : HR P h s) (hβ : BT s b β) (T : TB P s C E) (hs : sf s0 s (fun i => 33 ≤ i ∧ i < 36)) (hj : ∀ j, f ≤ j → j < c → s 35 j = nI (lfG C E β (β 90) j)) : wq d 51 17 [some (.ref 31), some (.ref b), some (.int x0), some (.int (nI f)), some (.int (nI c))] [] h Q := by
  refine q_iload (pc := 17) rfl rfl ?_
  refine q_bipush (pc := 19) rfl (nI 36) (by decide) ?_
  first | refine n_icmpge (pc := 21) rfl (by omega) (by omega) (fun h21 => ?_) (fun h21 => ?_) | refine q_icmpge (pc := 21) rfl (fun h21 => ?_) (fun h21 => ?_)
  · obtain rfl : c = 36 := by omega
    exact kk _ _ H hβ T hs hj
  · refine q_aload_n (pc := 24) rfl rfl rfl ?_
    refine q_getf (pc := 25) rfl (by exact HR.R H hl T.1) rfl rfl ?_
    refine q_iload (pc := 28) rfl rfl ?_
    refine q_aload_n (pc := 30) rfl rfl rfl ?_
    refine q_aload_n (pc := 31) rfl rfl rfl ?_
    refine q_iload (pc := 32) rfl rfl ?_
    refine q_callV (pc := 34) _ rfl rfl rfl (by exact HR.R H hl T.1) rfl (Nat.le_of_ble_eq_true rfl) (by omega) _ rfl ?_
    refine c_leftOf (by omega) H hl hb hβ T hk h21 ?_
    intro h s1 H k1
    have hβ := hβ.fr k1 (scr_B hb (fun i e => by omega))
    have T := T.fr k1 (fun i e => by omega)
    refine r_ist2 (pc := 37) rfl H hl rfl (fun _ => rfl) rfl (by omega) (by omega) ?_
    intro h H
    first | refine n_iinc (pc := 38) rfl [_, _, _, _, _] 1 (by decide) rfl rfl ?_ | refine q_iinc (pc := 38) [_, _, _, _, _] (1) rfl rfl (by decide) rfl ?_
    refine q_goto (pc := 41) rfl ?_
    refine c_flood1 hd hl hb hk kk (c + 1) (by omega) h _ H (hβ.fr (S := fun i => i = 35) (sf.rf.st rfl) (scr_B hb (fun i e => by omega))) (T.fr (S := fun i => i = 35) (sf.rf.st rfl) (fun i e => by omega)) ((hs.tr (k1.mono (fun i e => by omega))).st (by omega)) (fun j g1 g2 => ?_)
    by_cases e : j = c
    · subst e; exact stv_a
    · rw [stv_o e, k1 35 (by omega)]; exact hj j g1 (by omega)
termination_by 36 - c
theorem c_flood2 (hl : 51 ≤ P.1) (hb : isB b) {s0 : mx_St} {x0 : Int32} {f : Nat} (h9 : β 89 ≤ 1000) (kk : ∀ h' s', HR P h' s' → BT s' b (upN (flo1 C E β f 36) 89 (β 89 + 1)) → TB P s' C E → sf s0 s' (fun i => (b ≤ i ∧ i < b + 8) ∨ (33 ≤ i ∧ i < 36)) → Q none h') (c : Nat) (hc : f ≤ c ∧ c ≤ 36) (h : mx_H) (s : mx_St) (H : HR P h s) (hβ : BT s b (flo1 C E β f c)) (T : TB P s C E) (hs : sf s0 s (fun i => (b ≤ i ∧ i < b + 8) ∨ (33 ≤ i ∧ i < 36))) (hj : ∀ j, f ≤ j → j < 36 → s 35 j = nI (lfG C E β (β 90) j)) : wq d 51 47 [some (.ref 31), some (.ref b), some (.int x0), some (.int (nI f)), some (.int (nI c))] [] h Q := by
  have hb4 : b ≤ 17 := by unfold isB at hb; omega
  have e89 : flo1 C E β f c 89 = β 89 := by unfold flo1; rw [if_neg (by omega)]
  refine q_iload (pc := 47) rfl rfl ?_
  refine q_bipush (pc := 49) rfl (nI 36) (by decide) ?_
  first | refine n_icmpge (pc := 51) rfl (by omega) (by omega) (fun h51 => ?_) (fun h51 => ?_) | refine q_icmpge (pc := 51) rfl (fun h51 => ?_) (fun h51 => ?_)
  · refine q_aload_n (pc := 74) rfl rfl rfl ?_
    refine q_dup (pc := 75) rfl rfl ?_
    refine q_getf (pc := 76) rfl (by exact HR.B H hl hb hβ) rfl rfl ?_
    rw [e89]
    refine q_iconst (pc := 79) rfl (nI 1) (by decide) ?_
    first | refine n_iadd (pc := 80) rfl ?_ | refine q_iadd (pc := 80) rfl ?_
    refine r_pf2 (pc := 81) (i := 4) rfl H hl (okB hb) (ecB hb _) rfl rfl (Nat.le_of_ble_eq_true rfl) rfl (ecB hb _) ?_
    intro h H
    have hβ := BT.pt (v := β 89 + 1) (c := b) (i := 4) (j := 89) hβ (Or.inr (Or.inr (Or.inr ⟨rfl, by decide, by decide, rfl⟩)))
    refine q_vret (pc := 84) rfl rfl ?_
    obtain rfl : c = 36 := by omega
    exact kk _ _ H hβ (T.fr (S := fun i => i = b) (sf.rf.st rfl) (fun i e => by omega)) (hs.st (by omega))
  · refine q_aload_n (pc := 54) rfl rfl rfl ?_
    refine q_getf (pc := 55) rfl (by exact HR.B H hl hb hβ) rfl rfl ?_
    refine q_iload (pc := 58) rfl rfl ?_
    refine q_aload_n (pc := 60) rfl rfl rfl ?_
    refine q_getf (pc := 61) rfl (by exact HR.R H hl T.1) rfl rfl ?_
    refine q_iload (pc := 64) rfl rfl ?_
    refine n_ild (pc := 66) rfl (by exact HR.la0 H hl rfl rfl) rfl (by omega) (by omega) ?_
    rw [hj c (by omega) (by omega)]
    refine r_ist2 (pc := 67) rfl H hl (okB1 hb) (ecB1 hb) rfl (by omega) (by omega) ?_
    intro h H
    have hβ := BT.pt (v := lfG C E β (β 90) c) (c := b + 1) (i := c) hβ (Or.inl ⟨rfl, h51, rfl⟩)
    rw [flo1_s C E β hc.1] at hβ
    first | refine n_iinc (pc := 68) rfl [_, _, _, _, _] 1 (by decide) rfl rfl ?_ | refine q_iinc (pc := 68) [_, _, _, _, _] (1) rfl rfl (by decide) rfl ?_
    refine q_goto (pc := 71) rfl ?_
    exact c_flood2 hl hb h9 kk (c + 1) (by omega) h _ H hβ (T.fr (S := fun i => i = b + 1) (sf.rf.st rfl) (fun i e => by omega)) (hs.st (by omega)) (fun j g1 g2 => (congrFun (stv_n (by omega)) _).trans (hj j g1 g2))
termination_by 36 - c
theorem flo1_f {r : Nat} (hr : r ≤ 6) : upN (flo1 C E β (36 - 6 * r) 36) 89 (β 89 + 1) = flob C E β r := by
  funext i
  unfold upN flo1 flob
  by_cases e : i = 89
  · subst e; rw [if_pos rfl, if_neg (by omega), if_pos rfl]
  · rw [if_neg e]
    by_cases g : 36 - 6 * r ≤ i ∧ i < 36
    · rw [if_pos g, if_pos g]
    · rw [if_neg g, if_neg g, if_neg e]
theorem c_flood (hd : 3 ≤ d) (H : HR P h s) (hl : 51 ≤ P.1) (hb : isB b) (hβ : BT s b β) (T : TB P s C E) (hk : bok β P.2.1) {r : Nat} (hr : r ≤ 6) (kk : ∀ h' s', HR P h' s' → BT s' b (flob C E β r) → TB P s' C E → sf s s' (fun i => (b ≤ i ∧ i < b + 8) ∨ (33 ≤ i ∧ i < 36)) → Q none h') : wc d 51 [.ref 31, .ref b, .int (nI r)] h Q := by
  rw [← flo1_f hr] at kk
  have h9 := hk.2.2.2.1
  have hb4 : b ≤ 17 := by unfold isB at hb; omega
  have t44 : ∀ h' s', HR P h' s' → BT s' b β → TB P s' C E → sf s s' (fun i => 33 ≤ i ∧ i < 36) → (∀ j, 36 - 6 * r ≤ j → j < 36 → s' 35 j = nI (lfG C E β (β 90) j)) → wq d 51 44 [some (.ref 31), some (.ref b), some (.int (nI r)), some (.int (nI (36 - 6 * r))), some (.int (nI 36))] [] h' Q := by
    intro h s1 H hβ T k1 k2
    refine q_iload_n (pc := 44) rfl rfl ?_
    refine q_istore (pc := 45) [_, _, _, _, _] rfl (Nat.le_of_ble_eq_true rfl) rfl ?_
    refine c_flood2 hl hb h9 kk _ (by omega) h s1 H ?_ T (k1.mono (fun i e => by omega)) k2
    rw [flo1_0]; exact hβ
  refine wc.go [_, _, _, _, _] rfl ?_
  refine q_bipush (pc := 0) rfl (nI 36) (by decide) ?_
  refine q_bipush (pc := 2) rfl (nI 6) (by decide) ?_
  refine q_iload_n (pc := 4) rfl rfl ?_
  refine q_iconst (pc := 5) rfl (nI 0) (by decide) ?_
  refine q_bipush (pc := 6) rfl (nI 6) (by decide) ?_
  refine q_callS (pc := 8) _ (by decide) rfl rfl rfl rfl (Nat.le_of_ble_eq_true rfl) (by omega) _ rfl ?_
  refine c_boundX (by decide) (by decide) ?_
  rw [bdN_n (by omega), show max 0 (min r 6) = r by omega]
  first | refine n_imul (pc := 11) rfl ?_ | refine q_imul (pc := 11) rfl ?_
  first | refine n_isub (pc := 12) rfl (by omega) ?_ | refine q_isub (pc := 12) rfl ?_
  refine q_istore_n (pc := 13) [_, _, _, _, _] rfl (Nat.le_of_ble_eq_true rfl) rfl ?_
  refine q_iload_n (pc := 14) rfl rfl ?_
  refine q_istore (pc := 15) [_, _, _, _, _] rfl (Nat.le_of_ble_eq_true rfl) rfl ?_
  refine c_flood1 hd hl hb hk ?_ _ (by omega) h s H hβ T sf.rf (fun j g1 g2 => by omega)
  intro h s1 H hβ T k1 k2
  exact t44 h s1 H hβ T k1 k2
theorem c_trueL (hd : 3 ≤ d) (hl : 51 ≤ P.1) (hb : isB b) (hk : bok β P.2.1) (hp : p < 4) {s0 : mx_St} (kk : ∀ h' s', HR P h' s' → BT s' b β → TB P s' C E → sf s0 s' (fun i => 33 ≤ i ∧ i < 36) → Q (some (.long (lN (bset (tru C E β p) 36)))) h') (c : Nat) (hc : c ≤ 36) (h : mx_H) (s : mx_St) (H : HR P h s) (hβ : BT s b β) (T : TB P s C E) (hs : sf s0 s (fun i => 33 ≤ i ∧ i < 36)) : wq d 52 5 [some (.ref 31), some (.ref b), some (.ref (b + 4 + p)), some (.long (lN (bset (tru C E β p) c))), none, some (.int (nI c))] [] h Q := by
  have g2 := lyG_le C E (β := β) (β (72 + 4 * p)) (β (72 + 4 * p + 1)) (β 90) c
  have g2 : c < 36 → lyN C E β p c ≤ 9 := fun z => g2 (hk.1 _ (by omega))
  refine q_iload (pc := 5) rfl rfl ?_
  refine q_bipush (pc := 7) rfl (nI 36) (by decide) ?_
  first | refine n_icmpge (pc := 9) rfl (by omega) (by omega) (fun h9 => ?_) (fun h9 => ?_) | refine q_icmpge (pc := 9) rfl (fun h9 => ?_) (fun h9 => ?_)
  · obtain rfl : c = 36 := by omega
    refine q_lload_n (pc := 44) rfl rfl ?_
    refine q_lret (pc := 45) rfl rfl ?_
    exact kk _ _ H hβ T hs
  · have g1 := hk.1 (36 + c) (by omega)
    have g3 := g2 h9
    refine q_aload_n (pc := 12) rfl rfl rfl ?_
    refine q_aload_n (pc := 13) rfl rfl rfl ?_
    refine q_aload_n (pc := 14) rfl rfl rfl ?_
    refine q_iload (pc := 15) rfl rfl ?_
    refine q_callV (pc := 17) _ rfl rfl rfl (by exact HR.R H hl T.1) rfl (Nat.le_of_ble_eq_true rfl) (by omega) _ rfl ?_
    refine c_laysOf (by omega) H hl hb hβ T hk hp h9 ?_
    intro h s1 H k1
    have hβ := hβ.fr k1 (scr_B hb (fun i e => by omega))
    have T := T.fr k1 (fun i e => by omega)
    refine q_aload_n (pc := 20) rfl rfl rfl ?_
    refine q_getf (pc := 21) rfl (by exact HR.B H hl hb hβ) rfl rfl ?_
    refine q_iload (pc := 24) rfl rfl ?_
    refine n_ild (pc := 26) rfl (by first | exact HR.am H hl hb hβ | exact HR.ap H hl hb hβ | exact HR.la0 H hl rfl rfl) rfl (by omega) (by omega) ?_
    first | refine n_icmpne (pc := 27) rfl (by omega) (by omega) (fun h27 => ?_) (fun h27 => ?_) | refine q_icmpne (pc := 27) rfl (fun h27 => ?_) (fun h27 => ?_)
    · rw [← bset_f (f := tru C E β p) (decide_eq_false h27)]
      first | refine n_iinc (pc := 38) rfl [_, _, _, _, _, _] 1 (by decide) rfl rfl ?_ | refine q_iinc (pc := 38) [_, _, _, _, _, _] (1) rfl rfl (by decide) rfl ?_
      refine q_goto (pc := 41) rfl ?_
      exact c_trueL hd hl hb hk hp kk (c + 1) (by omega) h s1 H hβ T (hs.tr k1)
    · refine q_lload_n (pc := 30) rfl rfl ?_
      refine q_iload (pc := 31) rfl rfl ?_
      refine q_callS (pc := 33) _ (by decide) rfl rfl rfl rfl (Nat.le_of_ble_eq_true rfl) (by omega) _ rfl ?_
      refine c_bitN (by omega) ?_
      first | refine n_lor (pc := 36) rfl ?_ | refine q_lor (pc := 36) rfl ?_
      rw [← bset_t (f := tru C E β p) (decide_eq_true h27)]
      refine q_lstore_n (pc := 37) [_, _, _, _, _, _] rfl (Nat.le_of_ble_eq_true rfl) rfl ?_
      first | refine n_iinc (pc := 38) rfl [_, _, _, _, _, _] 1 (by decide) rfl rfl ?_ | refine q_iinc (pc := 38) [_, _, _, _, _, _] (1) rfl rfl (by decide) rfl ?_
      refine q_goto (pc := 41) rfl ?_
      exact c_trueL hd hl hb hk hp kk (c + 1) (by omega) h s1 H hβ T (hs.tr k1)
termination_by 36 - c
theorem c_true (hd : 3 ≤ d) (H : HR P h s) (hl : 51 ≤ P.1) (hb : isB b) (hβ : BT s b β) (T : TB P s C E) (hk : bok β P.2.1) (hp : p < 4) (kk : ∀ h' s', HR P h' s' → BT s' b β → TB P s' C E → sf s s' (fun i => 33 ≤ i ∧ i < 36) → Q (some (.long (lN (bset (tru C E β p) 36)))) h') : wc d 52 [.ref 31, .ref b, .ref (b + 4 + p)] h Q := by
  refine wc.go [_, _, _, _, _, _] rfl ?_
  refine q_lconst (pc := 0) rfl (0) (by decide) ?_
  refine q_lstore_n (pc := 1) [_, _, _, _, _, _] rfl (Nat.le_of_ble_eq_true rfl) rfl ?_
  refine q_iconst (pc := 2) rfl (nI 0) (by decide) ?_
  refine q_istore (pc := 3) [_, _, _, _, _, _] rfl (Nat.le_of_ble_eq_true rfl) rfl ?_
  exact c_trueL hd hl hb hk hp kk 0 (by omega) h s H hβ T sf.rf
theorem c_passL (hd : 4 ≤ d) (hl : 51 ≤ P.1) (hb : isB b) (hp : p < 4) (hm : m ≤ 999) {s0 : mx_St} (r : (Nat → Nat) × Nat × Nat) (kk : ∀ h' s', HR P h' s' → BT s' b r.1 → TB P s' C E → bok r.1 P.2.1 → r.2.1 ≤ m → r.2.2 ≤ 36 → s' 36 0 = nI r.2.1 → s' 36 1 = nI r.2.2 → sf s0 s' (fun i => (b ≤ i ∧ i < b + 8) ∨ (33 ≤ i ∧ i < 37)) → Q none h') (n i dn sp : Nat) (hi : i + n = 36) (β : Nat → Nat) (hr : ngt C E p m n β dn sp i = r) (hk : bok β P.2.1) (hdn : dn < 2 ^ 36) (hsp : sp ≤ m) (h : mx_H) (s : mx_St) (H : HR P h s) (hβ : BT s b β) (T : TB P s C E) (e0 : s 36 0 = nI sp) (e1 : s 36 1 = nI i) (hs : sf s0 s (fun i => (b ≤ i ∧ i < b + 8) ∨ (33 ≤ i ∧ i < 37))) (z8 : Option Value) : wq d 13 16 [some (.ref 36), some (.ref b), some (.ref (b + 4 + p)), some (.ref 31), some (.int (nI m)), some (.long (lN dn)), none, some (.int (nI i)), z8] [] h Q := by
  have hb4 : b ≤ 17 := by unfold isB at hb; omega
  have hat := (hk.2.1 p hp).2.2.1
  match n, hi, hr with
  | 0, hi, hr =>
    subst hr
    refine q_iload (pc := 16) rfl rfl ?_
    refine q_bipush (pc := 18) rfl (nI 36) (by decide) ?_
    first | refine n_icmpge (pc := 20) rfl (by omega) (by omega) (fun h20 => ?_) (fun h20 => ?_) | refine q_icmpge (pc := 20) rfl (fun h20 => ?_) (fun h20 => ?_)
    · refine q_vret (pc := 105) rfl rfl ?_
      exact kk _ _ H hβ T hk hsp (by show i ≤ 36; omega) e0 e1 hs
    · first | (exfalso; omega) | exact absurd h20 (nI_pos (by omega)) | exact absurd (nI_pos' (by omega)) h20
  | n + 1, hi, hr =>
    unfold ngt at hr
    have hL := nst_lt (nfr β dn) (apN (β (72 + 4 * p + 2))) 36
    generalize hcc : nst (nfr β dn) (apN (β (72 + 4 * p + 2))) 36 = c at hr hL
    refine q_iload (pc := 16) rfl rfl ?_
    refine q_bipush (pc := 18) rfl (nI 36) (by decide) ?_
    first | refine n_icmpge (pc := 20) rfl (by omega) (by omega) (fun h20 => ?_) (fun h20 => ?_) | refine q_icmpge (pc := 20) rfl (fun h20 => ?_) (fun h20 => ?_)
    · first | (exfalso; omega) | exact absurd h20 (nI_pos (by omega)) | exact absurd (nI_pos' (by omega)) h20
    · refine q_aload_n (pc := 23) rfl rfl rfl ?_
      refine q_aload_n (pc := 24) rfl rfl rfl ?_
      refine q_getf (pc := 25) rfl (by exact HR.O H hl hb hβ hp) rfl rfl ?_
      refine q_lload (pc := 28) rfl rfl ?_
      refine q_callV (pc := 30) _ rfl rfl rfl (by exact HR.B H hl hb hβ) rfl (Nat.le_of_ble_eq_true rfl) (by omega) _ rfl ?_
      refine c_nearest (by omega) H hl hb hβ hk.1 hdn hat ?_
      rw [hcc]
      rcases (show c < 36 ∨ c = 36 by omega) with q | q
      · rw [oc, if_pos q]
        refine q_istore (pc := 33) [_, _, _, _, _, _, _, _, _] rfl (Nat.le_of_ble_eq_true rfl) rfl ?_
        refine q_iload (pc := 35) rfl rfl ?_
        refine q_iconst (pc := 37) rfl (-1) (by decide) ?_
        first | refine n_icmpeq (pc := 38) rfl (by omega) (by omega) (fun h38 => ?_) (fun h38 => ?_) | refine q_icmpeq (pc := 38) rfl (fun h38 => ?_) (fun h38 => ?_)
        · first
          | (exfalso; omega)
          | exact absurd h38 (nI_m1 (by omega))
          | exact absurd rfl h38
          | skip
            refine q_vret (pc := 105) rfl rfl ?_
            rw [if_pos (by omega)] at hr
            subst hr
            first | exact kk _ _ H hβ T hk hsp (by show i ≤ 36; omega) e0 e1 hs | exact kk _ _ H hβ T hk hsp (by show i ≤ 36; omega) e0 e1 (hs.tr (k1.mono (fun i e => by omega)))
        · first
          | (exfalso; omega)
          | exact absurd h38 (nI_m1 (by omega))
          | exact absurd rfl h38
          | skip
            refine q_aload_n (pc := 41) rfl rfl rfl ?_
            refine q_aload_n (pc := 42) rfl rfl rfl ?_
            refine q_aload_n (pc := 43) rfl rfl rfl ?_
            refine q_iload (pc := 44) rfl rfl ?_
            refine q_callV (pc := 46) _ rfl rfl rfl (by exact HR.R H hl T.1) rfl (Nat.le_of_ble_eq_true rfl) (by omega) _ rfl ?_
            refine c_minutesOf (by omega) H hl hb hβ T hk hp q ?_
            intro h s1 H k1
            have hβ := hβ.fr k1 (scr_B hb (fun i e => by omega))
            have T := T.fr k1 (fun i e => by omega)
            have e0 := (congrFun (k1 36 (by omega)) 0).trans e0
            have e1 := (congrFun (k1 36 (by omega)) 1).trans e1
            have hmn := mnN_le (C := C) (E := E) hk hp q
            refine q_iload (pc := 49) rfl rfl ?_
            refine q_aload_n (pc := 51) rfl rfl rfl ?_
            refine q_getf (pc := 52) rfl (by exact HR.c H hl _ rfl) rfl rfl ?_
            rw [e0]
            first | refine n_isub (pc := 55) rfl (by omega) ?_ | refine q_isub (pc := 55) rfl ?_
            first | refine n_icmple (pc := 56) rfl (by omega) (by omega) (fun h56 => ?_) (fun h56 => ?_) | refine q_icmple (pc := 56) rfl (fun h56 => ?_) (fun h56 => ?_)
            · refine q_aload_n (pc := 62) rfl rfl rfl ?_
              refine q_dup (pc := 63) rfl rfl ?_
              refine q_getf (pc := 64) rfl (by exact HR.c H hl _ rfl) rfl rfl ?_
              rw [e0]
              refine q_aload_n (pc := 67) rfl rfl rfl ?_
              refine q_aload_n (pc := 68) rfl rfl rfl ?_
              refine q_aload_n (pc := 69) rfl rfl rfl ?_
              refine q_iload (pc := 70) rfl rfl ?_
              refine q_callV (pc := 72) _ rfl rfl rfl (by exact HR.R H hl T.1) rfl (Nat.le_of_ble_eq_true rfl) (by omega) _ rfl ?_
              refine c_lay (by omega) H hl hb hβ T hk hp q ?_
              intro h s2 H hβ T k2
              have e1 := (congrFun (k2 36 (by omega)) 1).trans e1
              first | refine n_iadd (pc := 75) rfl ?_ | refine q_iadd (pc := 75) rfl ?_
              refine r_pf2 (pc := 76) (i := 0) rfl H hl rfl rfl rfl rfl (Nat.le_of_ble_eq_true rfl) rfl rfl ?_
              intro h H
              have e1 := (stv_o (s := s2) (b := 36) (j := 0) (i := 1) (v := nI (sp + mnN C E β p c)) (by decide)).trans e1
              refine q_aload_n (pc := 79) rfl rfl rfl ?_
              refine q_dup (pc := 80) rfl rfl ?_
              refine q_getf (pc := 81) rfl (by exact HR.c H hl _ rfl) rfl rfl ?_
              rw [e1]
              refine q_iconst (pc := 84) rfl (nI 1) (by decide) ?_
              first | refine n_iadd (pc := 85) rfl ?_ | refine q_iadd (pc := 85) rfl ?_
              refine r_pf2 (pc := 86) (i := 1) rfl H hl rfl rfl rfl rfl (Nat.le_of_ble_eq_true rfl) rfl rfl ?_
              intro h H
              refine q_lload (pc := 89) rfl rfl ?_
              refine q_iload (pc := 91) rfl rfl ?_
              refine q_callS (pc := 93) _ (by decide) rfl rfl rfl rfl (Nat.le_of_ble_eq_true rfl) (by omega) _ rfl ?_
              refine c_bitN q ?_
              first | refine n_lor (pc := 96) rfl ?_ | refine q_lor (pc := 96) rfl ?_
              refine q_lstore (pc := 97) [_, _, _, _, _, _, _, _, _] rfl (Nat.le_of_ble_eq_true rfl) rfl ?_
              first | refine n_iinc (pc := 99) rfl [_, _, _, _, _, _, _, _, _] 1 (by decide) rfl rfl ?_ | refine q_iinc (pc := 99) [_, _, _, _, _, _, _, _, _] (1) rfl rfl (by decide) rfl ?_
              refine q_goto (pc := 102) rfl ?_
              rw [if_neg (fun z => by omega)] at hr
              refine c_passL hd hl hb hp hm r kk n (i + 1) (dn ||| 2 ^ c) (sp + mnN C E β p c) (by omega) (layb C E β p c) hr (bok_lay hk hp q) (Nat.or_lt_two_pow hdn (Nat.pow_lt_pow_right (by decide) q)) (by omega) h _ H (hβ.fr (S := fun i => i = 36) ((sf.rf.st (by rfl)).st (by rfl)) (scr_B hb (fun i e => by omega))) (T.fr (S := fun i => i = 36) ((sf.rf.st (by rfl)).st (by rfl)) (fun i e => by omega)) ?_ stv_a ((((hs.tr (k1.mono (fun i e => by omega))).tr (k2.mono (fun i e => by omega))).st (by omega)).st (by omega)) _
              rw [stv_o (by decide), stv_a]
            · refine q_goto (pc := 59) rfl ?_
              refine q_vret (pc := 105) rfl rfl ?_
              rw [if_pos (by omega)] at hr
              subst hr
              first | exact kk _ _ H hβ T hk hsp (by show i ≤ 36; omega) e0 e1 hs | exact kk _ _ H hβ T hk hsp (by show i ≤ 36; omega) e0 e1 (hs.tr (k1.mono (fun i e => by omega)))
      · rw [oc, if_neg (by omega)]
        refine q_istore (pc := 33) [_, _, _, _, _, _, _, _, _] rfl (Nat.le_of_ble_eq_true rfl) rfl ?_
        refine q_iload (pc := 35) rfl rfl ?_
        refine q_iconst (pc := 37) rfl (-1) (by decide) ?_
        first | refine n_icmpeq (pc := 38) rfl (by omega) (by omega) (fun h38 => ?_) (fun h38 => ?_) | refine q_icmpeq (pc := 38) rfl (fun h38 => ?_) (fun h38 => ?_)
        · first
          | (exfalso; omega)
          | exact absurd h38 (nI_m1 (by omega))
          | exact absurd rfl h38
          | skip
            refine q_vret (pc := 105) rfl rfl ?_
            rw [if_pos (by omega)] at hr
            subst hr
            first | exact kk _ _ H hβ T hk hsp (by show i ≤ 36; omega) e0 e1 hs | exact kk _ _ H hβ T hk hsp (by show i ≤ 36; omega) e0 e1 (hs.tr (k1.mono (fun i e => by omega)))
        · first
          | (exfalso; omega)
          | exact absurd h38 (nI_m1 (by omega))
          | exact absurd rfl h38
          | skip
            refine q_aload_n (pc := 41) rfl rfl rfl ?_
            refine q_aload_n (pc := 42) rfl rfl rfl ?_
            refine q_aload_n (pc := 43) rfl rfl rfl ?_
            refine q_iload (pc := 44) rfl rfl ?_
            refine q_callV (pc := 46) _ rfl rfl rfl (by exact HR.R H hl T.1) rfl (Nat.le_of_ble_eq_true rfl) (by omega) _ rfl ?_
            refine c_minutesOf (by omega) H hl hb hβ T hk hp q ?_
            intro h s1 H k1
            have hβ := hβ.fr k1 (scr_B hb (fun i e => by omega))
            have T := T.fr k1 (fun i e => by omega)
            have e0 := (congrFun (k1 36 (by omega)) 0).trans e0
            have e1 := (congrFun (k1 36 (by omega)) 1).trans e1
            have hmn := mnN_le (C := C) (E := E) hk hp q
            refine q_iload (pc := 49) rfl rfl ?_
            refine q_aload_n (pc := 51) rfl rfl rfl ?_
            refine q_getf (pc := 52) rfl (by exact HR.c H hl _ rfl) rfl rfl ?_
            rw [e0]
            first | refine n_isub (pc := 55) rfl (by omega) ?_ | refine q_isub (pc := 55) rfl ?_
            first | refine n_icmple (pc := 56) rfl (by omega) (by omega) (fun h56 => ?_) (fun h56 => ?_) | refine q_icmple (pc := 56) rfl (fun h56 => ?_) (fun h56 => ?_)
            · refine q_aload_n (pc := 62) rfl rfl rfl ?_
              refine q_dup (pc := 63) rfl rfl ?_
              refine q_getf (pc := 64) rfl (by exact HR.c H hl _ rfl) rfl rfl ?_
              rw [e0]
              refine q_aload_n (pc := 67) rfl rfl rfl ?_
              refine q_aload_n (pc := 68) rfl rfl rfl ?_
              refine q_aload_n (pc := 69) rfl rfl rfl ?_
              refine q_iload (pc := 70) rfl rfl ?_
              refine q_callV (pc := 72) _ rfl rfl rfl (by exact HR.R H hl T.1) rfl (Nat.le_of_ble_eq_true rfl) (by omega) _ rfl ?_
              refine c_lay (by omega) H hl hb hβ T hk hp q ?_
              intro h s2 H hβ T k2
              have e1 := (congrFun (k2 36 (by omega)) 1).trans e1
              first | refine n_iadd (pc := 75) rfl ?_ | refine q_iadd (pc := 75) rfl ?_
              refine r_pf2 (pc := 76) (i := 0) rfl H hl rfl rfl rfl rfl (Nat.le_of_ble_eq_true rfl) rfl rfl ?_
              intro h H
              have e1 := (stv_o (s := s2) (b := 36) (j := 0) (i := 1) (v := nI (sp + mnN C E β p c)) (by decide)).trans e1
              refine q_aload_n (pc := 79) rfl rfl rfl ?_
              refine q_dup (pc := 80) rfl rfl ?_
              refine q_getf (pc := 81) rfl (by exact HR.c H hl _ rfl) rfl rfl ?_
              rw [e1]
              refine q_iconst (pc := 84) rfl (nI 1) (by decide) ?_
              first | refine n_iadd (pc := 85) rfl ?_ | refine q_iadd (pc := 85) rfl ?_
              refine r_pf2 (pc := 86) (i := 1) rfl H hl rfl rfl rfl rfl (Nat.le_of_ble_eq_true rfl) rfl rfl ?_
              intro h H
              refine q_lload (pc := 89) rfl rfl ?_
              refine q_iload (pc := 91) rfl rfl ?_
              refine q_callS (pc := 93) _ (by decide) rfl rfl rfl rfl (Nat.le_of_ble_eq_true rfl) (by omega) _ rfl ?_
              refine c_bitN q ?_
              first | refine n_lor (pc := 96) rfl ?_ | refine q_lor (pc := 96) rfl ?_
              refine q_lstore (pc := 97) [_, _, _, _, _, _, _, _, _] rfl (Nat.le_of_ble_eq_true rfl) rfl ?_
              first | refine n_iinc (pc := 99) rfl [_, _, _, _, _, _, _, _, _] 1 (by decide) rfl rfl ?_ | refine q_iinc (pc := 99) [_, _, _, _, _, _, _, _, _] (1) rfl rfl (by decide) rfl ?_
              refine q_goto (pc := 102) rfl ?_
              rw [if_neg (fun z => by omega)] at hr
              refine c_passL hd hl hb hp hm r kk n (i + 1) (dn ||| 2 ^ c) (sp + mnN C E β p c) (by omega) (layb C E β p c) hr (bok_lay hk hp q) (Nat.or_lt_two_pow hdn (Nat.pow_lt_pow_right (by decide) q)) (by omega) h _ H (hβ.fr (S := fun i => i = 36) ((sf.rf.st (by rfl)).st (by rfl)) (scr_B hb (fun i e => by omega))) (T.fr (S := fun i => i = 36) ((sf.rf.st (by rfl)).st (by rfl)) (fun i e => by omega)) ?_ stv_a ((((hs.tr (k1.mono (fun i e => by omega))).tr (k2.mono (fun i e => by omega))).st (by omega)).st (by omega)) _
              rw [stv_o (by decide), stv_a]
            · refine q_goto (pc := 59) rfl ?_
              refine q_vret (pc := 105) rfl rfl ?_
              rw [if_pos (by omega)] at hr
              subst hr
              first | exact kk _ _ H hβ T hk hsp (by show i ≤ 36; omega) e0 e1 hs | exact kk _ _ H hβ T hk hsp (by show i ≤ 36; omega) e0 e1 (hs.tr (k1.mono (fun i e => by omega)))
termination_by n
theorem c_pass (hd : 4 ≤ d) (H : HR P h s) (hl : 51 ≤ P.1) (hb : isB b) (hβ : BT s b β) (T : TB P s C E) (hk : bok β P.2.1) (hp : p < 4) (hm : m ≤ 999) (kk : ∀ h' s', HR P h' s' → BT s' b (ngt C E p m 36 β 0 0 0).1 → TB P s' C E → bok (ngt C E p m 36 β 0 0 0).1 P.2.1 → (ngt C E p m 36 β 0 0 0).2.1 ≤ m → (ngt C E p m 36 β 0 0 0).2.2 ≤ 36 → s' 36 0 = nI (ngt C E p m 36 β 0 0 0).2.1 → s' 36 1 = nI (ngt C E p m 36 β 0 0 0).2.2 → sf s s' (fun i => (b ≤ i ∧ i < b + 8) ∨ (33 ≤ i ∧ i < 37)) → Q none h') : wc d 13 [.ref 36, .ref b, .ref (b + 4 + p), .ref 31, .int (nI m)] h Q := by
  refine wc.go [_, _, _, _, _, _, _, _, _] rfl ?_
  refine q_aload_n (pc := 0) rfl rfl rfl ?_
  refine q_iconst (pc := 1) rfl (nI 0) (by decide) ?_
  refine r_pf2 (pc := 2) (i := 0) rfl H hl rfl rfl rfl rfl (Nat.le_of_ble_eq_true rfl) rfl rfl ?_
  intro h H
  refine q_aload_n (pc := 5) rfl rfl rfl ?_
  refine q_iconst (pc := 6) rfl (nI 0) (by decide) ?_
  refine r_pf2 (pc := 7) (i := 1) rfl H hl rfl rfl rfl rfl (Nat.le_of_ble_eq_true rfl) rfl rfl ?_
  intro h H
  refine q_lconst (pc := 10) rfl (0) (by decide) ?_
  refine q_lstore (pc := 11) [_, _, _, _, _, _, _, _, _] rfl (Nat.le_of_ble_eq_true rfl) rfl ?_
  refine q_iconst (pc := 13) rfl (nI 0) (by decide) ?_
  refine q_istore (pc := 14) [_, _, _, _, _, _, _, _, _] rfl (Nat.le_of_ble_eq_true rfl) rfl ?_
  exact c_passL hd hl hb hp hm _ kk 36 0 0 0 (by omega) β rfl hk (by decide) (by omega) h _ H (hβ.fr (S := fun i => i = 36) ((sf.rf.st (by rfl)).st (by rfl)) (scr_B hb (fun i e => by omega))) (T.fr (S := fun i => i = 36) ((sf.rf.st (by rfl)).st (by rfl)) (fun i e => by omega)) ((stv_o (by decide)).trans stv_a) stv_a ((sf.rf.st (by omega)).st (by omega)) _
end P26
