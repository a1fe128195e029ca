/-! ===== the class's ways: the wrong ones, the order of one ===== -/
section P38
variable {d k pc a i j c p b t n m part q : Nat} {v : Int} {L L' : mx_L} {st r : List Value} {P : mx_Pm} {h : mx_H} {s : mx_St} {Q : Option Value → mx_H → Prop} {x y w z u : Int32} {β κ : Nat → Nat} {C : Nat → Nat → Int32} {E : Nat → Nat → Nat} {ik tz : Nat} {tp : Nat → Nat} {σ : Nat → Int32} {sz : Nat → Nat} {cl : Nat → Nat → Int32}
/-- the i-th that holds below n -/
def wci (f : Nat → Bool) : Nat → Nat → Nat
  | 0, _ => 0
  | c + 1, i => if f c = true ∧ i = cntf f c then c else wci f c i
theorem wci_lt (f : Nat → Bool) (i : Nat) : ∀ n, 0 < n → wci f n i < n := by
  intro n
  induction n with
  | zero => intro h; omega
  | succ n ih =>
    intro _
    unfold wci
    split
    · omega
    · rcases Nat.eq_zero_or_pos n with e | e
      · subst e
        exact Nat.zero_lt_one
      · have := ih e
        omega
theorem cntf_mono (f : Nat → Bool) {a b : Nat} (h : a ≤ b) : cntf f a ≤ cntf f b := by
  obtain ⟨k, rfl⟩ := Nat.le.dest h
  rw [cntf_add]
  omega
theorem HR.wy {P : mx_Pm} {h : mx_H} {s : mx_St} (H : HR P h s) (hl : 51 ≤ P.1) (w1 : s 37 1 = nI m) : h.2.2 37 = .inr (7, [.ref 38, .int (nI m), .ref 39, .ref 40, .ref 41, .int (s 37 5), .int (s 37 6)]) := by
  rw [← w1]
  exact HR.c H hl _ rfl
def wrC (β : Nat → Nat) : Nat := cntf (wrn β) 36
def wrI (β : Nat → Nat) (i : Nat) : Nat := wci (wrn β) 36 i
theorem wrI_lt (i : Nat) : wrI β i < 36 := wci_lt _ _ 36 (by decide)
def WS (s : mx_St) (n : Nat) (g : Nat → Nat) : Prop := s 37 1 = nI n ∧ ∀ i, i < n → s 38 i = nI (g i)
theorem c_findL (hd : 2 ≤ d) (hl : 51 ≤ P.1) (KK : bok β P.2.1) {s0 : mx_St} (ht : wrC β ≤ 7 → ∀ h' s', HR P h' s' → CA P s' β κ ik tp tz C E σ sz cl → sf s0 s' cS → WS s' (wrC β) (wrI β) → Q (some (.int 1)) h') (hf : 7 < wrC β → ∀ h' s', HR P h' s' → CA P s' β κ ik tp tz C E σ sz cl → sf s0 s' cS → Q (some (.int 0)) h') (n i : Nat) (hi : i + n = 36) (h7 : cntf (wrn β) i ≤ 7) (h : mx_H) (s : mx_St) (H : HR P h s) (A : CA P s β κ ik tp tz C E σ sz cl) (hs : sf s0 s cS) (w : WS s (cntf (wrn β) i) (wci (wrn β) i)) : wq d 64 7 [some (.ref 37), some (.ref 1), some (.int (nI i))] [] h Q := by
  have w1 := w.1
  match n, hi with
  | 0, hi =>
    obtain rfl : i = 36 := by omega
    refine q_iload_n (pc := 7) rfl rfl ?_
    refine q_bipush (pc := 8) rfl (nI 36) (by decide) ?_
    first | refine n_icmpge (pc := 10) rfl (by omega) (by omega) (fun h10 => ?_) (fun h10 => ?_) | refine q_icmpge (pc := 10) rfl (fun h10 => ?_) (fun h10 => ?_)
    · refine q_iconst (pc := 58) rfl (nI 1) (by decide) ?_
      refine q_iret (pc := 59) rfl (rfl) ?_
      exact ht h7 _ _ H A hs w
    · first | (exfalso; omega) | exact absurd h10 (nI_pos (by omega)) | exact absurd (nI_pos' (by omega)) h10
  | n + 1, hi =>
    have e1 : cntf (wrn β) (i + 1) = cntf (wrn β) i + (wrn β i).toNat := rfl
    refine q_iload_n (pc := 7) rfl rfl ?_
    refine q_bipush (pc := 8) rfl (nI 36) (by decide) ?_
    first | refine n_icmpge (pc := 10) rfl (by omega) (by omega) (fun h10 => ?_) (fun h10 => ?_) | refine q_icmpge (pc := 10) rfl (fun h10 => ?_) (fun h10 => ?_)
    · first | (exfalso; omega) | exact absurd h10 (nI_pos (by omega)) | exact absurd (nI_pos' (by omega)) h10
    · refine q_aload_n (pc := 13) rfl rfl rfl ?_
      refine q_iload_n (pc := 14) rfl rfl ?_
      refine q_callV (pc := 15) _ rfl rfl rfl (by first | exact HR.wy H hl w1 | exact HR.X' H hl | exact HR.B H hl isB1 A.1 | exact HR.O H hl isB1 A.1 hp | exact HR.c H hl _ rfl) rfl (Nat.le_of_ble_eq_true rfl) (by omega) _ rfl ?_
      refine c_isWrong (by omega) H hl isB1 A.1 (by omega) (fun hw => ?_) (fun hw => ?_) KK.1
      · refine q_ifeq (pc := 18) rfl (fun z => absurd z (by decide)) (fun _ => ?_)
        refine q_aload_n (pc := 21) rfl rfl rfl ?_
        refine q_getf (pc := 22) rfl (by first | exact HR.wy H hl w1 | exact HR.X' H hl | exact HR.B H hl isB1 A.1 | exact HR.O H hl isB1 A.1 hp | exact HR.c H hl _ rfl) rfl rfl ?_
        refine q_bipush (pc := 25) rfl (nI 7) (by decide) ?_
        first | refine n_icmplt (pc := 27) rfl (by omega) (by omega) (fun h27 => ?_) (fun h27 => ?_) | refine q_icmplt (pc := 27) rfl (fun h27 => ?_) (fun h27 => ?_)
        · first
          | (exfalso; omega (config := {splitDisjunctions := false}))
          | skip
            refine q_aload_n (pc := 32) rfl rfl rfl ?_
            refine q_getf (pc := 33) rfl (by first | exact HR.wy H hl w1 | exact HR.X' H hl | exact HR.B H hl isB1 A.1 | exact HR.O H hl isB1 A.1 hp | exact HR.c H hl _ rfl) rfl rfl ?_
            refine q_aload_n (pc := 36) rfl rfl rfl ?_
            refine q_getf (pc := 37) rfl (by first | exact HR.wy H hl w1 | exact HR.X' H hl | exact HR.B H hl isB1 A.1 | exact HR.O H hl isB1 A.1 hp | exact HR.c H hl _ rfl) rfl rfl ?_
            refine q_iload_n (pc := 40) rfl rfl ?_
            refine r_ist2 (pc := 41) rfl H hl rfl (fun _ => rfl) rfl (by omega) (by omega) ?_
            intro h H
            have w1 : stv s 38 (cntf (wrn β) i) (nI i) 37 1 = nI (cntf (wrn β) i) := (congrFun (stv_n (by decide)) _).trans w1
            refine q_aload_n (pc := 42) rfl rfl rfl ?_
            refine q_dup (pc := 43) rfl rfl ?_
            refine q_getf (pc := 44) rfl (by first | exact HR.wy H hl w1 | exact HR.X' H hl | exact HR.B H hl isB1 A.1 | exact HR.O H hl isB1 A.1 hp | exact HR.c H hl _ rfl) rfl rfl ?_
            refine q_iconst (pc := 47) rfl (nI 1) (by decide) ?_
            first | refine n_iadd (pc := 48) rfl ?_ | refine q_iadd (pc := 48) rfl ?_
            refine r_pf2 (pc := 49) (i := 1) rfl H hl rfl rfl rfl rfl (Nat.le_of_ble_eq_true rfl) rfl rfl ?_
            intro h H
            first | refine n_iinc (pc := 52) rfl [_, _, _] 1 (by decide) rfl rfl ?_ | refine q_iinc (pc := 52) [_, _, _] (1) rfl rfl (by decide) rfl ?_
            refine q_goto (pc := 55) rfl ?_
            first
            | (rw [hw] at e1
               have e1 : cntf (wrn β) (i + 1) = cntf (wrn β) i + 1 := e1
               obtain ⟨A2, k2⟩ := th9 A (s' := stv (stv s 38 (cntf (wrn β) i) (nI i)) 37 1 (nI (cntf (wrn β) i + 1))) (S := fun i => 33 ≤ i ∧ i < 42) ((sf.rf.st (by omega)).st (by omega)) (fun i g => Or.inr g)
               refine c_findL hd hl KK ht hf n (i + 1) (by omega) (by omega) h _ H A2 (hs.tr k2) ⟨by rw [e1]; exact stv_a, fun j hj => ?_⟩
               rw [stv_n (by decide)]
               rw [wci]
               by_cases g : j = cntf (wrn β) i
               · subst g
                 rw [if_pos ⟨hw, rfl⟩]
                 exact stv_a
               · rw [if_neg (fun e => g e.2), stv_o g]
                 exact w.2 j (by omega))
            | (rw [hw] at e1
               have e1 : cntf (wrn β) (i + 1) = cntf (wrn β) i := e1
               refine c_findL hd hl KK ht hf n (i + 1) (by omega) (by omega) h _ H A hs ⟨by rw [e1]; exact w.1, fun j hj => ?_⟩
               rw [wci, if_neg (fun e => by rw [hw] at e; exact absurd e.1 (by decide))]
               exact w.2 j (by omega))
        · first
          | (exfalso; omega (config := {splitDisjunctions := false}))
          | skip
            refine q_iconst (pc := 30) rfl (nI 0) (by decide) ?_
            refine q_iret (pc := 31) rfl (rfl) ?_
            have e2 := cntf_mono (wrn β) (show i + 1 ≤ 36 by omega)
            rw [hw] at e1
            have e1 : cntf (wrn β) (i + 1) = cntf (wrn β) i + 1 := e1
            exact hf (by unfold wrC; omega) _ _ H A hs
      · refine q_ifeq (pc := 18) rfl (fun _ => ?_) (fun z => absurd (by decide) z)
        first | refine n_iinc (pc := 52) rfl [_, _, _] 1 (by decide) rfl rfl ?_ | refine q_iinc (pc := 52) [_, _, _] (1) rfl rfl (by decide) rfl ?_
        refine q_goto (pc := 55) rfl ?_
        first
        | (rw [hw] at e1
           have e1 : cntf (wrn β) (i + 1) = cntf (wrn β) i + 1 := e1
           obtain ⟨A2, k2⟩ := th9 A (s' := stv (stv s 38 (cntf (wrn β) i) (nI i)) 37 1 (nI (cntf (wrn β) i + 1))) (S := fun i => 33 ≤ i ∧ i < 42) ((sf.rf.st (by omega)).st (by omega)) (fun i g => Or.inr g)
           refine c_findL hd hl KK ht hf n (i + 1) (by omega) (by omega) h _ H A2 (hs.tr k2) ⟨by rw [e1]; exact stv_a, fun j hj => ?_⟩
           rw [stv_n (by decide)]
           rw [wci]
           by_cases g : j = cntf (wrn β) i
           · subst g
             rw [if_pos ⟨hw, rfl⟩]
             exact stv_a
           · rw [if_neg (fun e => g e.2), stv_o g]
             exact w.2 j (by omega))
        | (rw [hw] at e1
           have e1 : cntf (wrn β) (i + 1) = cntf (wrn β) i := e1
           refine c_findL hd hl KK ht hf n (i + 1) (by omega) (by omega) h _ H A hs ⟨by rw [e1]; exact w.1, fun j hj => ?_⟩
           rw [wci, if_neg (fun e => by rw [hw] at e; exact absurd e.1 (by decide))]
           exact w.2 j (by omega))
termination_by n
theorem c_find (hd : 2 ≤ d) (hl : 51 ≤ P.1) (KK : bok β P.2.1) (H : HR P h s) (A : CA P s β κ ik tp tz C E σ sz cl) (ht : wrC β ≤ 7 → ∀ h' s', HR P h' s' → CA P s' β κ ik tp tz C E σ sz cl → sf s s' cS → WS s' (wrC β) (wrI β) → Q (some (.int 1)) h') (hf : 7 < wrC β → ∀ h' s', HR P h' s' → CA P s' β κ ik tp tz C E σ sz cl → sf s s' cS → Q (some (.int 0)) h') : wc d 64 [.ref 37, .ref 1] h Q := by
  refine wc.go [_, _, _] rfl ?_
  refine q_aload_n (pc := 0) rfl rfl rfl ?_
  refine q_iconst (pc := 1) rfl (nI 0) (by decide) ?_
  refine r_pf2 (pc := 2) (i := 1) rfl H hl rfl rfl rfl rfl (Nat.le_of_ble_eq_true rfl) rfl rfl ?_
  intro h H
  refine q_iconst (pc := 5) rfl (nI 0) (by decide) ?_
  refine q_istore_n (pc := 6) [_, _, _] rfl (Nat.le_of_ble_eq_true rfl) rfl ?_
  obtain ⟨A2, k2⟩ := th9 A (s' := stv s 37 1 (nI 0)) (S := fun i => 33 ≤ i ∧ i < 42) (sf.rf.st (by omega)) (fun i g => Or.inr g)
  exact c_findL hd hl KK ht hf 36 0 (by omega) (by show 0 ≤ 7; omega) h _ H A2 k2 ⟨stv_a, fun j hj => absurd hj (by show ¬ j < 0; omega)⟩
theorem c_cellAt (H : HR P h s) (hl : 51 ≤ P.1) (hi : i < 7) (hq : Q (some (.int (s 38 i))) h) : wc d 73 [.ref 37, .int (nI i)] h Q := by
  refine wc.go [_, _] rfl ?_
  refine q_iload_n (pc := 0) rfl rfl ?_
  refine q_iflt (pc := 1) rfl (fun h1 => ?_) (fun h1 => ?_)
  · first | (exfalso; omega) | exact absurd h1 (nI_pos (by omega)) | exact absurd (nI_pos' (by omega)) h1
  · refine q_iload_n (pc := 4) rfl rfl ?_
    refine q_bipush (pc := 5) rfl (nI 7) (by decide) ?_
    first | refine n_icmpge (pc := 7) rfl (by omega) (by omega) (fun h7 => ?_) (fun h7 => ?_) | refine q_icmpge (pc := 7) rfl (fun h7 => ?_) (fun h7 => ?_)
    · first | (exfalso; omega) | exact absurd h7 (nI_pos (by omega)) | exact absurd (nI_pos' (by omega)) h7
    · refine q_aload_n (pc := 10) rfl rfl rfl ?_
      refine q_getf (pc := 11) rfl (by exact HR.c H hl _ rfl) rfl rfl ?_
      refine q_iload_n (pc := 14) rfl rfl ?_
      refine n_ild (pc := 15) rfl (by exact HR.la0 H hl rfl rfl) rfl (by omega) (by omega) ?_
      refine q_goto (pc := 16) rfl ?_
      refine q_iret (pc := 20) rfl (rfl) ?_
      exact hq
theorem c_aheadAt (H : HR P h s) (hl : 51 ≤ P.1) (hi : i < 896) (hq : Q (some (.int (s 39 i))) h) : wc d 74 [.ref 37, .int (nI i)] h Q := by
  refine wc.go [_, _] rfl ?_
  refine q_iload_n (pc := 0) rfl rfl ?_
  refine q_iflt (pc := 1) rfl (fun h1 => ?_) (fun h1 => ?_)
  · first | (exfalso; omega) | exact absurd h1 (nI_pos (by omega)) | exact absurd (nI_pos' (by omega)) h1
  · refine q_iload_n (pc := 4) rfl rfl ?_
    refine q_aload_n (pc := 5) rfl rfl rfl ?_
    refine q_getf (pc := 6) rfl (by exact HR.c H hl _ rfl) rfl rfl ?_
    refine q_alen (pc := 9) rfl (by exact HR.c H hl _ rfl) (by decide) ?_
    refine q_icmpge (pc := 10) rfl (fun h10 => ?_) (fun h10 => ?_)
    · exact absurd h10 (Int32.not_le.mpr ((nI_ltI (by omega) (by decide)).mpr hi))
    · first
      | (exfalso; omega (config := {splitDisjunctions := false}))
      | skip
        refine q_aload_n (pc := 13) rfl rfl rfl ?_
        refine q_getf (pc := 14) rfl (by exact HR.c H hl _ rfl) rfl rfl ?_
        refine q_iload_n (pc := 17) rfl rfl ?_
        refine n_ild (pc := 18) rfl (by exact HR.la0 H hl rfl rfl) rfl (by omega) (by omega) ?_
        refine q_goto (pc := 19) rfl ?_
        refine q_iret (pc := 24) rfl (rfl) ?_
        exact hq
theorem c_setAhead {v : Int32} (H : HR P h s) (hl : 51 ≤ P.1) (hi : i < 896) (kk : ∀ h', HR P h' (stv s 39 i v) → Q none h') : wc d 75 [.ref 37, .int (nI i), .int v] h Q := by
  refine wc.go [_, _, _] rfl ?_
  refine q_iload_n (pc := 0) rfl rfl ?_
  refine q_iflt (pc := 1) rfl (fun h1 => ?_) (fun h1 => ?_)
  · first | (exfalso; omega) | exact absurd h1 (nI_pos (by omega)) | exact absurd (nI_pos' (by omega)) h1
  · refine q_iload_n (pc := 4) rfl rfl ?_
    refine q_aload_n (pc := 5) rfl rfl rfl ?_
    refine q_getf (pc := 6) rfl (by exact HR.c H hl _ rfl) rfl rfl ?_
    refine q_alen (pc := 9) rfl (by exact HR.c H hl _ rfl) (by decide) ?_
    refine q_icmpge (pc := 10) rfl (fun h10 => ?_) (fun h10 => ?_)
    · exact absurd h10 (Int32.not_le.mpr ((nI_ltI (by omega) (by decide)).mpr hi))
    · first
      | (exfalso; omega (config := {splitDisjunctions := false}))
      | skip
        refine q_aload_n (pc := 13) rfl rfl rfl ?_
        refine q_getf (pc := 14) rfl (by exact HR.c H hl _ rfl) rfl rfl ?_
        refine q_iload_n (pc := 17) rfl rfl ?_
        refine q_iload_n (pc := 18) rfl rfl ?_
        refine r_ist2 (pc := 19) rfl H hl rfl (fun _ => rfl) rfl (by omega) (by omega) ?_
        intro h H
        refine q_vret (pc := 20) rfl rfl ?_
        exact kk _ H
/-- the least over those that hold -/
def mnF (f : Nat → Bool) (g : Nat → Nat) (z : Nat) : Nat → Nat
  | 0 => z
  | n + 1 => if f n = true then min (mnF f g z n) (g n) else mnF f g z n
theorem mnF_le (f : Nat → Bool) (g : Nat → Nat) (z n : Nat) : mnF f g z n ≤ z := by
  induction n with
  | zero => exact Nat.le_refl _
  | succ n ih =>
    unfold mnF
    split <;> omega
theorem mnF_c {f : Nat → Bool} {g g' : Nat → Nat} {z n : Nat} (h : ∀ i, i < n → f i = true → g i = g' i) : mnF f g z n = mnF f g' z n := by
  induction n with
  | zero => rfl
  | succ n ih =>
    unfold mnF
    split
    · rename_i e
      rw [ih (fun i hi => h i (by omega)), h n (by omega) e]
    · exact ih (fun i hi => h i (by omega))
def nbt (w : Nat) : Nat → Bool := fun i => !w.testBit i
/-- the way still ahead: so many cells to come, those where one was, the last -/
def rtN (m : Nat) (D : Nat → Nat → Nat) : Nat → Nat → Nat → Nat
  | 0, _, _ => 0
  | n + 1, w, l => mnF (nbt w) (fun i => D l i + rtN m D n (w ||| 2 ^ i) i) 1000000 m
def rtT (m : Nat) (D : Nat → Nat → Nat) (w l : Nat) : Nat := rtN m D (m - cntf w.testBit m) w l
theorem rtN_le (m : Nat) (D : Nat → Nat → Nat) (n w l : Nat) : rtN m D n w l ≤ 1000000 := by
  cases n with
  | zero => exact Nat.zero_le _
  | succ n => exact mnF_le _ _ _ _
theorem st_all : ∀ m, m < 8 → ∀ w, w < 2 ^ m → (cntf w.testBit m = m ↔ w = 2 ^ m - 1) := by decide +kernel
theorem st_or : ∀ m, m < 8 → ∀ w, w < 2 ^ m → ∀ i, i < m → w.testBit i = false → w ||| 2 ^ i < 2 ^ m ∧ w < w ||| 2 ^ i ∧ cntf (w ||| 2 ^ i).testBit m = cntf w.testBit m + 1 := by decide +kernel
theorem shb : ∀ w, w < 128 → ∀ i, i < 7 → ((nI w >>> (nI i &&& 31)) &&& nI 1 = 0 ↔ w.testBit i = false) := by decide +kernel
theorem rtT_all {m w l : Nat} {D : Nat → Nat → Nat} (hm : m < 8) (e : w = 2 ^ m - 1) : rtT m D w l = 0 := by
  have h0 : 0 < 2 ^ m := Nat.two_pow_pos m
  unfold rtT
  rw [(st_all m hm w (by omega)).mpr e, Nat.sub_self]
  rfl
theorem rtT_s {m w l : Nat} {D : Nat → Nat → Nat} (hm : m < 8) (hw : w < 2 ^ m) (e : w ≠ 2 ^ m - 1) : rtT m D w l = mnF (nbt w) (fun i => D l i + rtT m D (w ||| 2 ^ i) i) 1000000 m := by
  have h1 : cntf w.testBit m ≤ m := cntf_le _ _
  have h2 : cntf w.testBit m ≠ m := fun z => e ((st_all m hm w hw).mp z)
  unfold rtT
  obtain ⟨k, hk⟩ : ∃ k, m - cntf w.testBit m = k + 1 := ⟨m - cntf w.testBit m - 1, by omega⟩
  rw [hk, rtN]
  refine mnF_c (fun i hi g => ?_)
  have g1 : w.testBit i = false := by
    unfold nbt at g
    cases e : w.testBit i
    · rfl
    · rw [e] at g
      exact absurd g (by decide)
  rw [(st_or m hm w hw i hi g1).2.2, show m - (cntf w.testBit m + 1) = k by omega]
theorem pw7 {m : Nat} (h : m ≤ 7) : 2 ^ m ≤ 128 := Nat.le_trans (Nat.pow_le_pow_right (by decide) h) (by decide)
def apW (g : Nat → Nat) (l i : Nat) : Nat := apN (g l) (g i)
theorem c_wayL {w l m : Nat} {g : Nat → Nat} (hd : 1 ≤ d) (H : HR P h s) (hl : 51 ≤ P.1) (hm : m ≤ 7) (hw : w < 2 ^ m) (hlm : l < m) (hW : WS s m g) (hg : ∀ i, i < m → g i < 36) (hT : ∀ i, i < m → w.testBit i = false → s 39 ((w ||| 2 ^ i) * 7 + i) = nI (rtT m (apW g) (w ||| 2 ^ i) i)) {R : Nat} (hR : mnF (nbt w) (fun i => apW g l i + rtT m (apW g) (w ||| 2 ^ i) i) 1000000 m = R) (hq : Q (some (.int (nI R))) h) (n i : Nat) (hi : i + n = m) (z5 : Option Value) : wq d 66 6 [some (.ref 37), some (.int (nI w)), some (.int (nI l)), some (.int (nI (mnF (nbt w) (fun i => apW g l i + rtT m (apW g) (w ||| 2 ^ i) i) 1000000 i))), some (.int (nI i)), z5] [] h Q := by
  have w1 := hW.1
  have p7 := pw7 hm
  have b1 := mnF_le (nbt w) (fun i => apW g l i + rtT m (apW g) (w ||| 2 ^ i) i) 1000000 i
  match n, hi with
  | 0, hi =>
    obtain rfl : i = m := by omega
    refine q_iload (pc := 6) rfl rfl ?_
    refine q_aload_n (pc := 8) rfl rfl rfl ?_
    refine q_getf (pc := 9) rfl (by first | exact HR.wy H hl w1 | exact HR.X' H hl | exact HR.B H hl isB1 A.1 | exact HR.O H hl isB1 A.1 hp | exact HR.c H hl _ rfl) rfl rfl ?_
    first | refine n_icmpge (pc := 12) rfl (by omega) (by omega) (fun h12 => ?_) (fun h12 => ?_) | refine q_icmpge (pc := 12) rfl (fun h12 => ?_) (fun h12 => ?_)
    · refine q_iload_n (pc := 70) rfl rfl ?_
      refine q_iret (pc := 71) rfl (rfl) ?_
      rw [hR]
      exact hq
    · first | (exfalso; omega) | exact absurd h12 (nI_pos (by omega)) | exact absurd (nI_pos' (by omega)) h12
  | n + 1, hi =>
    have b2 : apW g l i ≤ 10 := apN_le (hg l hlm) (hg i (by omega))
    have b3 : rtT m (apW g) (w ||| 2 ^ i) i ≤ 1000000 := rtN_le _ _ _ _ _
    refine q_iload (pc := 6) rfl rfl ?_
    refine q_aload_n (pc := 8) rfl rfl rfl ?_
    refine q_getf (pc := 9) rfl (by first | exact HR.wy H hl w1 | exact HR.X' H hl | exact HR.B H hl isB1 A.1 | exact HR.O H hl isB1 A.1 hp | exact HR.c H hl _ rfl) rfl rfl ?_
    first | refine n_icmpge (pc := 12) rfl (by omega) (by omega) (fun h12 => ?_) (fun h12 => ?_) | refine q_icmpge (pc := 12) rfl (fun h12 => ?_) (fun h12 => ?_)
    · first | (exfalso; omega) | exact absurd h12 (nI_pos (by omega)) | exact absurd (nI_pos' (by omega)) h12
    · refine q_iload_n (pc := 15) rfl rfl ?_
      refine q_iload (pc := 16) rfl rfl ?_
      refine q_ishr (pc := 18) rfl ?_
      refine q_iconst (pc := 19) rfl (nI 1) (by decide) ?_
      refine q_iand (pc := 20) rfl ?_
      refine q_ifne (pc := 21) rfl (fun h21 => ?_) (fun h21 => ?_)
      · have h21 : w.testBit i = true := by
          cases e : w.testBit i
          · exact absurd ((shb w (by omega) i (by omega)).mpr e) h21
          · rfl
        first
        | (exfalso; omega (config := {splitDisjunctions := false}))
        | exact absurd rfl h21
        | skip
          first | refine n_iinc (pc := 64) rfl [_, _, _, _, _, _] 1 (by decide) rfl rfl ?_ | refine q_iinc (pc := 64) [_, _, _, _, _, _] (1) rfl rfl (by decide) rfl ?_
          refine q_goto (pc := 67) rfl ?_
          first
          | (have ih := c_wayL hd H hl hm hw hlm hW hg hT hR hq n (i + 1) (by omega) z5
             rw [mnF, if_neg (by unfold nbt; rw [h21]; decide)] at ih
             exact ih)
          | (have ih := c_wayL hd H hl hm hw hlm hW hg hT hR hq n (i + 1) (by omega) (some (.int (nI (apW g l i + rtT m (apW g) (w ||| 2 ^ i) i))))
             rw [mnF, if_pos (by unfold nbt; rw [h21]; decide)] at ih
             exact ih)
      · have h21 : w.testBit i = false := (shb w (by omega) i (by omega)).mp h21
        have o1 := st_or m (by omega) w hw i (by omega) h21
        first
        | (exfalso; omega (config := {splitDisjunctions := false}))
        | exact absurd rfl h21
        | skip
          refine q_aload_n (pc := 24) rfl rfl rfl ?_
          refine q_iload_n (pc := 25) rfl rfl ?_
          refine q_callV (pc := 26) _ rfl rfl rfl (by first | exact HR.wy H hl w1 | exact HR.X' H hl | exact HR.B H hl isB1 A.1 | exact HR.O H hl isB1 A.1 hp | exact HR.c H hl _ rfl) rfl (Nat.le_of_ble_eq_true rfl) (by omega) _ rfl ?_
          refine c_cellAt H hl (by omega) ?_
          rw [hW.2 l hlm]
          refine q_aload_n (pc := 29) rfl rfl rfl ?_
          refine q_iload (pc := 30) rfl rfl ?_
          refine q_callV (pc := 32) _ rfl rfl rfl (by first | exact HR.wy H hl w1 | exact HR.X' H hl | exact HR.B H hl isB1 A.1 | exact HR.O H hl isB1 A.1 hp | exact HR.c H hl _ rfl) rfl (Nat.le_of_ble_eq_true rfl) (by omega) _ rfl ?_
          refine c_cellAt H hl (by omega) ?_
          rw [hW.2 i (by omega)]
          refine q_callS (pc := 35) _ (by decide) rfl rfl rfl rfl (Nat.le_of_ble_eq_true rfl) (by omega) _ rfl ?_
          refine c_apart (hg l hlm) (hg i (by omega)) ?_
          rw [show apN (g l) (g i) = apW g l i from rfl]
          refine q_aload_n (pc := 38) rfl rfl rfl ?_
          refine q_iload_n (pc := 39) rfl rfl ?_
          refine q_iconst (pc := 40) rfl (nI 1) (by decide) ?_
          refine q_iload (pc := 41) rfl rfl ?_
          refine n_ishl1 (pc := 43) rfl (by omega) ?_
          refine n_ior (pc := 44) rfl ?_
          refine q_bipush (pc := 45) rfl (nI 7) (by decide) ?_
          first | refine n_imul (pc := 47) rfl ?_ | refine q_imul (pc := 47) rfl ?_
          refine q_iload (pc := 48) rfl rfl ?_
          first | refine n_iadd (pc := 50) rfl ?_ | refine q_iadd (pc := 50) rfl ?_
          refine q_callV (pc := 51) _ rfl rfl rfl (by first | exact HR.wy H hl w1 | exact HR.X' H hl | exact HR.B H hl isB1 A.1 | exact HR.O H hl isB1 A.1 hp | exact HR.c H hl _ rfl) rfl (Nat.le_of_ble_eq_true rfl) (by omega) _ rfl ?_
          refine c_aheadAt H hl (by omega) ?_
          rw [hT i (by omega) h21]
          first | refine n_iadd (pc := 54) rfl ?_ | refine q_iadd (pc := 54) rfl ?_
          refine q_istore (pc := 55) [_, _, _, _, _, _] rfl (Nat.le_of_ble_eq_true rfl) rfl ?_
          refine q_iload_n (pc := 57) rfl rfl ?_
          refine q_iload (pc := 58) rfl rfl ?_
          first | refine n_min (pc := 60) rfl rfl (by omega) (by omega) ?_ | refine q_min (pc := 60) rfl rfl ?_
          refine q_istore_n (pc := 63) [_, _, _, _, _, _] rfl (Nat.le_of_ble_eq_true rfl) rfl ?_
          first | refine n_iinc (pc := 64) rfl [_, _, _, _, _, _] 1 (by decide) rfl rfl ?_ | refine q_iinc (pc := 64) [_, _, _, _, _, _] (1) rfl rfl (by decide) rfl ?_
          refine q_goto (pc := 67) rfl ?_
          first
          | (have ih := c_wayL hd H hl hm hw hlm hW hg hT hR hq n (i + 1) (by omega) z5
             rw [mnF, if_neg (by unfold nbt; rw [h21]; decide)] at ih
             exact ih)
          | (have ih := c_wayL hd H hl hm hw hlm hW hg hT hR hq n (i + 1) (by omega) (some (.int (nI (apW g l i + rtT m (apW g) (w ||| 2 ^ i) i))))
             rw [mnF, if_pos (by unfold nbt; rw [h21]; decide)] at ih
             exact ih)
termination_by n
theorem c_way {w l m : Nat} {g : Nat → Nat} (hd : 1 ≤ d) (H : HR P h s) (hl : 51 ≤ P.1) (hm : m ≤ 7) (hw : w < 2 ^ m) (he : w ≠ 2 ^ m - 1) (hlm : l < m) (hW : WS s m g) (hg : ∀ i, i < m → g i < 36) (hT : ∀ i, i < m → w.testBit i = false → s 39 ((w ||| 2 ^ i) * 7 + i) = nI (rtT m (apW g) (w ||| 2 ^ i) i)) (hq : Q (some (.int (nI (rtT m (apW g) w l)))) h) : wc d 66 [.ref 37, .int (nI w), .int (nI l)] h Q := by
  refine wc.go [_, _, _, _, _, _] rfl ?_
  refine q_ldcI (pc := 0) rfl (nI 1000000) (by decide) ?_
  refine q_istore_n (pc := 2) [_, _, _, _, _, _] rfl (Nat.le_of_ble_eq_true rfl) rfl ?_
  refine q_iconst (pc := 3) rfl (nI 0) (by decide) ?_
  refine q_istore (pc := 4) [_, _, _, _, _, _] rfl (Nat.le_of_ble_eq_true rfl) rfl ?_
  exact c_wayL hd H hl hm hw hlm hW hg hT (rtT_s (by omega) hw he).symm hq m 0 (by omega) _
/-- the table above a set -/
def TBA (s : mx_St) (m : Nat) (g : Nat → Nat) (w0 : Nat) : Prop := ∀ w, w0 < w → w < 2 ^ m → ∀ l, l < m → s 39 (w * 7 + l) = nI (rtT m (apW g) w l)
theorem c_tabI {w m : Nat} {g : Nat → Nat} {z1 z2 : Value} (hd : 2 ≤ d) (hl : 51 ≤ P.1) (hm : m ≤ 7) (hw : w < 2 ^ m) (hg : ∀ i, i < m → g i < 36) {s0 : mx_St} (kk : ∀ h' s', HR P h' s' → sf s0 s' (fun i => i = 39) → (∀ l, l < m → s' 39 (w * 7 + l) = nI (rtT m (apW g) w l)) → TBA s' m g w → wq d 65 68 [some (.ref 37), some z1, some z2, some (.ref 31), some (.int (nI (2 ^ m - 1))), some (.int (nI w)), some (.int (nI m)), none] [] h' Q) (n l : Nat) (hi : l + n = m) (h : mx_H) (s : mx_St) (H : HR P h s) (hW : WS s0 m g) (hs : sf s0 s (fun i => i = 39)) (ht : ∀ j, j < l → s 39 (w * 7 + j) = nI (rtT m (apW g) w j)) (hT : TBA s m g w) : wq d 65 22 [some (.ref 37), some z1, some z2, some (.ref 31), some (.int (nI (2 ^ m - 1))), some (.int (nI w)), some (.int (nI l)), none] [] h Q := by
  have w1 : s 37 1 = nI m := (congrFun (hs 37 (by decide)) 1).trans hW.1
  have p7 := pw7 hm
  match n, hi with
  | 0, hi =>
    obtain rfl : l = m := by omega
    refine q_iload (pc := 22) rfl rfl ?_
    refine q_aload_n (pc := 24) rfl rfl rfl ?_
    refine q_getf (pc := 25) rfl (by first | exact HR.wy H hl w1 | exact HR.X' H hl | exact HR.B H hl isB1 A.1 | exact HR.O H hl isB1 A.1 hp | exact HR.c H hl _ rfl) rfl rfl ?_
    first | refine n_icmpge (pc := 28) rfl (by omega) (by omega) (fun h28 => ?_) (fun h28 => ?_) | refine q_icmpge (pc := 28) rfl (fun h28 => ?_) (fun h28 => ?_)
    · exact kk _ _ H hs ht hT
    · first | (exfalso; omega) | exact absurd h28 (nI_pos (by omega)) | exact absurd (nI_pos' (by omega)) h28
  | n + 1, hi =>
    refine q_iload (pc := 22) rfl rfl ?_
    refine q_aload_n (pc := 24) rfl rfl rfl ?_
    refine q_getf (pc := 25) rfl (by first | exact HR.wy H hl w1 | exact HR.X' H hl | exact HR.B H hl isB1 A.1 | exact HR.O H hl isB1 A.1 hp | exact HR.c H hl _ rfl) rfl rfl ?_
    first | refine n_icmpge (pc := 28) rfl (by omega) (by omega) (fun h28 => ?_) (fun h28 => ?_) | refine q_icmpge (pc := 28) rfl (fun h28 => ?_) (fun h28 => ?_)
    · first | (exfalso; omega) | exact absurd h28 (nI_pos (by omega)) | exact absurd (nI_pos' (by omega)) h28
    · refine q_aload_n (pc := 31) rfl rfl rfl ?_
      refine q_iload (pc := 32) rfl rfl ?_
      refine q_bipush (pc := 34) rfl (nI 7) (by decide) ?_
      first | refine n_imul (pc := 36) rfl ?_ | refine q_imul (pc := 36) rfl ?_
      refine q_iload (pc := 37) rfl rfl ?_
      first | refine n_iadd (pc := 39) rfl ?_ | refine q_iadd (pc := 39) rfl ?_
      refine q_iload (pc := 40) rfl rfl ?_
      refine q_iload (pc := 42) rfl rfl ?_
      first | refine n_icmpne (pc := 44) rfl (by omega) (by omega) (fun h44 => ?_) (fun h44 => ?_) | refine q_icmpne (pc := 44) rfl (fun h44 => ?_) (fun h44 => ?_)
      · first
        | (exfalso; omega (config := {splitDisjunctions := false}))
        | exact absurd rfl h44
        | skip
          refine q_aload_n (pc := 51) rfl rfl rfl ?_
          refine q_iload (pc := 52) rfl rfl ?_
          refine q_iload (pc := 54) rfl rfl ?_
          refine q_callV (pc := 56) _ rfl rfl rfl (by first | exact HR.wy H hl w1 | exact HR.X' H hl | exact HR.B H hl isB1 A.1 | exact HR.O H hl isB1 A.1 hp | exact HR.c H hl _ rfl) rfl (Nat.le_of_ble_eq_true rfl) (by omega) _ rfl ?_
          refine c_way (by omega) H hl hm hw h44 (by omega) ⟨w1, fun i hi => (congrFun (hs 38 (by decide)) i).trans (hW.2 i hi)⟩ hg (fun i hi e => by
            have o1 := st_or m (by omega) w hw i hi e
            exact hT _ o1.2.1 o1.1 i hi) ?_
          refine q_callV (pc := 59) _ rfl rfl rfl (by first | exact HR.wy H hl w1 | exact HR.X' H hl | exact HR.B H hl isB1 A.1 | exact HR.O H hl isB1 A.1 hp | exact HR.c H hl _ rfl) rfl (Nat.le_of_ble_eq_true rfl) (by omega) _ rfl ?_
          refine c_setAhead H hl (by omega) ?_
          intro h H
          first | refine n_iinc (pc := 62) rfl [_, _, _, _, _, _, _, _] 1 (by decide) rfl rfl ?_ | refine q_iinc (pc := 62) [_, _, _, _, _, _, _, _] (1) rfl rfl (by decide) rfl ?_
          refine q_goto (pc := 65) rfl ?_
          refine c_tabI hd hl hm hw hg kk n (l + 1) (by omega) h _ H hW (hs.st (by rfl)) (fun j hj => ?_) (fun w2 h1 h2 j hj => ?_)
          · by_cases e : j = l
            · subst e
              first
              | exact stv_a
              | rw [stv_a, rtT_all (by omega) h44]
            · rw [stv_o (by omega)]
              exact ht j (by omega)
          · rw [stv_o (by omega)]
            exact hT w2 h1 h2 j hj
      · first
        | (exfalso; omega (config := {splitDisjunctions := false}))
        | exact absurd rfl h44
        | skip
          refine q_iconst (pc := 47) rfl (nI 0) (by decide) ?_
          refine q_goto (pc := 48) rfl ?_
          refine q_callV (pc := 59) _ rfl rfl rfl (by first | exact HR.wy H hl w1 | exact HR.X' H hl | exact HR.B H hl isB1 A.1 | exact HR.O H hl isB1 A.1 hp | exact HR.c H hl _ rfl) rfl (Nat.le_of_ble_eq_true rfl) (by omega) _ rfl ?_
          refine c_setAhead H hl (by omega) ?_
          intro h H
          first | refine n_iinc (pc := 62) rfl [_, _, _, _, _, _, _, _] 1 (by decide) rfl rfl ?_ | refine q_iinc (pc := 62) [_, _, _, _, _, _, _, _] (1) rfl rfl (by decide) rfl ?_
          refine q_goto (pc := 65) rfl ?_
          refine c_tabI hd hl hm hw hg kk n (l + 1) (by omega) h _ H hW (hs.st (by rfl)) (fun j hj => ?_) (fun w2 h1 h2 j hj => ?_)
          · by_cases e : j = l
            · subst e
              first
              | exact stv_a
              | rw [stv_a, rtT_all (by omega) h44]
            · rw [stv_o (by omega)]
              exact ht j (by omega)
          · rw [stv_o (by omega)]
            exact hT w2 h1 h2 j hj
termination_by n
theorem c_tabS {w : Nat} {z0 z1 z2 z3 z6 z7 : Option Value} {z4 : Int32} (kk : wq d 65 14 [z0, z1, z2, z3, some (.int z4), some (.int (nI w)), z6, z7] [] h Q) : wq d 65 68 [z0, z1, z2, z3, some (.int z4), some (.int (nI (w + 1))), z6, z7] [] h Q := by
  refine q_iinc (pc := 68) [_, _, _, _, _, _, _, _] (-1) rfl rfl (by decide) (by rw [pk_m1]; rfl) ?_
  refine q_goto (pc := 71) rfl ?_
  exact kk
theorem c_tabO {m : Nat} {g : Nat → Nat} {z1 z2 : Value} (hd : 2 ≤ d) (hl : 51 ≤ P.1) (hm : m ≤ 7) (hg : ∀ i, i < m → g i < 36) {s0 : mx_St} (hW : WS s0 m g) (kk : ∀ h' s' z6, HR P h' s' → sf s0 s' (fun i => i = 39) → TBA s' m g 0 → wq d 65 74 [some (.ref 37), some z1, some z2, some (.ref 31), some (.int (nI (2 ^ m - 1))), some (.int (nI 0)), z6, none] [] h' Q) (w : Nat) (hw : w < 2 ^ m) (h : mx_H) (s : mx_St) (H : HR P h s) (hs : sf s0 s (fun i => i = 39)) (hT : TBA s m g w) (z6 : Option Value) : wq d 65 14 [some (.ref 37), some z1, some z2, some (.ref 31), some (.int (nI (2 ^ m - 1))), some (.int (nI w)), z6, none] [] h Q := by
  have p7 := pw7 hm
  match w with
  | 0 =>
    refine q_iload (pc := 14) rfl rfl ?_
    first | refine n_ifle (pc := 16) rfl (by omega) (fun h16 => ?_) (fun h16 => ?_) | refine q_ifle (pc := 16) rfl (fun h16 => ?_) (fun h16 => ?_)
    · exact kk _ _ _ H hs hT
    · first | (exfalso; omega) | exact absurd h16 (nI_pos (by omega)) | exact absurd (nI_pos' (by omega)) h16
  | w + 1 =>
    refine q_iload (pc := 14) rfl rfl ?_
    first | refine n_ifle (pc := 16) rfl (by omega) (fun h16 => ?_) (fun h16 => ?_) | refine q_ifle (pc := 16) rfl (fun h16 => ?_) (fun h16 => ?_)
    · first | (exfalso; omega) | exact absurd h16 (nI_pos (by omega)) | exact absurd (nI_pos' (by omega)) h16
    · refine q_iconst (pc := 19) rfl (nI 0) (by decide) ?_
      refine q_istore (pc := 20) [_, _, _, _, _, _, _, _] rfl (Nat.le_of_ble_eq_true rfl) rfl ?_
      refine c_tabI hd hl hm hw hg (fun h' s' H f t1 t2 => ?_) m 0 (by omega) h _ H hW hs (fun j hj => by omega) hT
      exact c_tabS (c_tabO hd hl hm hg hW kk w (by omega) h' s' H f (fun w2 h1 h2 j hj => by
        by_cases e : w2 = w + 1
        · subst e
          exact t1 j hj
        · exact t2 w2 (by omega) h2 j hj) _)
termination_by w
def smN (f : Nat → Nat) : Nat → Nat
  | 0 => 0
  | n + 1 => smN f n + f n
theorem smN_le {f : Nat → Nat} {z n : Nat} (h : ∀ i, i < n → f i ≤ z) : smN f n ≤ z * n := by
  induction n with
  | zero => exact Nat.zero_le _
  | succ n ih =>
    have h1 := ih (fun i hi => h i (by omega))
    have h2 := h n (by omega)
    rw [smN, Nat.mul_succ]
    omega
/-- the first step's way, by the cell that is first -/
def swN (β : Nat → Nat) (p : Nat) : Nat → Nat := fun i => apN (β (72 + 4 * p + 2)) (wrI β i) + rtT (wrC β) (apW (wrI β)) (2 ^ i) i
def stN (C : Nat → Nat → Int32) (E : Nat → Nat → Nat) (β : Nat → Nat) (p : Nat) : Nat → Nat := fun i => tkN C E β p (wrI β i)
def ocI (β : Nat → Nat) (q : Nat) : Int32 := if q = 9 then -1 else nI (wrI β q)
theorem nrs_c (f : Nat → Nat) (N z : Nat) (hN : N ≤ 9) (hf : ∀ i, i < N → f i ≤ z) : ∀ n, n ≤ N → ((nrs f n).1 = 9 ∨ (nrs f n).1 < n) ∧ (nrs f n).2 ≤ z := by
  intro n
  induction n with
  | zero => intro _; exact ⟨Or.inl rfl, Nat.zero_le _⟩
  | succ n ih =>
    intro hn
    have h1 := ih (by omega)
    have h2 := hf n (by omega)
    unfold nrs
    split
    · exact ⟨Or.inr (by show n < n + 1; omega), h2⟩
    · exact ⟨by omega, h1.2⟩
theorem WS.fr37 {s s' : mx_St} {S : Nat → Prop} {n : Nat} {g : Nat → Nat} (w : WS s n g) (f : sf s s' S) (hS : ∀ i, S i → i ≠ 37 ∧ i ≠ 38) : WS s' n g := ⟨(congrFun (f 37 (fun z => (hS _ z).1 rfl)) _).trans w.1, fun i hi => (congrFun (f 38 (fun z => (hS _ z).2 rfl)) _).trans (w.2 i hi)⟩
theorem TBA.fr37 {s s' : mx_St} {S : Nat → Prop} {n w0 : Nat} {g : Nat → Nat} (t : TBA s n g w0) (f : sf s s' S) (hS : ∀ i, S i → i ≠ 39) : TBA s' n g w0 := fun w h1 h2 l hl => (congrFun (f 39 (fun z => hS _ z rfl)) _).trans (t w h1 h2 l hl)
theorem ocI_m {β : Nat → Nat} {q : Nat} : ocI β q = -1 ↔ q = 9 := by
  unfold ocI
  constructor
  · intro e
    split at e
    · assumption
    · exact absurd e (nI_m1 (by have := wrI_lt (β := β) q; omega))
  · intro e
    rw [if_pos e]
theorem c_ordL (hd : 6 ≤ d) (hl : 51 ≤ P.1) (K : AOK P.2.1 β κ ik tp tz σ sz) (hp : p < 4) (hm : wrC β ≤ 7) {s0 : mx_St} {z4 : Int32} (kk : ∀ h' s', HR P h' s' → CA P s' β κ ik tp tz C E σ sz cl → sf s0 s' cS → s' 37 5 = nI ((nrs (swN β p) (wrC β)).2 + smN (stN C E β p) (wrC β)) → s' 37 6 = ocI β (nrs (swN β p) (wrC β)).1 → Q none h') (n i : Nat) (hi : i + n = wrC β) (h : mx_H) (s : mx_St) (H : HR P h s) (A : CA P s β κ ik tp tz C E σ sz cl) (hs : sf s0 s cS) (hW : WS s (wrC β) (wrI β)) (hT : TBA s (wrC β) (wrI β) 0) (e5 : s 37 5 = nI (nrs (swN β p) i).2) (e6 : s 37 6 = ocI β (nrs (swN β p) i).1) (z7 : Option Value) : wq d 65 90 [some (.ref 37), some (.ref 1), some (.ref (1 + 4 + p)), some (.ref 31), some (.int z4), some (.int (nI (smN (stN C E β p) i))), some (.int (nI i)), z7] [] h Q := by
  have w1 := hW.1
  have p7 := pw7 hm
  have hat := (K.1.2.1 p hp).2.2.1
  have bsw : ∀ i, i < 7 → swN β p i ≤ 1000010 := fun i _ => by
    have q1 := apN_le hat (wrI_lt (β := β) i)
    have q2 := rtN_le (wrC β) (apW (wrI β)) (wrC β - cntf (2 ^ i).testBit (wrC β)) (2 ^ i) i
    unfold swN rtT
    omega
  have bst : smN (stN C E β p) i ≤ 99 * i := smN_le (fun j _ => (tkG_b C E β _ _ _ _).2)
  have nb := nrs_c (swN β p) 7 1000010 (by decide) bsw i (by omega)
  match n, hi with
  | 0, hi =>
    obtain rfl : i = wrC β := by omega
    refine q_iload (pc := 90) rfl rfl ?_
    refine q_aload_n (pc := 92) rfl rfl rfl ?_
    refine q_getf (pc := 93) rfl (by first | exact HR.wy H hl w1 | exact HR.X' H hl | exact HR.B H hl isB1 A.1 | exact HR.O H hl isB1 A.1 hp | exact HR.c H hl _ rfl) rfl rfl ?_
    first | refine n_icmpge (pc := 96) rfl (by omega) (by omega) (fun h96 => ?_) (fun h96 => ?_) | refine q_icmpge (pc := 96) rfl (fun h96 => ?_) (fun h96 => ?_)
    · refine q_aload_n (pc := 185) rfl rfl rfl ?_
      refine q_dup (pc := 186) rfl rfl ?_
      refine q_getf (pc := 187) rfl (by first | exact HR.wy H hl w1 | exact HR.X' H hl | exact HR.B H hl isB1 A.1 | exact HR.O H hl isB1 A.1 hp | exact HR.c H hl _ rfl) rfl rfl ?_
      rw [e5]
      refine q_iload (pc := 190) rfl rfl ?_
      first | refine n_iadd (pc := 192) rfl ?_ | refine q_iadd (pc := 192) rfl ?_
      refine r_pf2 (pc := 193) (i := 5) rfl H hl rfl rfl rfl rfl (Nat.le_of_ble_eq_true rfl) rfl rfl ?_
      intro h H
      refine q_vret (pc := 196) rfl rfl ?_
      obtain ⟨A2, k2⟩ := th9 A (S := fun i => 33 ≤ i ∧ i < 42) (s' := stv s 37 5 (nI ((nrs (swN β p) (wrC β)).2 + smN (stN C E β p) (wrC β)))) (sf.rf.st (by omega)) (fun i g => Or.inr g)
      exact kk _ _ H A2 (hs.tr k2) stv_a ((stv_o (by decide)).trans e6)
    · first | (exfalso; omega) | exact absurd h96 (nI_pos (by omega)) | exact absurd (nI_pos' (by omega)) h96
  | n + 1, hi =>
    have hi2 : 2 ^ i < 2 ^ wrC β := Nat.pow_lt_pow_right (by decide) (by omega)
    have h0 : 0 < 2 ^ i := Nat.two_pow_pos i
    have bi := bsw i (by omega)
    refine q_iload (pc := 90) rfl rfl ?_
    refine q_aload_n (pc := 92) rfl rfl rfl ?_
    refine q_getf (pc := 93) rfl (by first | exact HR.wy H hl w1 | exact HR.X' H hl | exact HR.B H hl isB1 A.1 | exact HR.O H hl isB1 A.1 hp | exact HR.c H hl _ rfl) rfl rfl ?_
    first | refine n_icmpge (pc := 96) rfl (by omega) (by omega) (fun h96 => ?_) (fun h96 => ?_) | refine q_icmpge (pc := 96) rfl (fun h96 => ?_) (fun h96 => ?_)
    · first | (exfalso; omega) | exact absurd h96 (nI_pos (by omega)) | exact absurd (nI_pos' (by omega)) h96
    · refine q_aload_n (pc := 99) rfl rfl rfl ?_
      refine q_getf (pc := 100) rfl (by first | exact HR.wy H hl w1 | exact HR.X' H hl | exact HR.B H hl isB1 A.1 | exact HR.O H hl isB1 A.1 hp | exact HR.c H hl _ rfl) rfl rfl ?_
      refine q_aload_n (pc := 103) rfl rfl rfl ?_
      refine q_iload (pc := 104) rfl rfl ?_
      refine q_callV (pc := 106) _ rfl rfl rfl (by first | exact HR.wy H hl w1 | exact HR.X' H hl | exact HR.B H hl isB1 A.1 | exact HR.O H hl isB1 A.1 hp | exact HR.c H hl _ rfl) rfl (Nat.le_of_ble_eq_true rfl) (by omega) _ rfl ?_
      refine c_cellAt H hl (by omega) ?_
      rw [hW.2 i (by omega)]
      refine q_callS (pc := 109) _ (by decide) rfl rfl rfl rfl (Nat.le_of_ble_eq_true rfl) (by omega) _ rfl ?_
      refine c_apart hat (wrI_lt i) ?_
      refine q_aload_n (pc := 112) rfl rfl rfl ?_
      refine q_iconst (pc := 113) rfl (nI 1) (by decide) ?_
      refine q_iload (pc := 114) rfl rfl ?_
      refine n_ishl1 (pc := 116) rfl (by omega) ?_
      refine q_bipush (pc := 117) rfl (nI 7) (by decide) ?_
      first | refine n_imul (pc := 119) rfl ?_ | refine q_imul (pc := 119) rfl ?_
      refine q_iload (pc := 120) rfl rfl ?_
      first | refine n_iadd (pc := 122) rfl ?_ | refine q_iadd (pc := 122) rfl ?_
      refine q_callV (pc := 123) _ rfl rfl rfl (by first | exact HR.wy H hl w1 | exact HR.X' H hl | exact HR.B H hl isB1 A.1 | exact HR.O H hl isB1 A.1 hp | exact HR.c H hl _ rfl) rfl (Nat.le_of_ble_eq_true rfl) (by omega) _ rfl ?_
      refine c_aheadAt H hl (by omega) ?_
      rw [hT (2 ^ i) (by omega) hi2 i (by omega)]
      first | refine n_iadd (pc := 126) rfl ?_ | refine q_iadd (pc := 126) rfl ?_
      rw [show apN (β (72 + 4 * p + 2)) (wrI β i) + rtT (wrC β) (apW (wrI β)) (2 ^ i) i = swN β p i from rfl]
      refine q_istore (pc := 127) [_, _, _, _, _, _, _, _] rfl (Nat.le_of_ble_eq_true rfl) rfl ?_
      refine q_aload_n (pc := 129) rfl rfl rfl ?_
      refine q_getf (pc := 130) rfl (by first | exact HR.wy H hl w1 | exact HR.X' H hl | exact HR.B H hl isB1 A.1 | exact HR.O H hl isB1 A.1 hp | exact HR.c H hl _ rfl) rfl rfl ?_
      refine q_iconst (pc := 133) rfl (-1) (by decide) ?_
      refine q_icmpeq (pc := 134) rfl (fun h134 => ?_) (fun h134 => ?_)
      · rw [e6] at h134
        have h134 : (nrs (swN β p) i).1 = 9 := ocI_m.mp h134
        first
        | (exfalso; omega (config := {splitDisjunctions := false}))
        | exact absurd rfl h134
        | skip
          refine q_aload_n (pc := 146) rfl rfl rfl ?_
          refine q_iload (pc := 147) rfl rfl ?_
          refine r_pf2 (pc := 149) (i := 5) rfl H hl rfl rfl rfl rfl (Nat.le_of_ble_eq_true rfl) rfl rfl ?_
          intro h H
          refine q_aload_n (pc := 152) rfl rfl rfl ?_
          refine q_aload_n (pc := 153) rfl rfl rfl ?_
          refine q_iload (pc := 154) rfl rfl ?_
          refine q_callV (pc := 156) _ rfl rfl rfl (by first | exact HR.wy H hl w1 | exact HR.X' H hl | exact HR.B H hl isB1 A.1 | exact HR.O H hl isB1 A.1 hp | exact HR.c H hl _ rfl) rfl (Nat.le_of_ble_eq_true rfl) (by omega) _ rfl ?_
          refine c_cellAt H hl (by omega) ?_
          rw [stv_n (by decide), hW.2 i (by omega)]
          refine r_pf2 (pc := 159) (i := 6) rfl H hl rfl rfl rfl rfl (Nat.le_of_ble_eq_true rfl) rfl rfl ?_
          intro h H
          have A := (th9 A (S := fun i => 33 ≤ i ∧ i < 42) ((sf.rf.st (s1 := s) (b := 37) (j := 5) (v := nI (swN β p i)) (by omega)).st (b := 37) (j := 6) (v := nI (wrI β i)) (by omega)) (fun i g => Or.inr g)).1
          have kA : sf s (stv (stv s 37 5 (nI (swN β p i))) 37 6 (nI (wrI β i))) cS := (sf.rf.st (Or.inl (by decide))).st (Or.inl (by decide))
          refine q_iload (pc := 162) rfl rfl ?_
          refine q_aload_n (pc := 164) rfl rfl rfl ?_
          refine q_aload_n (pc := 165) rfl rfl rfl ?_
          refine q_aload_n (pc := 166) rfl rfl rfl ?_
          refine q_aload_n (pc := 167) rfl rfl rfl ?_
          refine q_iload (pc := 168) rfl rfl ?_
          refine q_callV (pc := 170) _ rfl rfl rfl (by first | exact HR.wy H hl w1 | exact HR.X' H hl | exact HR.B H hl isB1 A.1 | exact HR.O H hl isB1 A.1 hp | exact HR.c H hl _ rfl) rfl (Nat.le_of_ble_eq_true rfl) (by omega) _ rfl ?_
          refine c_cellAt H hl (by omega) ?_
          first | rw [hW.2 i (by omega)] | rw [stv_n (by decide), stv_n (by decide), hW.2 i (by omega)]
          refine q_callV (pc := 173) _ rfl rfl rfl (by first | exact HR.wy H hl w1 | exact HR.X' H hl | exact HR.B H hl isB1 A.1 | exact HR.O H hl isB1 A.1 hp | exact HR.c H hl _ rfl) rfl (Nat.le_of_ble_eq_true rfl) (by omega) _ rfl ?_
          first
          | (refine c_takesOf (by omega) H hl isB1 A.1 A.2.2.2.2.2.1 K.1 hp (wrI_lt i) ?_
             intro h s1 H k0
             obtain ⟨A, k1⟩ := th9 A k0 (fun i g => Or.inr (by omega))
             rw [show tkN C E β p (wrI β i) = stN C E β p i from rfl])
          first | refine n_iadd (pc := 176) rfl ?_ | refine q_iadd (pc := 176) rfl ?_
          refine q_istore (pc := 177) [_, _, _, _, _, _, _, _] rfl (Nat.le_of_ble_eq_true rfl) rfl ?_
          first | refine n_iinc (pc := 179) rfl [_, _, _, _, _, _, _, _] 1 (by decide) rfl rfl ?_ | refine q_iinc (pc := 179) [_, _, _, _, _, _, _, _] (1) rfl rfl (by decide) rfl ?_
          refine q_goto (pc := 182) rfl ?_
          first
          | (have eN : nrs (swN β p) (i + 1) = nrs (swN β p) i := by rw [nrs, if_neg (fun e => e.elim h134 h143)]
             exact c_ordL hd hl K hp hm kk n (i + 1) (by omega) h s1 H A (hs.tr k1) (hW.fr37 k0 (fun i g => by omega)) (TBA.fr37 hT k0 (fun i g => by omega)) (by rw [eN, k0 37 (by omega)]; exact e5) (by rw [eN, k0 37 (by omega)]; exact e6) _)
          | (have eN : nrs (swN β p) (i + 1) = (i, swN β p i) := by rw [nrs, if_pos (by first | exact Or.inl h134 | exact Or.inr h143)]
             have k3 : sf s s1 (fun i => i = 37 ∨ (33 ≤ i ∧ i < 36)) := (((sf.rf.st (by omega)).st (by omega)).tr (k0.mono (fun i g => Or.inr g)))
             have q5 : s1 37 5 = nI (swN β p i) := by rw [k0 37 (by omega), stv_o (by decide), stv_a]
             have q6 : s1 37 6 = nI (wrI β i) := by rw [k0 37 (by omega), stv_a]
             have q1 : s1 37 1 = nI (wrC β) := by rw [k0 37 (by omega), stv_o (by decide), stv_o (by decide)]; exact w1
             exact c_ordL hd hl K hp hm kk n (i + 1) (by omega) h s1 H A (hs.tr (kA.tr k1)) ⟨q1, fun j hj => by rw [k3 38 (by omega)]; exact hW.2 j hj⟩ (fun w2 h1 h2 l hl2 => by rw [k3 39 (by omega)]; exact hT w2 h1 h2 l hl2) (by rw [eN]; exact q5) (by rw [eN, ocI, if_neg (by show ¬ i = 9; omega)]; exact q6) _)
      · rw [e6] at h134
        have h134 : ¬ (nrs (swN β p) i).1 = 9 := fun e => h134 (ocI_m.mpr e)
        first
        | (exfalso; omega (config := {splitDisjunctions := false}))
        | exact absurd rfl h134
        | skip
          refine q_iload (pc := 137) rfl rfl ?_
          refine q_aload_n (pc := 139) rfl rfl rfl ?_
          refine q_getf (pc := 140) rfl (by first | exact HR.wy H hl w1 | exact HR.X' H hl | exact HR.B H hl isB1 A.1 | exact HR.O H hl isB1 A.1 hp | exact HR.c H hl _ rfl) rfl rfl ?_
          refine q_icmpge (pc := 143) rfl (fun h143 => ?_) (fun h143 => ?_)
          · rw [e5] at h143
            have h143 : ¬ swN β p i < (nrs (swN β p) i).2 := Nat.not_lt.mpr (x_le h143 (by omega) (by omega))
            first
            | (exfalso; omega (config := {splitDisjunctions := false}))
            | skip
              refine q_iload (pc := 162) rfl rfl ?_
              refine q_aload_n (pc := 164) rfl rfl rfl ?_
              refine q_aload_n (pc := 165) rfl rfl rfl ?_
              refine q_aload_n (pc := 166) rfl rfl rfl ?_
              refine q_aload_n (pc := 167) rfl rfl rfl ?_
              refine q_iload (pc := 168) rfl rfl ?_
              refine q_callV (pc := 170) _ rfl rfl rfl (by first | exact HR.wy H hl w1 | exact HR.X' H hl | exact HR.B H hl isB1 A.1 | exact HR.O H hl isB1 A.1 hp | exact HR.c H hl _ rfl) rfl (Nat.le_of_ble_eq_true rfl) (by omega) _ rfl ?_
              refine c_cellAt H hl (by omega) ?_
              first | rw [hW.2 i (by omega)] | rw [stv_n (by decide), stv_n (by decide), hW.2 i (by omega)]
              refine q_callV (pc := 173) _ rfl rfl rfl (by first | exact HR.wy H hl w1 | exact HR.X' H hl | exact HR.B H hl isB1 A.1 | exact HR.O H hl isB1 A.1 hp | exact HR.c H hl _ rfl) rfl (Nat.le_of_ble_eq_true rfl) (by omega) _ rfl ?_
              first
              | (refine c_takesOf (by omega) H hl isB1 A.1 A.2.2.2.2.2.1 K.1 hp (wrI_lt i) ?_
                 intro h s1 H k0
                 obtain ⟨A, k1⟩ := th9 A k0 (fun i g => Or.inr (by omega))
                 rw [show tkN C E β p (wrI β i) = stN C E β p i from rfl])
              first | refine n_iadd (pc := 176) rfl ?_ | refine q_iadd (pc := 176) rfl ?_
              refine q_istore (pc := 177) [_, _, _, _, _, _, _, _] rfl (Nat.le_of_ble_eq_true rfl) rfl ?_
              first | refine n_iinc (pc := 179) rfl [_, _, _, _, _, _, _, _] 1 (by decide) rfl rfl ?_ | refine q_iinc (pc := 179) [_, _, _, _, _, _, _, _] (1) rfl rfl (by decide) rfl ?_
              refine q_goto (pc := 182) rfl ?_
              first
              | (have eN : nrs (swN β p) (i + 1) = nrs (swN β p) i := by rw [nrs, if_neg (fun e => e.elim h134 h143)]
                 exact c_ordL hd hl K hp hm kk n (i + 1) (by omega) h s1 H A (hs.tr k1) (hW.fr37 k0 (fun i g => by omega)) (TBA.fr37 hT k0 (fun i g => by omega)) (by rw [eN, k0 37 (by omega)]; exact e5) (by rw [eN, k0 37 (by omega)]; exact e6) _)
              | (have eN : nrs (swN β p) (i + 1) = (i, swN β p i) := by rw [nrs, if_pos (by first | exact Or.inl h134 | exact Or.inr h143)]
                 have k3 : sf s s1 (fun i => i = 37 ∨ (33 ≤ i ∧ i < 36)) := (((sf.rf.st (by omega)).st (by omega)).tr (k0.mono (fun i g => Or.inr g)))
                 have q5 : s1 37 5 = nI (swN β p i) := by rw [k0 37 (by omega), stv_o (by decide), stv_a]
                 have q6 : s1 37 6 = nI (wrI β i) := by rw [k0 37 (by omega), stv_a]
                 have q1 : s1 37 1 = nI (wrC β) := by rw [k0 37 (by omega), stv_o (by decide), stv_o (by decide)]; exact w1
                 exact c_ordL hd hl K hp hm kk n (i + 1) (by omega) h s1 H A (hs.tr (kA.tr k1)) ⟨q1, fun j hj => by rw [k3 38 (by omega)]; exact hW.2 j hj⟩ (fun w2 h1 h2 l hl2 => by rw [k3 39 (by omega)]; exact hT w2 h1 h2 l hl2) (by rw [eN]; exact q5) (by rw [eN, ocI, if_neg (by show ¬ i = 9; omega)]; exact q6) _)
          · rw [e5] at h143
            have h143 : swN β p i < (nrs (swN β p) i).2 := x_nle h143 (by omega) (by omega)
            first
            | (exfalso; omega (config := {splitDisjunctions := false}))
            | skip
              refine q_aload_n (pc := 146) rfl rfl rfl ?_
              refine q_iload (pc := 147) rfl rfl ?_
              refine r_pf2 (pc := 149) (i := 5) rfl H hl rfl rfl rfl rfl (Nat.le_of_ble_eq_true rfl) rfl rfl ?_
              intro h H
              refine q_aload_n (pc := 152) rfl rfl rfl ?_
              refine q_aload_n (pc := 153) rfl rfl rfl ?_
              refine q_iload (pc := 154) rfl rfl ?_
              refine q_callV (pc := 156) _ rfl rfl rfl (by first | exact HR.wy H hl w1 | exact HR.X' H hl | exact HR.B H hl isB1 A.1 | exact HR.O H hl isB1 A.1 hp | exact HR.c H hl _ rfl) rfl (Nat.le_of_ble_eq_true rfl) (by omega) _ rfl ?_
              refine c_cellAt H hl (by omega) ?_
              rw [stv_n (by decide), hW.2 i (by omega)]
              refine r_pf2 (pc := 159) (i := 6) rfl H hl rfl rfl rfl rfl (Nat.le_of_ble_eq_true rfl) rfl rfl ?_
              intro h H
              have A := (th9 A (S := fun i => 33 ≤ i ∧ i < 42) ((sf.rf.st (s1 := s) (b := 37) (j := 5) (v := nI (swN β p i)) (by omega)).st (b := 37) (j := 6) (v := nI (wrI β i)) (by omega)) (fun i g => Or.inr g)).1
              have kA : sf s (stv (stv s 37 5 (nI (swN β p i))) 37 6 (nI (wrI β i))) cS := (sf.rf.st (Or.inl (by decide))).st (Or.inl (by decide))
              refine q_iload (pc := 162) rfl rfl ?_
              refine q_aload_n (pc := 164) rfl rfl rfl ?_
              refine q_aload_n (pc := 165) rfl rfl rfl ?_
              refine q_aload_n (pc := 166) rfl rfl rfl ?_
              refine q_aload_n (pc := 167) rfl rfl rfl ?_
              refine q_iload (pc := 168) rfl rfl ?_
              refine q_callV (pc := 170) _ rfl rfl rfl (by first | exact HR.wy H hl w1 | exact HR.X' H hl | exact HR.B H hl isB1 A.1 | exact HR.O H hl isB1 A.1 hp | exact HR.c H hl _ rfl) rfl (Nat.le_of_ble_eq_true rfl) (by omega) _ rfl ?_
              refine c_cellAt H hl (by omega) ?_
              first | rw [hW.2 i (by omega)] | rw [stv_n (by decide), stv_n (by decide), hW.2 i (by omega)]
              refine q_callV (pc := 173) _ rfl rfl rfl (by first | exact HR.wy H hl w1 | exact HR.X' H hl | exact HR.B H hl isB1 A.1 | exact HR.O H hl isB1 A.1 hp | exact HR.c H hl _ rfl) rfl (Nat.le_of_ble_eq_true rfl) (by omega) _ rfl ?_
              first
              | (refine c_takesOf (by omega) H hl isB1 A.1 A.2.2.2.2.2.1 K.1 hp (wrI_lt i) ?_
                 intro h s1 H k0
                 obtain ⟨A, k1⟩ := th9 A k0 (fun i g => Or.inr (by omega))
                 rw [show tkN C E β p (wrI β i) = stN C E β p i from rfl])
              first | refine n_iadd (pc := 176) rfl ?_ | refine q_iadd (pc := 176) rfl ?_
              refine q_istore (pc := 177) [_, _, _, _, _, _, _, _] rfl (Nat.le_of_ble_eq_true rfl) rfl ?_
              first | refine n_iinc (pc := 179) rfl [_, _, _, _, _, _, _, _] 1 (by decide) rfl rfl ?_ | refine q_iinc (pc := 179) [_, _, _, _, _, _, _, _] (1) rfl rfl (by decide) rfl ?_
              refine q_goto (pc := 182) rfl ?_
              first
              | (have eN : nrs (swN β p) (i + 1) = nrs (swN β p) i := by rw [nrs, if_neg (fun e => e.elim h134 h143)]
                 exact c_ordL hd hl K hp hm kk n (i + 1) (by omega) h s1 H A (hs.tr k1) (hW.fr37 k0 (fun i g => by omega)) (TBA.fr37 hT k0 (fun i g => by omega)) (by rw [eN, k0 37 (by omega)]; exact e5) (by rw [eN, k0 37 (by omega)]; exact e6) _)
              | (have eN : nrs (swN β p) (i + 1) = (i, swN β p i) := by rw [nrs, if_pos (by first | exact Or.inl h134 | exact Or.inr h143)]
                 have k3 : sf s s1 (fun i => i = 37 ∨ (33 ≤ i ∧ i < 36)) := (((sf.rf.st (by omega)).st (by omega)).tr (k0.mono (fun i g => Or.inr g)))
                 have q5 : s1 37 5 = nI (swN β p i) := by rw [k0 37 (by omega), stv_o (by decide), stv_a]
                 have q6 : s1 37 6 = nI (wrI β i) := by rw [k0 37 (by omega), stv_a]
                 have q1 : s1 37 1 = nI (wrC β) := by rw [k0 37 (by omega), stv_o (by decide), stv_o (by decide)]; exact w1
                 exact c_ordL hd hl K hp hm kk n (i + 1) (by omega) h s1 H A (hs.tr (kA.tr k1)) ⟨q1, fun j hj => by rw [k3 38 (by omega)]; exact hW.2 j hj⟩ (fun w2 h1 h2 l hl2 => by rw [k3 39 (by omega)]; exact hT w2 h1 h2 l hl2) (by rw [eN]; exact q5) (by rw [eN, ocI, if_neg (by show ¬ i = 9; omega)]; exact q6) _)
termination_by n
theorem c_ordS (hd : 6 ≤ d) (hl : 51 ≤ P.1) (K : AOK P.2.1 β κ ik tp tz σ sz) (hp : p < 4) (hm : wrC β ≤ 7) {s0 : mx_St} (kk : ∀ h' s', HR P h' s' → CA P s' β κ ik tp tz C E σ sz cl → sf s0 s' cS → s' 37 5 = nI ((nrs (swN β p) (wrC β)).2 + smN (stN C E β p) (wrC β)) → s' 37 6 = ocI β (nrs (swN β p) (wrC β)).1 → Q none h') (H : HR P h s) (A : CA P s0 β κ ik tp tz C E σ sz cl) (hW : WS s0 (wrC β) (wrI β)) (f : sf s0 s (fun i => i = 39)) (t : TBA s (wrC β) (wrI β) 0) (z4 : Int32) (z6 : Option Value) : wq d 65 74 [some (.ref 37), some (.ref 1), some (.ref (1 + 4 + p)), some (.ref 31), some (.int z4), some (.int (nI 0)), z6, none] [] h Q := by
  obtain ⟨A, k1⟩ := th9 A f (fun i g => Or.inr (by omega))
  refine q_aload_n (pc := 74) rfl rfl rfl ?_
  refine q_iconst (pc := 75) rfl (nI 0) (by decide) ?_
  refine r_pf2 (pc := 76) (i := 5) rfl H hl rfl rfl rfl rfl (Nat.le_of_ble_eq_true rfl) rfl rfl ?_
  intro h H
  refine q_aload_n (pc := 79) rfl rfl rfl ?_
  refine q_iconst (pc := 80) rfl (-1) (by decide) ?_
  refine r_pf2 (pc := 81) (i := 6) rfl H hl rfl rfl rfl rfl (Nat.le_of_ble_eq_true rfl) rfl rfl ?_
  intro h H
  refine q_iconst (pc := 84) rfl (nI 0) (by decide) ?_
  refine q_istore (pc := 85) [_, _, _, _, _, _, _, _] rfl (Nat.le_of_ble_eq_true rfl) rfl ?_
  refine q_iconst (pc := 87) rfl (nI 0) (by decide) ?_
  refine q_istore (pc := 88) [_, _, _, _, _, _, _, _] rfl (Nat.le_of_ble_eq_true rfl) rfl ?_
  obtain ⟨A2, k2⟩ := th9 A (s' := stv (stv s 37 5 (nI 0)) 37 6 (-1)) (S := fun i => 33 ≤ i ∧ i < 42) ((sf.rf.st (by omega)).st (by omega)) (fun i g => Or.inr g)
  exact c_ordL hd hl K hp hm kk (wrC β) 0 (by omega) h _ H A2 (k1.tr k2) ⟨by rw [stv_o (by decide), stv_o (by decide), f 37 (by decide)]; exact hW.1, fun i hi => by rw [stv_n (by decide), stv_n (by decide), f 38 (by decide)]; exact hW.2 i hi⟩ (fun w2 h1 h2 l hl2 => by rw [stv_n (by decide), stv_n (by decide)]; exact t w2 h1 h2 l hl2) (by rw [stv_o (by decide), stv_a]; rfl) stv_a _
theorem c_order (hd : 6 ≤ d) (hl : 51 ≤ P.1) (K : AOK P.2.1 β κ ik tp tz σ sz) (hp : p < 4) (hm : wrC β ≤ 7) (H : HR P h s) (A : CA P s β κ ik tp tz C E σ sz cl) (hW : WS s (wrC β) (wrI β)) (kk : ∀ h' s', HR P h' s' → CA P s' β κ ik tp tz C E σ sz cl → sf s s' cS → s' 37 5 = nI ((nrs (swN β p) (wrC β)).2 + smN (stN C E β p) (wrC β)) → s' 37 6 = ocI β (nrs (swN β p) (wrC β)).1 → Q none h') : wc d 65 [.ref 37, .ref 1, .ref (1 + 4 + p), .ref 31] h Q := by
  have w1 := hW.1
  have p7 := pw7 hm
  have h0 : 0 < 2 ^ wrC β := Nat.two_pow_pos _
  refine wc.go [_, _, _, _, _, _, _, _] rfl ?_
  refine q_iconst (pc := 0) rfl (nI 1) (by decide) ?_
  refine q_aload_n (pc := 1) rfl rfl rfl ?_
  refine q_getf (pc := 2) rfl (by first | exact HR.wy H hl w1 | exact HR.X' H hl | exact HR.B H hl isB1 A.1 | exact HR.O H hl isB1 A.1 hp | exact HR.c H hl _ rfl) rfl rfl ?_
  refine n_ishl1 (pc := 5) rfl (by omega) ?_
  refine q_iconst (pc := 6) rfl (nI 1) (by decide) ?_
  first | refine n_isub (pc := 7) rfl (by omega) ?_ | refine q_isub (pc := 7) rfl ?_
  refine q_istore (pc := 8) [_, _, _, _, _, _, _, _] rfl (Nat.le_of_ble_eq_true rfl) rfl ?_
  refine q_iload (pc := 10) rfl rfl ?_
  refine q_istore (pc := 12) [_, _, _, _, _, _, _, _] rfl (Nat.le_of_ble_eq_true rfl) rfl ?_
  refine c_tabO (by omega) hl hm (fun i _ => wrI_lt i) hW (fun h' s' z6 H f t => ?_) (2 ^ wrC β - 1) (by omega) h s H sf.rf (fun w2 h1 h2 l hl2 => by omega) _
  exact c_ordS hd hl K hp hm kk H A hW f t _ _
def o_soonest (C : Nat → Nat → Int32) (E : Nat → Nat → Nat) (β : Nat → Nat) (x y : Int32) : Int32 := if rg (β 88) x < β 88 ∧ rg 2 y < 2 then (if 7 < wrC β then -3 else if rg 2 y = 0 then nI ((nrs (swN β (rg (β 88) x)) (wrC β)).2 + smN (stN C E β (rg (β 88) x)) (wrC β)) else ocI β (nrs (swN β (rg (β 88) x)) (wrC β)).1) else -2
theorem c_soonest (hd : 20 ≤ d) (H : HR P h s) (hl : 51 ≤ P.1) (A : CA P s β κ ik tp tz C E σ sz cl) (K : AOK P.2.1 β κ ik tp tz σ sz) (kk : ∀ h' s', HR P h' s' → CA P s' β κ ik tp tz C E σ sz cl → sf s s' cS → Q (some (.int (o_soonest C E β x y))) h') : wc d 98 [.ref 0, .int x, .int y] h Q := by
  have K4 := K.1.2.2.1
  have KK := K.1
  have hT := A.2.2.2.2.2.1
  have hSh := A.2.2.2.2.2.2
  have kSh := K.2.2.2.2.2.2.2
  rcases rgc 2 (by decide) y with ⟨w, hw, rfl, z1⟩ | ⟨g, z1⟩
  ·
    refine wc.go [_, _, _, _] rfl ?_
    refine q_aload_n (pc := 0) rfl rfl rfl ?_
    refine q_getf (pc := 1) rfl (by first | exact HR.X' H hl | exact HR.B H hl isB1 A.1 | exact HR.R H hl A.2.2.2.2.2.1.1 | exact HR.O H hl isB1 A.1 hp | exact HR.c H hl _ rfl) rfl rfl ?_
    refine q_iload_n (pc := 4) rfl rfl ?_
    refine q_callV (pc := 5) _ rfl rfl rfl (by first | exact HR.X' H hl | exact HR.B H hl isB1 A.1 | exact HR.R H hl A.2.2.2.2.2.1.1 | exact HR.O H hl isB1 A.1 hp | exact HR.c H hl _ rfl) rfl (Nat.le_of_ble_eq_true rfl) (by omega) _ rfl ?_
    refine c_member H hl isB1 A.1 (fun p hp hpβ hxp => ?_) (fun gp => ?_) K4
    · subst hxp
      have zp : Hd (rg (β 88) (nI p) = p) := rg_in hpβ (by omega)
      refine q_astore_n (pc := 8) [_, _, _, _] rfl rfl (Nat.le_of_ble_eq_true rfl) rfl ?_
      refine q_aload_n (pc := 9) rfl rfl rfl ?_
      refine q_ifnull (pc := 10) rfl ?_
      refine q_iload_n (pc := 13) rfl rfl ?_
      refine q_iflt (pc := 14) rfl (fun h14 => ?_) (fun h14 => ?_)
      · first | (exfalso; omega) | exact absurd h14 (nI_pos (by omega)) | exact absurd (nI_pos' (by omega)) h14
      · refine q_iload_n (pc := 17) rfl rfl ?_
        refine q_iconst (pc := 18) rfl (nI 1) (by decide) ?_
        first | refine n_icmple (pc := 19) rfl (by omega) (by omega) (fun h19 => ?_) (fun h19 => ?_) | refine q_icmple (pc := 19) rfl (fun h19 => ?_) (fun h19 => ?_)
        · refine q_aload_n (pc := 25) rfl rfl rfl ?_
          refine q_getf (pc := 26) rfl (by first | exact HR.X' H hl | exact HR.B H hl isB1 A.1 | exact HR.R H hl A.2.2.2.2.2.1.1 | exact HR.O H hl isB1 A.1 hp | exact HR.c H hl _ rfl) rfl rfl ?_
          refine q_aload_n (pc := 29) rfl rfl rfl ?_
          refine q_getf (pc := 30) rfl (by first | exact HR.X' H hl | exact HR.B H hl isB1 A.1 | exact HR.R H hl A.2.2.2.2.2.1.1 | exact HR.O H hl isB1 A.1 hp | exact HR.c H hl _ rfl) rfl rfl ?_
          refine q_callV (pc := 33) _ rfl rfl rfl (by first | exact HR.X' H hl | exact HR.B H hl isB1 A.1 | exact HR.R H hl A.2.2.2.2.2.1.1 | exact HR.O H hl isB1 A.1 hp | exact HR.c H hl _ rfl) rfl (Nat.le_of_ble_eq_true rfl) (by omega) _ rfl ?_
          refine c_find (by omega) hl KK H A (fun h7 h s1 H A k1 hW => ?_) (fun h7 h s1 H A k1 => ?_)
          · refine q_ifne (pc := 36) rfl (fun _ => ?_) (fun z => absurd z (by decide))
            refine q_aload_n (pc := 42) rfl rfl rfl ?_
            refine q_getf (pc := 43) rfl (by first | exact HR.X' H hl | exact HR.B H hl isB1 A.1 | exact HR.R H hl A.2.2.2.2.2.1.1 | exact HR.O H hl isB1 A.1 hp | exact HR.c H hl _ rfl) rfl rfl ?_
            refine q_aload_n (pc := 46) rfl rfl rfl ?_
            refine q_getf (pc := 47) rfl (by first | exact HR.X' H hl | exact HR.B H hl isB1 A.1 | exact HR.R H hl A.2.2.2.2.2.1.1 | exact HR.O H hl isB1 A.1 hp | exact HR.c H hl _ rfl) rfl rfl ?_
            refine q_aload_n (pc := 50) rfl rfl rfl ?_
            refine q_aload_n (pc := 51) rfl rfl rfl ?_
            refine q_getf (pc := 52) rfl (by first | exact HR.X' H hl | exact HR.B H hl isB1 A.1 | exact HR.R H hl A.2.2.2.2.2.1.1 | exact HR.O H hl isB1 A.1 hp | exact HR.c H hl _ rfl) rfl rfl ?_
            refine q_callV (pc := 55) _ rfl rfl rfl (by first | exact HR.X' H hl | exact HR.B H hl isB1 A.1 | exact HR.R H hl A.2.2.2.2.2.1.1 | exact HR.O H hl isB1 A.1 hp | exact HR.c H hl _ rfl) rfl (Nat.le_of_ble_eq_true rfl) (by omega) _ rfl ?_
            refine c_order (by omega) hl K hp h7 H A hW ?_
            intro h s2 H A k2 e5 e6
            refine q_iload_n (pc := 58) rfl rfl ?_
            first | refine n_ifne (pc := 59) rfl (by omega) (fun h59 => ?_) (fun h59 => ?_) | refine q_ifne (pc := 59) rfl (fun h59 => ?_) (fun h59 => ?_)
            · first
              | (exfalso; omega (config := {splitDisjunctions := false}))
              | exact absurd rfl h59
              | skip
                refine q_aload_n (pc := 72) rfl rfl rfl ?_
                refine q_getf (pc := 73) rfl (by first | exact HR.X' H hl | exact HR.B H hl isB1 A.1 | exact HR.R H hl A.2.2.2.2.2.1.1 | exact HR.O H hl isB1 A.1 hp | exact HR.c H hl _ rfl) rfl rfl ?_
                refine q_getf (pc := 76) rfl (by first | exact HR.X' H hl | exact HR.B H hl isB1 A.1 | exact HR.R H hl A.2.2.2.2.2.1.1 | exact HR.O H hl isB1 A.1 hp | exact HR.c H hl _ rfl) rfl rfl ?_
                rw [e6]
                refine q_iret (pc := 79) rfl (rfl) ?_
                first
                | (refine eqQ (v' := o_soonest C E β (nI p) (nI w)) ?_ (kk _ _ H A (k1.tr k2))
                   unfold o_soonest
                   rw [zp.out, z1.out, if_pos (by omega), if_neg (by omega), if_pos (by omega)])
                | (refine eqQ (v' := o_soonest C E β (nI p) (nI w)) ?_ (kk _ _ H A (k1.tr k2))
                   unfold o_soonest
                   rw [zp.out, z1.out, if_pos (by omega), if_neg (by omega), if_neg (by omega)])
            · first
              | (exfalso; omega (config := {splitDisjunctions := false}))
              | exact absurd rfl h59
              | skip
                refine q_aload_n (pc := 62) rfl rfl rfl ?_
                refine q_getf (pc := 63) rfl (by first | exact HR.X' H hl | exact HR.B H hl isB1 A.1 | exact HR.R H hl A.2.2.2.2.2.1.1 | exact HR.O H hl isB1 A.1 hp | exact HR.c H hl _ rfl) rfl rfl ?_
                refine q_getf (pc := 66) rfl (by first | exact HR.X' H hl | exact HR.B H hl isB1 A.1 | exact HR.R H hl A.2.2.2.2.2.1.1 | exact HR.O H hl isB1 A.1 hp | exact HR.c H hl _ rfl) rfl rfl ?_
                rw [e5]
                refine q_goto (pc := 69) rfl ?_
                refine q_iret (pc := 79) rfl (rfl) ?_
                first
                | (refine eqQ (v' := o_soonest C E β (nI p) (nI w)) ?_ (kk _ _ H A (k1.tr k2))
                   unfold o_soonest
                   rw [zp.out, z1.out, if_pos (by omega), if_neg (by omega), if_pos (by omega)])
                | (refine eqQ (v' := o_soonest C E β (nI p) (nI w)) ?_ (kk _ _ H A (k1.tr k2))
                   unfold o_soonest
                   rw [zp.out, z1.out, if_pos (by omega), if_neg (by omega), if_neg (by omega)])
          · refine q_ifne (pc := 36) rfl (fun z => absurd z (by decide)) (fun _ => ?_)
            refine q_bipush (pc := 39) rfl (-3) (by decide) ?_
            refine q_iret (pc := 41) rfl (rfl) ?_
            refine eqQ (v' := o_soonest C E β (nI p) (nI w)) ?_ (kk _ _ H A k1)
            unfold o_soonest
            rw [zp.out, z1.out, if_pos (by omega), if_pos h7]
        · first | (exfalso; omega) | exact absurd h19 (nI_pos (by omega)) | exact absurd (nI_pos' (by omega)) h19
    · have zp : Hd (rg (β 88) x = β 88) := rg_out gp
      refine q_astore_n (pc := 8) [_, _, _, _] rfl rfl (Nat.le_of_ble_eq_true rfl) rfl ?_
      refine q_aload_n (pc := 9) rfl rfl rfl ?_
      refine q_ifnullN (pc := 10) rfl ?_
      refine q_bipush (pc := 22) rfl (-2) (by decide) ?_
      refine q_iret (pc := 24) rfl (rfl) ?_
      refine eqQ (v' := o_soonest C E β x (nI w)) ?_ (kk _ _ H A sf.rf)
      unfold o_soonest
      rw [zp.out, if_neg (by omega)]
  ·
    refine wc.go [_, _, _, _] rfl ?_
    refine q_aload_n (pc := 0) rfl rfl rfl ?_
    refine q_getf (pc := 1) rfl (by first | exact HR.X' H hl | exact HR.B H hl isB1 A.1 | exact HR.R H hl A.2.2.2.2.2.1.1 | exact HR.O H hl isB1 A.1 hp | exact HR.c H hl _ rfl) rfl rfl ?_
    refine q_iload_n (pc := 4) rfl rfl ?_
    refine q_callV (pc := 5) _ rfl rfl rfl (by first | exact HR.X' H hl | exact HR.B H hl isB1 A.1 | exact HR.R H hl A.2.2.2.2.2.1.1 | exact HR.O H hl isB1 A.1 hp | exact HR.c H hl _ rfl) rfl (Nat.le_of_ble_eq_true rfl) (by omega) _ rfl ?_
    refine c_member H hl isB1 A.1 (fun p hp hpβ hxp => ?_) (fun gp => ?_) K4
    · refine q_astore_n (pc := 8) [_, _, _, _] rfl rfl (Nat.le_of_ble_eq_true rfl) rfl ?_
      refine q_aload_n (pc := 9) rfl rfl rfl ?_
      refine q_ifnull (pc := 10) rfl ?_
      refine q_iload_n (pc := 13) rfl rfl ?_
      refine q_iflt (pc := 14) rfl (fun h14 => ?_) (fun h14 => ?_)
      · first
        | (exfalso; omega (config := {splitDisjunctions := false}))
        | skip
          refine q_bipush (pc := 22) rfl (-2) (by decide) ?_
          refine q_iret (pc := 24) rfl (rfl) ?_
          refine eqQ (v' := o_soonest C E β x y) ?_ (kk _ _ H A sf.rf)
          unfold o_soonest
          rw [z1.out, if_neg (by omega)]
      · first
        | (exfalso; omega (config := {splitDisjunctions := false}))
        | skip
          refine q_iload_n (pc := 17) rfl rfl ?_
          refine q_iconst (pc := 18) rfl (nI 1) (by decide) ?_
          refine q_icmple (pc := 19) rfl (fun h19 => ?_) (fun h19 => ?_)
          · exact (z_out (m := 2) g h14 h19 (by decide)).elim
          · first
            | (exfalso; omega (config := {splitDisjunctions := false}))
            | skip
              refine q_bipush (pc := 22) rfl (-2) (by decide) ?_
              refine q_iret (pc := 24) rfl (rfl) ?_
              refine eqQ (v' := o_soonest C E β x y) ?_ (kk _ _ H A sf.rf)
              unfold o_soonest
              rw [z1.out, if_neg (by omega)]
    · refine q_astore_n (pc := 8) [_, _, _, _] rfl rfl (Nat.le_of_ble_eq_true rfl) rfl ?_
      refine q_aload_n (pc := 9) rfl rfl rfl ?_
      refine q_ifnullN (pc := 10) rfl ?_
      refine q_bipush (pc := 22) rfl (-2) (by decide) ?_
      refine q_iret (pc := 24) rfl (rfl) ?_
      refine eqQ (v' := o_soonest C E β x y) ?_ (kk _ _ H A sf.rf)
      unfold o_soonest
      rw [z1.out, if_neg (by omega)]
end P38
