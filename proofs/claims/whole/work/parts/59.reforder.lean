/-! ===== the reference: the order of one ===== -/
section P59
variable {d k pc a i j c p b t n m part q : Nat} {v : Int} {L L' : mx_L} {st r : List Value} {P : mx_Pm} {h : mx_H} {s : mx_St} {Q : Option Value → mx_H → Prop} {x y w z u : Int32} {β κ : Nat → Nat} {C : Nat → Nat → Int32} {E : Nat → Nat → Nat} {ik tz : Nat} {tp : Nat → Nat} {σ : Nat → Int32} {sz : Nat → Nat} {cl : Nat → Nat → Int32}
def iS (i : Nat) : Prop := i = 54 ∨ i = 66
def iF (i : Nat) : Prop := i = 26
def WM (s : mx_St) (n : Nat) (g : Nat → Nat) : Prop := s 54 26 = nI n ∧ ∀ i, i < n → s 66 i = nI (g i)
theorem m_isManyL (hd : 2 ≤ d) (hl : 75 ≤ P.1) (hk : ∀ i, i < 72 → β i ≤ 9) {s0 : mx_St} (ht : wrC β ≤ 7 → ∀ h' s', HR P h' s' → NW s' β → gf iS iF s0 s' → WM s' (wrC β) (wrI β) → Q (some (.int 0)) h') (hf : 7 < wrC β → ∀ h' s', HR P h' s' → NW s' β → gf iS iF s0 s' → Q (some (.int 1)) h') (n i : Nat) (hi : i + n = 36) (h7 : cntf (wrn β) i ≤ 7) (h : mx_H) (s : mx_St) (H : HR P h s) (N : NW s β) (hs : gf iS iF s0 s) (w : WM s (cntf (wrn β) i) (wci (wrn β) i)) : wq d 188 7 [some (.ref 54), some (.int (nI i))] [] h Q := by
  have w1 := w.1
  match n, hi with
  | 0, hi =>
    obtain rfl : i = 36 := by omega
    refine q_iload_n (pc := 7) rfl rfl ?_
    refine q_bipush (pc := 8) rfl (nI 36) (by decide) ?_
    first | refine n_icmpge (pc := 10) rfl (by omega) (by omega) (fun h10 => ?_) (fun h10 => ?_) | refine q_icmpge (pc := 10) rfl (fun h10 => ?_) (fun h10 => ?_)
    · refine q_iconst (pc := 58) rfl (nI 0) (by decide) ?_
      refine q_iret (pc := 59) rfl (rfl) ?_
      exact ht h7 _ _ H N hs w
    · first | (exfalso; omega) | exact absurd h10 (nI_pos (by omega)) | exact absurd (nI_pos' (by omega)) h10
  | n + 1, hi =>
    have e1 : cntf (wrn β) (i + 1) = cntf (wrn β) i + (wrn β i).toNat := rfl
    refine q_iload_n (pc := 7) rfl rfl ?_
    refine q_bipush (pc := 8) rfl (nI 36) (by decide) ?_
    first | refine n_icmpge (pc := 10) rfl (by omega) (by omega) (fun h10 => ?_) (fun h10 => ?_) | refine q_icmpge (pc := 10) rfl (fun h10 => ?_) (fun h10 => ?_)
    · first | (exfalso; omega) | exact absurd h10 (nI_pos (by omega)) | exact absurd (nI_pos' (by omega)) h10
    · refine q_aload_n (pc := 13) rfl rfl rfl ?_
      refine q_iload_n (pc := 14) rfl rfl ?_
      refine q_callV (pc := 15) _ rfl rfl rfl (by exact HR.c H hl _ rfl) rfl (Nat.le_of_ble_eq_true rfl) (by omega) _ rfl ?_
      refine m_isWrong H hl N hk (by omega) (fun hw => ?_) (fun hwf => ?_)
      · refine q_ifeq (pc := 18) rfl (fun z => absurd z (by decide)) (fun _ => ?_)
        refine q_aload_n (pc := 21) rfl rfl rfl ?_
        refine q_getf (pc := 22) rfl (by exact HR.c H hl _ rfl) rfl rfl ?_
        rw [w1]
        refine q_bipush (pc := 25) rfl (nI 7) (by decide) ?_
        first | refine n_icmpne (pc := 27) rfl (by omega) (by omega) (fun h27 => ?_) (fun h27 => ?_) | refine q_icmpne (pc := 27) rfl (fun h27 => ?_) (fun h27 => ?_)
        · first
          | (exfalso; omega (config := {splitDisjunctions := false}))
          | exact absurd rfl h27
          | skip
            refine q_aload_n (pc := 32) rfl rfl rfl ?_
            refine q_getf (pc := 33) rfl (by exact HR.c H hl _ rfl) rfl rfl ?_
            refine q_aload_n (pc := 36) rfl rfl rfl ?_
            refine q_getf (pc := 37) rfl (by exact HR.c H hl _ rfl) rfl rfl ?_
            rw [w1]
            refine q_iload_n (pc := 40) rfl rfl ?_
            refine r_ist2 (pc := 41) rfl H hl rfl (fun _ => rfl) rfl (by omega) (by omega) ?_
            intro h H
            refine q_aload_n (pc := 42) rfl rfl rfl ?_
            refine q_dup (pc := 43) rfl rfl ?_
            refine q_getf (pc := 44) rfl (by exact HR.c H hl _ rfl) rfl rfl ?_
            rw [show stv s 66 (cntf (wrn β) i) (nI i) 54 26 = nI (cntf (wrn β) i) from (congrFun (stv_n (by decide)) _).trans w1]
            refine q_iconst (pc := 47) rfl (nI 1) (by decide) ?_
            first | refine n_iadd (pc := 48) rfl ?_ | refine q_iadd (pc := 48) rfl ?_
            refine r_pf2 (pc := 49) (i := 26) rfl H hl rfl rfl rfl rfl (Nat.le_of_ble_eq_true rfl) rfl rfl ?_
            intro h H
            first | refine n_iinc (pc := 52) rfl [_, _] 1 (by decide) rfl rfl ?_ | refine q_iinc (pc := 52) [_, _] (1) rfl rfl (by decide) rfl ?_
            refine q_goto (pc := 55) rfl ?_
            first
            | (rw [hw] at e1
               have e1 : cntf (wrn β) (i + 1) = cntf (wrn β) i + 1 := e1
               have k2 : gf iS iF s (stv (stv s 66 (cntf (wrn β) i) (nI i)) 54 26 (nI (cntf (wrn β) i + 1))) := (gf.wr (Or.inr rfl) (by decide)).tr (gf.fd (Or.inl rfl) rfl)
               refine m_isManyL hd hl hk ht hf n (i + 1) (by omega) (by omega) h _ H (N.fr k2.1 (by unfold iS; decide)) (hs.tr k2) ⟨by rw [e1]; exact stv_a, fun j hj => ?_⟩
               rw [stv_n (by decide)]
               rw [wci]
               by_cases g : j = cntf (wrn β) i
               · subst g
                 rw [if_pos ⟨hw, rfl⟩]
                 exact stv_a
               · rw [if_neg (fun e => g e.2), stv_o g]
                 exact w.2 j (by omega))
            | (rw [hwf] at e1
               have e1 : cntf (wrn β) (i + 1) = cntf (wrn β) i := e1
               refine m_isManyL hd hl hk ht hf n (i + 1) (by omega) (by omega) h _ H N hs ⟨by rw [e1]; exact w.1, fun j hj => ?_⟩
               rw [wci, if_neg (fun e => by rw [hwf] at e; exact absurd e.1 (by decide))]
               exact w.2 j (by omega))
        · first
          | (exfalso; omega (config := {splitDisjunctions := false}))
          | exact absurd rfl h27
          | skip
            refine q_iconst (pc := 30) rfl (nI 1) (by decide) ?_
            refine q_iret (pc := 31) rfl (rfl) ?_
            have e2 := cntf_mono (wrn β) (show i + 1 ≤ 36 by omega)
            rw [hw] at e1
            have e1 : cntf (wrn β) (i + 1) = cntf (wrn β) i + 1 := e1
            exact hf (by unfold wrC; omega) _ _ H N hs
      · refine q_ifeq (pc := 18) rfl (fun _ => ?_) (fun z => absurd (by decide) z)
        first | refine n_iinc (pc := 52) rfl [_, _] 1 (by decide) rfl rfl ?_ | refine q_iinc (pc := 52) [_, _] (1) rfl rfl (by decide) rfl ?_
        refine q_goto (pc := 55) rfl ?_
        first
        | (rw [hw] at e1
           have e1 : cntf (wrn β) (i + 1) = cntf (wrn β) i + 1 := e1
           have k2 : gf iS iF s (stv (stv s 66 (cntf (wrn β) i) (nI i)) 54 26 (nI (cntf (wrn β) i + 1))) := (gf.wr (Or.inr rfl) (by decide)).tr (gf.fd (Or.inl rfl) rfl)
           refine m_isManyL hd hl hk ht hf n (i + 1) (by omega) (by omega) h _ H (N.fr k2.1 (by unfold iS; decide)) (hs.tr k2) ⟨by rw [e1]; exact stv_a, fun j hj => ?_⟩
           rw [stv_n (by decide)]
           rw [wci]
           by_cases g : j = cntf (wrn β) i
           · subst g
             rw [if_pos ⟨hw, rfl⟩]
             exact stv_a
           · rw [if_neg (fun e => g e.2), stv_o g]
             exact w.2 j (by omega))
        | (rw [hwf] at e1
           have e1 : cntf (wrn β) (i + 1) = cntf (wrn β) i := e1
           refine m_isManyL hd hl hk ht hf n (i + 1) (by omega) (by omega) h _ H N hs ⟨by rw [e1]; exact w.1, fun j hj => ?_⟩
           rw [wci, if_neg (fun e => by rw [hwf] at e; exact absurd e.1 (by decide))]
           exact w.2 j (by omega))
termination_by n
theorem m_isMany (hd : 2 ≤ d) (hl : 75 ≤ P.1) (hk : ∀ i, i < 72 → β i ≤ 9) (H : HR P h s) (N : NW s β) (ht : wrC β ≤ 7 → ∀ h' s', HR P h' s' → NW s' β → gf iS iF s s' → WM s' (wrC β) (wrI β) → Q (some (.int 0)) h') (hf : 7 < wrC β → ∀ h' s', HR P h' s' → NW s' β → gf iS iF s s' → Q (some (.int 1)) h') : wc d 188 [.ref 54] h Q := by
  refine wc.go [_, _] rfl ?_
  refine q_aload_n (pc := 0) rfl rfl rfl ?_
  refine q_iconst (pc := 1) rfl (nI 0) (by decide) ?_
  refine r_pf2 (pc := 2) (i := 26) rfl H hl rfl rfl rfl rfl (Nat.le_of_ble_eq_true rfl) rfl rfl ?_
  intro h H
  refine q_iconst (pc := 5) rfl (nI 0) (by decide) ?_
  refine q_istore_n (pc := 6) [_, _] rfl (Nat.le_of_ble_eq_true rfl) rfl ?_
  have k2 : gf iS iF s (stv s 54 26 (nI 0)) := gf.fd (Or.inl rfl) rfl
  exact m_isManyL hd hl hk ht hf 36 0 (by omega) (by show 0 ≤ 7; omega) h _ H (N.fr k2.1 (by unfold iS; decide)) k2 ⟨stv_a, fun j hj => absurd hj (by show ¬ j < 0; omega)⟩
/-- the sum over those that hold -/
def smf (f : Nat → Bool) (v : Nat → Nat) : Nat → Nat
  | 0 => 0
  | n + 1 => smf f v n + (if f n = true then v n else 0)
theorem smf_c {f g : Nat → Bool} {v : Nat → Nat} {n : Nat} (h : ∀ i, i < n → f i = g i) : smf f v n = smf g v n := by
  induction n with
  | zero => rfl
  | succ n ih => rw [smf, smf, ih (fun i hi => h i (by omega)), h n (by omega)]
theorem smf_no {f : Nat → Bool} {v : Nat → Nat} {n : Nat} (h : ∀ i, i < n → f i = false) : smf f v n = 0 := by
  induction n with
  | zero => rfl
  | succ n ih => rw [smf, ih (fun i hi => h i (by omega)), h n (by omega)]; rfl
theorem smf_all {f : Nat → Bool} {v : Nat → Nat} {n : Nat} (h : ∀ i, i < n → f i = true) : smf f v n = smN v n := by
  induction n with
  | zero => rfl
  | succ n ih => rw [smf, smN, ih (fun i hi => h i (by omega)), h n (by omega)]; rfl
theorem nbt_or {w a : Nat} : nbt (w ||| 2 ^ a) i = (nbt w i && !decide (a = i)) := by
  unfold nbt
  rw [Nat.testBit_or, Nat.testBit_two_pow, Bool.not_or]
theorem smf_or {v : Nat → Nat} {w a n : Nat} (ha : nbt w a = true) (hn : a < n) : smf (nbt (w ||| 2 ^ a)) v n + v a = smf (nbt w) v n := by
  induction n with
  | zero => omega
  | succ n ih =>
    rw [smf, smf, nbt_or]
    by_cases g : a = n
    · subst g
      rw [smf_c (f := nbt (w ||| 2 ^ a)) (g := nbt w) (fun i hi => by
        rw [nbt_or, decide_eq_false (by omega)]
        exact Bool.and_true _), ha, decide_eq_true rfl]
      show _ + 0 + v a = _ + v a
      omega
    · have := ih (by omega)
      rw [decide_eq_false g, Bool.not_false, Bool.and_true]
      omega
theorem mnF_z {f : Nat → Bool} {c : Nat → Nat} {z n : Nat} (h : ∀ i, i < n → f i = false) : mnF f c z n = z := by
  induction n with
  | zero => rfl
  | succ n ih => rw [mnF, ih (fun i hi => h i (by omega)), h n (by omega)]; rfl
theorem mnF_sh {f : Nat → Bool} {c : Nat → Nat} {z n k : Nat} : mnF f (fun i => c i + k) (z + k) n = mnF f c z n + k := by
  induction n with
  | zero => rfl
  | succ n ih =>
    rw [mnF, mnF, ih]
    split <;> omega
def upL (L : Nat × Int32) (b : Int32) (v : Nat) : Nat × Int32 := if v < L.1 then (v, b) else L
theorem upL_c {L : Nat × Int32} {b b' : Int32} {u v : Nat} (h1 : b = b') (h2 : u = v) : upL L b u = upL L b' v := by rw [h1, h2]
def lpg (f : Nat → Bool) (c : Nat → Nat) (nb : Nat → Int32) (L : Nat × Int32) : Nat → Nat × Int32
  | 0 => L
  | i + 1 => if f i = true then upL (lpg f c nb L i) (nb i) (c i) else lpg f c nb L i
theorem lpg_le {f : Nat → Bool} {c : Nat → Nat} {nb : Nat → Int32} {L : Nat × Int32} {n : Nat} : (lpg f c nb L n).1 ≤ L.1 := by
  induction n with
  | zero => exact Nat.le_refl _
  | succ n ih =>
    rw [lpg]
    split
    · unfold upL
      split
      · show c n ≤ L.1
        omega
      · exact ih
    · exact ih
theorem lpg_in {f : Nat → Bool} {c : Nat → Nat} {nb : Nat → Int32} {L : Nat × Int32} {b : Int32} {z n : Nat} (hb : ∀ i, i < n → nb i = b) (hz : ∀ i, i < n → f i = true → c i ≤ z) : (lpg f c nb L n = L ∧ ∀ i, i < n → f i = false) ∨ ((∃ i, i < n ∧ f i = true) ∧ lpg f c nb L n = upL L b (mnF f c z n)) := by
  induction n with
  | zero => exact Or.inl ⟨rfl, fun i hi => absurd hi (Nat.not_lt_zero _)⟩
  | succ n ih =>
    rw [lpg, mnF]
    have hbn := hb n (by omega)
    rcases Bool.eq_false_or_eq_true (f n) with e | e
    · refine Or.inr ⟨⟨n, by omega, e⟩, ?_⟩
      rw [if_pos e, if_pos e, hbn]
      have := hz n (by omega) e
      rcases ih (fun i hi => hb i (by omega)) (fun i hi => hz i (by omega)) with ⟨g1, g2⟩ | ⟨g1, g2⟩
      · rw [g1, mnF_z g2, Nat.min_eq_right this]
      · rw [g2]
        unfold upL
        by_cases q1 : mnF f c z n < L.1
        · rw [if_pos q1]
          by_cases q2 : c n < mnF f c z n
          · rw [if_pos q2, if_pos (by omega), Nat.min_eq_right (by omega)]
          · rw [if_neg q2, if_pos (by omega), Nat.min_eq_left (by omega)]
        · rw [if_neg q1]
          by_cases q2 : c n < L.1
          · rw [if_pos q2, if_pos (by omega), Nat.min_eq_right (by omega)]
          · rw [if_neg q2, if_neg (by omega)]
    · rw [if_neg (by rw [e]; decide), if_neg (by rw [e]; decide)]
      rcases ih (fun i hi => hb i (by omega)) (fun i hi => hz i (by omega)) with ⟨g1, g2⟩ | ⟨⟨j, hj, g1⟩, g2⟩
      · refine Or.inl ⟨g1, fun i hi => ?_⟩
        rcases Nat.lt_succ_iff_lt_or_eq.mp hi with q | q
        · exact g2 i q
        · rw [q]; exact e
      · exact Or.inr ⟨⟨j, by omega, g1⟩, g2⟩
theorem lpg_c {f : Nat → Bool} {c c' : Nat → Nat} {nb nb' : Nat → Int32} {L : Nat × Int32} {n : Nat} (h : ∀ i, i < n → f i = true → c i = c' i ∧ nb i = nb' i) : lpg f c nb L n = lpg f c' nb' L n := by
  induction n with
  | zero => rfl
  | succ n ih =>
    rw [lpg, lpg, ih (fun i hi => h i (by omega))]
    split
    · rename_i e
      rw [(h n (by omega) e).1, (h n (by omega) e).2]
    · rfl
theorem mn_some {f : Nat → Bool} {c : Nat → Nat} {z n i : Nat} (hi : i < n) (hf : f i = true) : mnF f c z n ≤ c i := by
  induction n with
  | zero => omega
  | succ n ih =>
    rw [mnF]
    rcases Nat.lt_succ_iff_lt_or_eq.mp hi with q | q
    · have := ih q
      split <;> omega
    · subst q
      rw [if_pos hf]
      omega
/-- the way ahead is short -/
theorem rtN_ap {g : Nat → Nat} {m : Nat} (hg : ∀ i, i < m → g i < 36) : ∀ n w l, l < m → cntf w.testBit m + n = m → m < 8 → w < 2 ^ m → rtN m (apW g) n w l ≤ 10 * n := by
  intro n
  induction n with
  | zero => intro w l _ _ _ _; exact Nat.zero_le _
  | succ n ih =>
    intro w l hl hc hm hw
    have hex : ∃ i, i < m ∧ w.testBit i = false := by
      refine Classical.byContradiction (fun hne => ?_)
      have : cntf w.testBit m = m := by
        have hall : ∀ i, i < m → w.testBit i = true := fun i hi => by
          cases e : w.testBit i
          · exact absurd ⟨i, hi, e⟩ hne
          · rfl
        have : ∀ k, k ≤ m → cntf w.testBit k = k := by
          intro k
          induction k with
          | zero => intro _; rfl
          | succ k ihk => intro hk; rw [show cntf w.testBit (k + 1) = cntf w.testBit k + (w.testBit k).toNat from rfl, ihk (by omega), hall k (by omega)]; rfl
        exact this m (Nat.le_refl _)
      omega
    obtain ⟨i, hi, e⟩ := hex
    have o1 := st_or m hm w hw i hi e
    have h1 := ih (w ||| 2 ^ i) i hi (by omega) hm o1.1
    have h2 : mnF (nbt w) (fun i => apW g l i + rtN m (apW g) n (w ||| 2 ^ i) i) 1000000 m ≤ apW g l i + rtN m (apW g) n (w ||| 2 ^ i) i := mn_some (c := fun i => apW g l i + rtN m (apW g) n (w ||| 2 ^ i) i) hi (by unfold nbt; rw [e]; rfl)
    have h3 : apW g l i ≤ 10 := apN_le (hg l hl) (hg i hi)
    rw [rtN]
    omega
def vN (m : Nat) (g v : Nat → Nat) (w l : Nat) : Nat := rtT m (apW g) w l + smf (nbt w) v m
def ordC (m : Nat) (g v : Nat → Nat) (w fr o : Nat) : Nat → Nat := fun i => o + apN fr (g i) + v i + vN m g v (w ||| 2 ^ i) i
def ordB (g : Nat → Nat) (b : Int32) : Nat → Int32 := fun i => if b = -1 then nI (g i) else b
def ordR (m : Nat) (g v : Nat → Nat) (w fr o : Nat) (b : Int32) (L : Nat × Int32) : Nat × Int32 := if w = 2 ^ m - 1 then upL L b o else lpg (nbt w) (ordC m g v w fr o) (ordB g b) L m
theorem ordR_in {m w l o : Nat} {g v : Nat → Nat} {b : Int32} {L : Nat × Int32} (hm : m < 8) (hw : w < 2 ^ m) (hlm : l < m) (hg : ∀ i, i < m → g i < 36) (hb : b ≠ -1) : ordR m g v w (g l) o b L = upL L b (o + vN m g v w l) := by
  unfold ordR
  by_cases e : w = 2 ^ m - 1
  · have h0 : 0 < 2 ^ m := Nat.two_pow_pos m
    rw [if_pos e]
    refine upL_c rfl ?_
    have ea := (st_all m hm w hw).mpr e
    unfold vN
    rw [rtT_all hm e, smf_no (f := nbt w) (n := m) (fun i hi => ?_)]
    · rfl
    · unfold nbt
      cases q : w.testBit i
      · have := (st_or m hm w hw i hi q).2.1
        have := (st_or m hm w hw i hi q).1
        omega
      · rfl
  · rw [if_neg e]
    have hc : ∀ i, i < m → nbt w i = true → ordC m g v w (g l) o i = (apW g l i + rtT m (apW g) (w ||| 2 ^ i) i) + (o + smf (nbt w) v m) := fun i hi q => by
      unfold ordC vN apW
      have := smf_or (v := v) q hi
      omega
    have hz : ∀ i, i < m → nbt w i = true → apW g l i + rtT m (apW g) (w ||| 2 ^ i) i ≤ 1000000 := fun i hi q => by
      have q1 : w.testBit i = false := by
        unfold nbt at q
        cases z : w.testBit i
        · rfl
        · rw [z] at q
          exact absurd q (by decide)
      have o1 := st_or m hm w hw i hi q1
      have c1 := cntf_le w.testBit m
      have c2 := cntf_le (w ||| 2 ^ i).testBit m
      have h1 := rtN_ap hg (m - cntf (w ||| 2 ^ i).testBit m) (w ||| 2 ^ i) i hi (by omega) hm o1.1
      have h3 : apW g l i ≤ 10 := apN_le (hg l hlm) (hg i hi)
      unfold rtT
      omega
    rw [lpg_c (c' := fun i => (apW g l i + rtT m (apW g) (w ||| 2 ^ i) i) + (o + smf (nbt w) v m)) (nb := ordB g b) (nb' := fun _ => b) (fun i hi q => ⟨hc i hi q, if_neg hb⟩)]
    have hex : ∃ i, i < m ∧ w.testBit i = false := by
      refine Classical.byContradiction (fun hne => ?_)
      refine e ((st_all m hm w hw).mp ?_)
      have : ∀ k, k ≤ m → cntf w.testBit k = k := by
        intro k
        induction k with
        | zero => intro _; rfl
        | succ k ihk =>
          intro hk
          rw [show cntf w.testBit (k + 1) = cntf w.testBit k + (w.testBit k).toNat from rfl, ihk (by omega)]
          cases z : w.testBit k
          · exact absurd ⟨k, by omega, z⟩ hne
          · rfl
      exact this m (Nat.le_refl _)
    obtain ⟨i, hi, ei⟩ := hex
    rcases lpg_in (f := nbt w) (c := fun i => (apW g l i + rtT m (apW g) (w ||| 2 ^ i) i) + (o + smf (nbt w) v m)) (nb := fun _ => b) (L := L) (b := b) (z := 1000000 + (o + smf (nbt w) v m)) (n := m) (fun _ _ => rfl) (fun i hi q => Nat.add_le_add_right (hz i hi q) _) with ⟨_, g2⟩ | ⟨_, g2⟩
    · exact absurd (g2 i hi) (by unfold nbt; rw [ei]; decide)
    · rw [g2, mnF_sh (c := fun i => apW g l i + rtT m (apW g) (w ||| 2 ^ i) i)]
      refine upL_c rfl ?_
      unfold vN
      rw [rtT_s hm hw e]
      omega
end P59
