/-! ===== the reference: the order of one, the calls ===== -/
section P60
variable {d k pc a i j c p b t n m part q : Nat} {v : Int} {L L' : mx_L} {st r : List Value} {P : mx_Pm} {h : mx_H} {s : mx_St} {Q : Option Value → mx_H → Prop} {x y w z u : Int32} {β κ : Nat → Nat} {C : Nat → Nat → Int32} {E : Nat → Nat → Nat} {ik tz : Nat} {tp : Nat → Nat} {σ : Nat → Int32} {sz : Nat → Nat} {cl : Nat → Nat → Int32}
def oS (i : Nat) : Prop := i = 54
def oF (j : Nat) : Prop := j = 27 ∨ j = 28
def LF (s : mx_St) (L : Nat × Int32) : Prop := s 54 27 = nI L.1 ∧ s 54 28 = L.2
theorem shb1 : ∀ w, w < 128 → ∀ i, i < 7 → ((nI w >>> (nI i &&& 31)) &&& nI 1 = nI 1 ↔ w.testBit i = true) := by decide +kernel
theorem lfb : ∀ m, m < 8 → ∀ w, w < 2 ^ m → ∀ i, i < m → (2 ^ m - 1 - w).testBit i = !w.testBit i ∧ (w.testBit i = false → 2 ^ m - 1 - w - 2 ^ i = 2 ^ m - 1 - (w ||| 2 ^ i) ∧ 2 ^ i ≤ 2 ^ m - 1 - w) := by decide +kernel
theorem WM.fr {s s' : mx_St} {S F : Nat → Prop} {n : Nat} {g : Nat → Nat} (w : WM s n g) (f : gf S F s s') (h1 : ¬ F 26) (h2 : ¬ S 66) : WM s' n g := ⟨(f.2 26 h1).trans w.1, fun i hi => (congrFun (f.1 66 h2) _).trans (w.2 i hi)⟩
def OC (P : mx_Pm) (m : Nat) (g v : Nat → Nat) (n : Nat) : Prop := ∀ (w fr o : Nat) (b : Int32) (L : Nat × Int32) (d : Nat) (h : mx_H) (s : mx_St) (Q : Option Value → mx_H → Prop), w < 2 ^ m → cntf w.testBit m + n = m → fr < 36 → o + 200 * n ≤ 2000 → L.1 < 2 ^ 31 → n + 2 ≤ d → HR P h s → WM s m g → (∀ i, i < m → s 67 i = nI (v i)) → LF s L → (∀ h' s', HR P h' s' → gf oS oF s s' → LF s' (ordR m g v w fr o b L) → Q none h') → wc d 189 [.ref 54, .int (nI (2 ^ m - 1 - w)), .int (nI fr), .int (nI o), .int b] h Q
theorem m_ordL {w fr o0 m n : Nat} {g v : Nat → Nat} {b : Int32} {L0 : Nat × Int32} (hl : 75 ≤ P.1) (hm : m < 8) (hg : ∀ i, i < m → g i < 36) (hvb : ∀ i, i < m → v i ≤ 99) (ih : OC P m g v n) (hw : w < 2 ^ m) (hc : cntf w.testBit m + (n + 1) = m) (hfr : fr < 36) (ho : o0 + 200 * (n + 1) ≤ 2000) (hL0 : L0.1 < 2 ^ 31) (hd : n + 3 ≤ d) {s0 : mx_St} (kk : ∀ h' s', HR P h' s' → gf oS oF s0 s' → LF s' (lpg (nbt w) (ordC m g v w fr o0) (ordB g b) L0 m) → Q none h') (k0 i : Nat) (hi : i + k0 = m) (h : mx_H) (s : mx_St) (H : HR P h s) (f : gf oS oF s0 s) (hW : WM s m g) (hv : ∀ i, i < m → s 67 i = nI (v i)) (hL : LF s (lpg (nbt w) (ordC m g v w fr o0) (ordB g b) L0 i)) : wq d 189 27 [some (.ref 54), some (.int (nI (2 ^ m - 1 - w))), some (.int (nI fr)), some (.int (nI o0)), some (.int b), some (.int (nI i))] [] h Q := by
  have p7 := pw7 (m := m) (by omega)
  match k0, hi with
  | 0, hi =>
    obtain rfl : i = m := by omega
    refine q_iload (pc := 27) rfl rfl ?_
    refine q_aload_n (pc := 29) rfl rfl rfl ?_
    refine q_getf (pc := 30) rfl (by exact HR.c H hl _ rfl) rfl rfl ?_
    rw [hW.1]
    first | refine n_icmpge (pc := 33) rfl (by omega) (by omega) (fun h33 => ?_) (fun h33 => ?_) | refine q_icmpge (pc := 33) rfl (fun h33 => ?_) (fun h33 => ?_)
    · refine q_vret (pc := 108) rfl rfl ?_
      exact kk _ _ H f hL
    · first | (exfalso; omega) | exact absurd h33 (nI_pos (by omega)) | exact absurd (nI_pos' (by omega)) h33
  | k0 + 1, hi =>
    have hgi := hg i (by omega)
    have hvi := hvb i (by omega)
    have hap : apN fr (g i) ≤ 10 := apN_le hfr hgi
    obtain ⟨b1, b2⟩ := lfb m hm w hw i (by omega)
    have sb := shb1 (2 ^ m - 1 - w) (by omega) i (by omega)
    have hLi : (lpg (nbt w) (ordC m g v w fr o0) (ordB g b) L0 i).1 ≤ L0.1 := lpg_le
    refine q_iload (pc := 27) rfl rfl ?_
    refine q_aload_n (pc := 29) rfl rfl rfl ?_
    refine q_getf (pc := 30) rfl (by exact HR.c H hl _ rfl) rfl rfl ?_
    rw [hW.1]
    first | refine n_icmpge (pc := 33) rfl (by omega) (by omega) (fun h33 => ?_) (fun h33 => ?_) | refine q_icmpge (pc := 33) rfl (fun h33 => ?_) (fun h33 => ?_)
    · first | (exfalso; omega) | exact absurd h33 (nI_pos (by omega)) | exact absurd (nI_pos' (by omega)) h33
    · refine q_iload_n (pc := 36) rfl rfl ?_
      refine q_iload (pc := 37) rfl rfl ?_
      refine q_ishr (pc := 39) rfl ?_
      refine q_iconst (pc := 40) rfl (nI 1) (by decide) ?_
      refine q_iand (pc := 41) rfl ?_
      refine q_iconst (pc := 42) rfl (nI 1) (by decide) ?_
      refine q_icmpne (pc := 43) rfl (fun h43 => ?_) (fun h43 => ?_)
      · have hw1 : w.testBit i = true := by
          cases e : w.testBit i
          · rw [e] at b1
            exact absurd (sb.mpr b1) h43
          · rfl
        first
        | (exfalso; omega (config := {splitDisjunctions := false}))
        | exact absurd rfl h43
        | skip
          first | refine n_iinc (pc := 102) rfl [_, _, _, _, _, _] 1 (by decide) rfl rfl ?_ | refine q_iinc (pc := 102) [_, _, _, _, _, _] (1) rfl rfl (by decide) rfl ?_
          refine q_goto (pc := 105) rfl ?_
          first
          | (rw [show ordB g b i = b from if_neg hb] at e
             rw [← show ordC m g v w fr o0 i = o0 + apN fr (g i) + v i + vN m g v (w ||| 2 ^ i) i from rfl, ← e] at L1
             exact m_ordL hl hm hg hvb ih hw hc hfr ho hL0 hd kk k0 (i + 1) (by omega) h s1 H (f.tr f1) (hW.fr f1 (by unfold oF; omega) (by unfold oS; omega)) (fun i hi => (congrFun (f1.1 67 (by unfold oS; omega)) _).trans (hv i hi)) L1)
          | (rw [show ordB g b i = nI (g i) from if_pos hbm] at e
             rw [← show ordC m g v w fr o0 i = o0 + apN fr (g i) + v i + vN m g v (w ||| 2 ^ i) i from rfl, ← e] at L1
             exact m_ordL hl hm hg hvb ih hw hc hfr ho hL0 hd kk k0 (i + 1) (by omega) h s1 H (f.tr f1) (hW.fr f1 (by unfold oF; omega) (by unfold oS; omega)) (fun i hi => (congrFun (f1.1 67 (by unfold oS; omega)) _).trans (hv i hi)) L1)
          | (have e : lpg (nbt w) (ordC m g v w fr o0) (ordB g b) L0 (i + 1) = lpg (nbt w) (ordC m g v w fr o0) (ordB g b) L0 i := if_neg (by unfold nbt; rw [hw1]; decide)
             rw [← e] at hL
             exact m_ordL hl hm hg hvb ih hw hc hfr ho hL0 hd kk k0 (i + 1) (by omega) h s H f hW hv hL)
      · have hw0 : w.testBit i = false := by
          have := sb.mp h43
          rw [b1] at this
          cases e : w.testBit i
          · rfl
          · rw [e] at this
            exact absurd this (by decide)
        obtain ⟨b3, b4⟩ := b2 hw0
        have o1 := st_or m hm w hw i (by omega) hw0
        first
        | (exfalso; omega (config := {splitDisjunctions := false}))
        | exact absurd rfl h43
        | skip
          refine q_aload_n (pc := 46) rfl rfl rfl ?_
          refine q_iload_n (pc := 47) rfl rfl ?_
          refine q_iconst (pc := 48) rfl (nI 1) (by decide) ?_
          refine q_iload (pc := 49) rfl rfl ?_
          refine n_ishl1 (pc := 51) rfl (by omega) ?_
          first | refine n_isub (pc := 52) rfl (by omega) ?_ | refine q_isub (pc := 52) rfl ?_
          rw [b3]
          refine q_aload_n (pc := 53) rfl rfl rfl ?_
          refine q_getf (pc := 54) rfl (by exact HR.c H hl _ rfl) rfl rfl ?_
          refine q_iload (pc := 57) rfl rfl ?_
          refine n_ild (pc := 59) rfl (by first | exact HR.la H hl rfl rfl N | exact HR.la0 H hl rfl rfl) rfl (by omega) (by omega) ?_
          rw [hW.2 i (by omega)]
          refine q_iload_n (pc := 60) rfl rfl ?_
          refine q_iload_n (pc := 61) rfl rfl ?_
          refine q_aload_n (pc := 62) rfl rfl rfl ?_
          refine q_getf (pc := 63) rfl (by exact HR.c H hl _ rfl) rfl rfl ?_
          refine q_iload (pc := 66) rfl rfl ?_
          refine n_ild (pc := 68) rfl (by first | exact HR.la H hl rfl rfl N | exact HR.la0 H hl rfl rfl) rfl (by omega) (by omega) ?_
          rw [hW.2 i (by omega)]
          refine q_callS (pc := 69) _ (by decide) rfl rfl rfl rfl (Nat.le_of_ble_eq_true rfl) (by omega) _ rfl ?_
          refine m_apart hfr hgi ?_
          first | refine n_iadd (pc := 72) rfl ?_ | refine q_iadd (pc := 72) rfl ?_
          refine q_aload_n (pc := 73) rfl rfl rfl ?_
          refine q_getf (pc := 74) rfl (by exact HR.c H hl _ rfl) rfl rfl ?_
          refine q_iload (pc := 77) rfl rfl ?_
          refine n_ild (pc := 79) rfl (by first | exact HR.la H hl rfl rfl N | exact HR.la0 H hl rfl rfl) rfl (by omega) (by omega) ?_
          rw [hv i (by omega)]
          first | refine n_iadd (pc := 80) rfl ?_ | refine q_iadd (pc := 80) rfl ?_
          refine q_iload (pc := 81) rfl rfl ?_
          refine q_iconst (pc := 83) rfl (-1) (by decide) ?_
          refine q_icmpne (pc := 84) rfl (fun h84 => ?_) (fun h84 => ?_)
          · have hb : b ≠ -1 := h84
            first
            | (exfalso; omega (config := {splitDisjunctions := false}))
            | exact absurd rfl h84
            | skip
              refine q_iload (pc := 97) rfl rfl ?_
              refine q_callV (pc := 99) _ rfl rfl rfl (by exact HR.c H hl _ rfl) rfl (Nat.le_of_ble_eq_true rfl) (by omega) _ rfl ?_
              refine ih (w ||| 2 ^ i) (g i) (o0 + apN fr (g i) + v i) _ (lpg (nbt w) (ordC m g v w fr o0) (ordB g b) L0 i) _ _ _ _ o1.1 (by omega) hgi (by omega) (by omega) (by omega) H hW hv hL (fun h s1 H f1 L1 => ?_)
              rw [ordR_in hm o1.1 (by omega) hg (by first | exact hb | exact nI_m1 (by omega))] at L1
              have e : lpg (nbt w) (ordC m g v w fr o0) (ordB g b) L0 (i + 1) = upL (lpg (nbt w) (ordC m g v w fr o0) (ordB g b) L0 i) (ordB g b i) (ordC m g v w fr o0 i) := if_pos (by unfold nbt; rw [hw0]; rfl)
              first | refine n_iinc (pc := 102) rfl [_, _, _, _, _, _] 1 (by decide) rfl rfl ?_ | refine q_iinc (pc := 102) [_, _, _, _, _, _] (1) rfl rfl (by decide) rfl ?_
              refine q_goto (pc := 105) rfl ?_
              first
              | (rw [show ordB g b i = b from if_neg hb] at e
                 rw [← show ordC m g v w fr o0 i = o0 + apN fr (g i) + v i + vN m g v (w ||| 2 ^ i) i from rfl, ← e] at L1
                 exact m_ordL hl hm hg hvb ih hw hc hfr ho hL0 hd kk k0 (i + 1) (by omega) h s1 H (f.tr f1) (hW.fr f1 (by unfold oF; omega) (by unfold oS; omega)) (fun i hi => (congrFun (f1.1 67 (by unfold oS; omega)) _).trans (hv i hi)) L1)
              | (rw [show ordB g b i = nI (g i) from if_pos hbm] at e
                 rw [← show ordC m g v w fr o0 i = o0 + apN fr (g i) + v i + vN m g v (w ||| 2 ^ i) i from rfl, ← e] at L1
                 exact m_ordL hl hm hg hvb ih hw hc hfr ho hL0 hd kk k0 (i + 1) (by omega) h s1 H (f.tr f1) (hW.fr f1 (by unfold oF; omega) (by unfold oS; omega)) (fun i hi => (congrFun (f1.1 67 (by unfold oS; omega)) _).trans (hv i hi)) L1)
              | (have e : lpg (nbt w) (ordC m g v w fr o0) (ordB g b) L0 (i + 1) = lpg (nbt w) (ordC m g v w fr o0) (ordB g b) L0 i := if_neg (by unfold nbt; rw [hw1]; decide)
                 rw [← e] at hL
                 exact m_ordL hl hm hg hvb ih hw hc hfr ho hL0 hd kk k0 (i + 1) (by omega) h s H f hW hv hL)
          · have hbm : b = -1 := h84
            first
            | (exfalso; omega (config := {splitDisjunctions := false}))
            | exact absurd rfl h84
            | skip
              refine q_aload_n (pc := 87) rfl rfl rfl ?_
              refine q_getf (pc := 88) rfl (by exact HR.c H hl _ rfl) rfl rfl ?_
              refine q_iload (pc := 91) rfl rfl ?_
              refine n_ild (pc := 93) rfl (by first | exact HR.la H hl rfl rfl N | exact HR.la0 H hl rfl rfl) rfl (by omega) (by omega) ?_
              rw [hW.2 i (by omega)]
              refine q_goto (pc := 94) rfl ?_
              refine q_callV (pc := 99) _ rfl rfl rfl (by exact HR.c H hl _ rfl) rfl (Nat.le_of_ble_eq_true rfl) (by omega) _ rfl ?_
              refine ih (w ||| 2 ^ i) (g i) (o0 + apN fr (g i) + v i) _ (lpg (nbt w) (ordC m g v w fr o0) (ordB g b) L0 i) _ _ _ _ o1.1 (by omega) hgi (by omega) (by omega) (by omega) H hW hv hL (fun h s1 H f1 L1 => ?_)
              rw [ordR_in hm o1.1 (by omega) hg (by first | exact hb | exact nI_m1 (by omega))] at L1
              have e : lpg (nbt w) (ordC m g v w fr o0) (ordB g b) L0 (i + 1) = upL (lpg (nbt w) (ordC m g v w fr o0) (ordB g b) L0 i) (ordB g b i) (ordC m g v w fr o0 i) := if_pos (by unfold nbt; rw [hw0]; rfl)
              first | refine n_iinc (pc := 102) rfl [_, _, _, _, _, _] 1 (by decide) rfl rfl ?_ | refine q_iinc (pc := 102) [_, _, _, _, _, _] (1) rfl rfl (by decide) rfl ?_
              refine q_goto (pc := 105) rfl ?_
              first
              | (rw [show ordB g b i = b from if_neg hb] at e
                 rw [← show ordC m g v w fr o0 i = o0 + apN fr (g i) + v i + vN m g v (w ||| 2 ^ i) i from rfl, ← e] at L1
                 exact m_ordL hl hm hg hvb ih hw hc hfr ho hL0 hd kk k0 (i + 1) (by omega) h s1 H (f.tr f1) (hW.fr f1 (by unfold oF; omega) (by unfold oS; omega)) (fun i hi => (congrFun (f1.1 67 (by unfold oS; omega)) _).trans (hv i hi)) L1)
              | (rw [show ordB g b i = nI (g i) from if_pos hbm] at e
                 rw [← show ordC m g v w fr o0 i = o0 + apN fr (g i) + v i + vN m g v (w ||| 2 ^ i) i from rfl, ← e] at L1
                 exact m_ordL hl hm hg hvb ih hw hc hfr ho hL0 hd kk k0 (i + 1) (by omega) h s1 H (f.tr f1) (hW.fr f1 (by unfold oF; omega) (by unfold oS; omega)) (fun i hi => (congrFun (f1.1 67 (by unfold oS; omega)) _).trans (hv i hi)) L1)
              | (have e : lpg (nbt w) (ordC m g v w fr o0) (ordB g b) L0 (i + 1) = lpg (nbt w) (ordC m g v w fr o0) (ordB g b) L0 i := if_neg (by unfold nbt; rw [hw1]; decide)
                 rw [← e] at hL
                 exact m_ordL hl hm hg hvb ih hw hc hfr ho hL0 hd kk k0 (i + 1) (by omega) h s H f hW hv hL)
termination_by k0
theorem m_orders {m : Nat} {g v : Nat → Nat} (hl : 75 ≤ P.1) (hm : m < 8) (hg : ∀ i, i < m → g i < 36) (hvb : ∀ i, i < m → v i ≤ 99) : ∀ n, OC P m g v n := by
  intro n
  induction n with
  | zero =>
    intro w fr o0 b L d h s Q hw hc hfr ho hL0 hd H hW hv hL kk
    have p7 := pw7 (m := m) (by omega)
    have ew := (st_all m hm w hw).mp (by omega)
    have e0 : 2 ^ m - 1 - w = 0 := by omega
    have eR : ordR m g v w fr o0 b L = upL L b o0 := if_pos ew
    rw [eR] at kk
    rw [e0]
    refine wc.go [_, _, _, _, _, _] rfl ?_
    refine q_iload_n (pc := 0) rfl rfl ?_
    first | refine n_ifne (pc := 1) rfl (by omega) (fun h1 => ?_) (fun h1 => ?_) | refine q_ifne (pc := 1) rfl (fun h1 => ?_) (fun h1 => ?_)
    · first | (exfalso; omega) | exact absurd h1 (nI_pos (by omega)) | exact absurd (nI_pos' (by omega)) h1
    · refine q_iload_n (pc := 4) rfl rfl ?_
      refine q_aload_n (pc := 5) rfl rfl rfl ?_
      refine q_getf (pc := 6) rfl (by exact HR.c H hl _ rfl) rfl rfl ?_
      rw [hL.1]
      first | refine n_icmpge (pc := 9) rfl (by omega) (by omega) (fun h9 => ?_) (fun h9 => ?_) | refine q_icmpge (pc := 9) rfl (fun h9 => ?_) (fun h9 => ?_)
      · have q9 : ¬ o0 < L.1 := by omega
        first
        | (exfalso; omega (config := {splitDisjunctions := false}))
        | skip
          refine q_vret (pc := 23) rfl rfl ?_
          first
          | (exact kk _ _ H ((gf.fd (S := oS) (F := oF) rfl (Or.inl rfl)).tr (gf.fd (S := oS) (F := oF) rfl (Or.inr rfl))) ⟨by rw [stv_o (by decide), stv_a, upL, if_pos q9f], by rw [stv_a, upL, if_pos q9f]⟩)
          | (exact kk _ _ H gf.rf (by rw [upL, if_neg q9]; exact hL))
      · have q9f : o0 < L.1 := by omega
        first
        | (exfalso; omega (config := {splitDisjunctions := false}))
        | skip
          refine q_aload_n (pc := 12) rfl rfl rfl ?_
          refine q_iload_n (pc := 13) rfl rfl ?_
          refine r_pf2 (pc := 14) (i := 27) rfl H hl rfl rfl rfl rfl (Nat.le_of_ble_eq_true rfl) rfl rfl ?_
          intro h H
          refine q_aload_n (pc := 17) rfl rfl rfl ?_
          refine q_iload (pc := 18) rfl rfl ?_
          refine r_pf2 (pc := 20) (i := 28) rfl H hl rfl rfl rfl rfl (Nat.le_of_ble_eq_true rfl) rfl rfl ?_
          intro h H
          refine q_vret (pc := 23) rfl rfl ?_
          first
          | (exact kk _ _ H ((gf.fd (S := oS) (F := oF) rfl (Or.inl rfl)).tr (gf.fd (S := oS) (F := oF) rfl (Or.inr rfl))) ⟨by rw [stv_o (by decide), stv_a, upL, if_pos q9f], by rw [stv_a, upL, if_pos q9f]⟩)
          | (exact kk _ _ H gf.rf (by rw [upL, if_neg q9]; exact hL))
  | succ n ih =>
    intro w fr o0 b L d h s Q hw hc hfr ho hL0 hd H hW hv hL kk
    have p7 := pw7 (m := m) (by omega)
    have ew : w ≠ 2 ^ m - 1 := fun e => by
      have := (st_all m hm w hw).mpr e
      omega
    have eR : ordR m g v w fr o0 b L = lpg (nbt w) (ordC m g v w fr o0) (ordB g b) L m := if_neg ew
    rw [eR] at kk
    refine wc.go [_, _, _, _, _, _] rfl ?_
    refine q_iload_n (pc := 0) rfl rfl ?_
    first | refine n_ifne (pc := 1) rfl (by omega) (fun h1 => ?_) (fun h1 => ?_) | refine q_ifne (pc := 1) rfl (fun h1 => ?_) (fun h1 => ?_)
    · refine q_iconst (pc := 24) rfl (nI 0) (by decide) ?_
      refine q_istore (pc := 25) [_, _, _, _, _, _] rfl (Nat.le_of_ble_eq_true rfl) rfl ?_
      exact m_ordL hl hm hg hvb ih hw (by omega) hfr ho hL0 (by omega) kk m 0 (by omega) h s H gf.rf hW hv hL
    · first | (exfalso; omega) | exact absurd h1 (nI_pos (by omega)) | exact absurd (nI_pos' (by omega)) h1
theorem lpg_top {m at0 : Nat} {g v F : Nat → Nat} {S : Nat} (hS : S = smN v m) (hm : m < 8) (hg : ∀ i, i < m → g i < 36) (hvb : ∀ i, i < m → v i ≤ 99) (hat : at0 < 36) (hF : ∀ i, F i = apN at0 (g i) + rtT m (apW g) (2 ^ i) i) : ∀ i, i ≤ m → lpg (nbt 0) (ordC m g v 0 at0 0) (ordB g (-1)) (2147483647, -1) i = if i = 0 then (2147483647, -1) else ((nrs F i).2 + S, nI (g (nrs F i).1)) := by
  have hS2 : S ≤ 99 * 8 := by
    have := smN_le hvb
    omega
  have hFb : ∀ i, i < m → F i ≤ 1000010 := fun i hi => by
    have h1 := apN_le hat (hg i hi)
    have h2 := rtN_le m (apW g) (m - cntf (2 ^ i).testBit m) (2 ^ i) i
    rw [hF]
    unfold rtT
    omega
  intro i
  induction i with
  | zero => intro _; rfl
  | succ i ih =>
    intro hi
    have nb := nrs_c F m 1000010 (by omega) hFb i (by omega)
    have nb1 := hFb i (by omega)
    have hn0 : nbt 0 i = true := by unfold nbt; rw [Nat.zero_testBit]; rfl
    have eS : smf (nbt (0 ||| 2 ^ i)) v m + v i = S := by
      rw [smf_or (v := v) hn0 (by omega), hS]
      exact smf_all (fun j _ => by unfold nbt; rw [Nat.zero_testBit]; rfl)
    have eC : ordC m g v 0 at0 0 i = F i + S := by
      unfold ordC vN
      rw [hF, Nat.zero_or, ← eS, Nat.zero_or]
      omega
    have eB : ordB g (-1) i = nI (g i) := if_pos rfl
    rw [lpg, if_pos hn0, eB, eC, ih (by omega), if_neg (show ¬ i + 1 = 0 by omega)]
    by_cases e : i = 0
    · subst e
      rw [if_pos rfl, nrs, if_pos (show (nrs F 0).1 = 9 ∨ F 0 < (nrs F 0).2 from Or.inl rfl)]
      unfold upL
      rw [if_pos (by show F 0 + S < 2147483647; omega)]
    · rw [if_neg e, nrs]
      have n9 : (nrs F i).1 ≠ 9 := by
        have : ∀ j, 0 < j → j ≤ m → (nrs F j).1 ≠ 9 := by
          intro j
          induction j with
          | zero => intro h; omega
          | succ j ihj =>
            intro _ hj
            rw [nrs]
            split
            · show j ≠ 9
              omega
            · rename_i q
              exact fun z => q (Or.inl z)
        exact this i (by omega) (by omega)
      unfold upL
      by_cases q : F i < (nrs F i).2
      · rw [if_pos (by show F i + S < (nrs F i).2 + S; omega), if_pos (Or.inr q)]
      · rw [if_neg (by show ¬ F i + S < (nrs F i).2 + S; omega), if_neg (fun z => z.elim n9 q)]
/-- the whole of it -/
theorem ord_top {p : Nat} (hm : wrC β ≤ 7) (hat : β (72 + 4 * p + 2) < 36) : ordR (wrC β) (wrI β) (stN C E β p) 0 (β (72 + 4 * p + 2)) 0 (-1) (2147483647, -1) = ((nrs (swN β p) (wrC β)).2 + smN (stN C E β p) (wrC β), ocI β (nrs (swN β p) (wrC β)).1) := by
  unfold ordR
  by_cases e : wrC β = 0
  · rw [e, if_pos rfl]
    rfl
  · have h0 : wrC β < 2 ^ wrC β := Nat.lt_two_pow_self
    have hvb : ∀ i, i < wrC β → stN C E β p i ≤ 99 := fun i _ => (tkG_b C E β _ _ _ _).2
    rw [if_neg (by omega), lpg_top (F := swN β p) rfl (by omega) (fun i _ => wrI_lt i) hvb hat (fun i => rfl) _ (Nat.le_refl _), if_neg e]
    have nb := nrs_c (swN β p) (wrC β) 1000010 (by omega) (fun i hi => by
      have q1 := apN_le hat (wrI_lt (β := β) i)
      have q2 := rtN_le (wrC β) (apW (wrI β)) (wrC β - cntf (2 ^ i).testBit (wrC β)) (2 ^ i) i
      unfold swN rtT
      omega) (wrC β) (Nat.le_refl _)
    have n9 : ∀ j, 0 < j → j ≤ wrC β → (nrs (swN β p) j).1 ≠ 9 := by
      intro j
      induction j with
      | zero => intro h; omega
      | succ j ihj =>
        intro _ hj
        rw [nrs]
        split
        · show j ≠ 9
          omega
        · rename_i q
          exact fun z => q (Or.inl z)
    unfold ocI
    rw [if_neg (n9 _ (by omega) (Nat.le_refl _))]
theorem cnt_0 {m : Nat} : cntf (Nat.testBit 0) m = 0 := by
  induction m with
  | zero => rfl
  | succ m ih => rw [show cntf (Nat.testBit 0) (m + 1) = cntf (Nat.testBit 0) m + ((0 : Nat).testBit m).toNat from rfl, ih, Nat.zero_testBit]; rfl
def vS (i : Nat) : Prop := i = 54 ∨ i = 63 ∨ i = 66 ∨ i = 67
def vF (i : Nat) : Prop := (18 ≤ i ∧ i ≤ 20) ∨ (26 ≤ i ∧ i ≤ 28)
theorem gf_vm {s s' : mx_St} (f : gf vS vF s s') : mf s s' := f.mf (fun i g => by unfold vS at g; unfold mS; omega) (by unfold vF; omega)
theorem m_soonL {n p : Nat} {z2 : Int32} (hd : 6 ≤ d) (hl : 75 ≤ P.1) (hk : bok β n) (hp : p < 4) (hm : wrC β ≤ 7) {s0 : mx_St} (T0 : MT s0 n C E) (kk : ∀ h' s', HR P h' s' → gf vS vF s0 s' → NW s' β → WM s' (wrC β) (wrI β) → (∀ i, i < wrC β → s' 67 i = nI (stN C E β p i)) → wq d 190 67 [some (.ref 54), some (.int (nI p)), some (.int z2), some (.int (nI (wrC β)))] [] h' Q) (k0 i : Nat) (hi : i + k0 = wrC β) (h : mx_H) (s : mx_St) (H : HR P h s) (N : NW s β) (f : gf vS vF s0 s) (tk : TKN s (β (72 + 4 * p)) (β (72 + 4 * p + 1)) (β 90)) (hW : WM s (wrC β) (wrI β)) (hv : ∀ j, j < i → s 67 j = nI (stN C E β p j)) : wq d 190 37 [some (.ref 54), some (.int (nI p)), some (.int z2), some (.int (nI i))] [] h Q := by
  have T : MT s n C E := T0.fr (gf_vm f)
  obtain ⟨kp1, kp2, kp3, kp4⟩ := hk.2.1 p hp
  match k0, hi with
  | 0, hi =>
    obtain rfl : i = wrC β := by omega
    refine q_iload_n (pc := 37) rfl rfl ?_
    refine q_aload_n (pc := 38) rfl rfl rfl ?_
    refine q_getf (pc := 39) rfl (by exact HR.c H hl _ rfl) rfl rfl ?_
    rw [hW.1]
    first | refine n_icmpge (pc := 42) rfl (by omega) (by omega) (fun h42 => ?_) (fun h42 => ?_) | refine q_icmpge (pc := 42) rfl (fun h42 => ?_) (fun h42 => ?_)
    · exact kk _ _ H f N hW hv
    · first | (exfalso; omega) | exact absurd h42 (nI_pos (by omega)) | exact absurd (nI_pos' (by omega)) h42
  | k0 + 1, hi =>
    have hgi := wrI_lt (β := β) i
    refine q_iload_n (pc := 37) rfl rfl ?_
    refine q_aload_n (pc := 38) rfl rfl rfl ?_
    refine q_getf (pc := 39) rfl (by exact HR.c H hl _ rfl) rfl rfl ?_
    rw [hW.1]
    first | refine n_icmpge (pc := 42) rfl (by omega) (by omega) (fun h42 => ?_) (fun h42 => ?_) | refine q_icmpge (pc := 42) rfl (fun h42 => ?_) (fun h42 => ?_)
    · first | (exfalso; omega) | exact absurd h42 (nI_pos (by omega)) | exact absurd (nI_pos' (by omega)) h42
    · refine q_aload_n (pc := 45) rfl rfl rfl ?_
      refine q_getf (pc := 46) rfl (by exact HR.c H hl _ rfl) rfl rfl ?_
      refine q_iload_n (pc := 49) rfl rfl ?_
      refine q_aload_n (pc := 50) rfl rfl rfl ?_
      refine q_aload_n (pc := 51) rfl rfl rfl ?_
      refine q_getf (pc := 52) rfl (by exact HR.c H hl _ rfl) rfl rfl ?_
      refine q_iload_n (pc := 55) rfl rfl ?_
      refine n_ild (pc := 56) rfl (by first | exact HR.la H hl rfl rfl N | exact HR.la0 H hl rfl rfl) rfl (by omega) (by omega) ?_
      rw [hW.2 i (by omega)]
      refine q_callV (pc := 57) _ rfl rfl rfl (by exact HR.c H hl _ rfl) rfl (Nat.le_of_ble_eq_true rfl) (by omega) _ rfl ?_
      refine m_takes (by omega) H hl N T hk.2.2.2.2 hk.1 tk kp1 kp2 hgi ?_
      intro h s1 H f1
      rw [show tkG C E β (β (72 + 4 * p)) (β (72 + 4 * p + 1)) (β 90) (wrI β i) = stN C E β p i from rfl]
      refine r_ist2 (pc := 60) rfl H hl rfl (fun _ => rfl) rfl (by omega) (by omega) ?_
      intro h H
      first | refine n_iinc (pc := 61) rfl [_, _, _, _] 1 (by decide) rfl rfl ?_ | refine q_iinc (pc := 61) [_, _, _, _] (1) rfl rfl (by decide) rfl ?_
      refine q_goto (pc := 64) rfl ?_
      have k2 : gf vS vF s (stv s1 67 i (nI (stN C E β p i))) := (gf.of f1 (fun i g => by unfold vS; omega) (by decide)).tr (gf.wr (by unfold vS; omega) (by decide))
      have f2 : sf s (stv s1 67 i (nI (stN C E β p i))) (fun i => i = 63 ∨ i = 67) := (f1.mono (fun i g => Or.inl g)).st (Or.inr rfl)
      refine m_soonL hd hl hk hp hm T0 kk k0 (i + 1) (by omega) h _ H (N.fr f2 (by decide)) (f.tr k2) ⟨(congrFun (f2 54 (by decide)) _).trans tk.1, (congrFun (f2 54 (by decide)) _).trans tk.2.1, (congrFun (f2 54 (by decide)) _).trans tk.2.2⟩ ⟨(congrFun (f2 54 (by decide)) _).trans hW.1, fun j hj => (congrFun (f2 66 (by decide)) _).trans (hW.2 j hj)⟩ (fun j hj => ?_)
      by_cases e : j = i
      · subst e
        exact stv_a
      · rw [stv_o e, f1 67 (by decide)]
        exact hv j (by omega)
termination_by k0
theorem m_soonB {n p w : Nat} {z3 : Option Value} (hd : 12 ≤ d) (hl : 75 ≤ P.1) (hk : bok β n) (hp : p < 4) (hw : w < 2) (hm : wrC β ≤ 7) (H : HR P h s) (N : NW s β) (hW : WM s (wrC β) (wrI β)) (hv : ∀ i, i < wrC β → s 67 i = nI (stN C E β p i)) (kk : ∀ h' s', HR P h' s' → gf vS vF s s' → NW s' β → Q (some (.int (if w = 0 then nI ((nrs (swN β p) (wrC β)).2 + smN (stN C E β p) (wrC β)) else ocI β (nrs (swN β p) (wrC β)).1))) h') : wq d 190 67 [some (.ref 54), some (.int (nI p)), some (.int (nI w)), z3] [] h Q := by
  obtain ⟨kp1, kp2, kp3, kp4⟩ := hk.2.1 p hp
  have p7 := pw7 hm
  have p1 : 0 < 2 ^ wrC β := Nat.two_pow_pos _
  have hvb : ∀ i, i < wrC β → stN C E β p i ≤ 99 := fun i _ => (tkG_b C E β _ _ _ _).2
  refine q_aload_n (pc := 67) rfl rfl rfl ?_
  refine q_ldcW (pc := 68) rfl (nI 2147483647) (by decide) ?_
  refine r_pf2 (pc := 71) (i := 27) rfl H hl rfl rfl rfl rfl (Nat.le_of_ble_eq_true rfl) rfl rfl ?_
  intro h H
  refine q_aload_n (pc := 74) rfl rfl rfl ?_
  refine q_iconst (pc := 75) rfl (-1) (by decide) ?_
  refine r_pf2 (pc := 76) (i := 28) rfl H hl rfl rfl rfl rfl (Nat.le_of_ble_eq_true rfl) rfl rfl ?_
  intro h H
  have q1 : gf vS vF s (stv (stv s 54 27 (nI 2147483647)) 54 28 (-1)) := (gf.fd (Or.inl rfl) (by unfold vF; omega)).tr (gf.fd (Or.inl rfl) (by unfold vF; omega))
  have q2 : gf oS oF s (stv (stv s 54 27 (nI 2147483647)) 54 28 (-1)) := (gf.fd (S := oS) (F := oF) rfl (Or.inl rfl)).tr (gf.fd (S := oS) (F := oF) rfl (Or.inr rfl))
  have hW := hW.fr q2 (by unfold oF; omega) (by unfold oS; omega)
  have hv2 : ∀ i, i < wrC β → (stv (stv s 54 27 (nI 2147483647)) 54 28 (-1)) 67 i = nI (stN C E β p i) := fun i hi => (congrFun (q2.1 67 (by unfold oS; omega)) _).trans (hv i hi)
  have N := N.fr q2.1 (by unfold oS; decide)
  refine q_aload_n (pc := 79) rfl rfl rfl ?_
  refine q_iconst (pc := 80) rfl (nI 1) (by decide) ?_
  refine q_aload_n (pc := 81) rfl rfl rfl ?_
  refine q_getf (pc := 82) rfl (by exact HR.c H hl _ rfl) rfl rfl ?_
  rw [hW.1]
  refine n_ishl1 (pc := 85) rfl (by omega) ?_
  refine q_iconst (pc := 86) rfl (nI 1) (by decide) ?_
  first | refine n_isub (pc := 87) rfl (by omega) ?_ | refine q_isub (pc := 87) rfl ?_
  refine q_aload_n (pc := 88) rfl rfl rfl ?_
  refine q_iload_n (pc := 89) rfl rfl ?_
  refine q_callV (pc := 90) _ rfl rfl rfl (by exact HR.c H hl _ rfl) rfl (Nat.le_of_ble_eq_true rfl) (by omega) _ rfl ?_
  refine m_at H hl N hp ?_
  refine q_iconst (pc := 93) rfl (nI 0) (by decide) ?_
  refine q_iconst (pc := 94) rfl (-1) (by decide) ?_
  refine q_callV (pc := 95) _ rfl rfl rfl (by exact HR.c H hl _ rfl) rfl (Nat.le_of_ble_eq_true rfl) (by omega) _ rfl ?_
  refine m_orders (g := wrI β) (v := stN C E β p) hl (by omega) (fun i _ => wrI_lt i) hvb (wrC β) 0 (β (72 + 4 * p + 2)) 0 (-1) (2147483647, -1) _ _ _ _ p1 (by rw [cnt_0]; omega) (by omega) (by omega) (by show 2147483647 < 2 ^ 31; omega) (by omega) H hW hv2 ⟨by rw [stv_o (by decide), stv_a], stv_a⟩ (fun h s1 H f1 L1 => ?_)
  rw [ord_top hm (by omega)] at L1
  have N := N.fr f1.1 (by unfold oS; decide)
  refine q_iload_n (pc := 98) rfl rfl ?_
  first | refine n_ifne (pc := 99) rfl (by omega) (fun h99 => ?_) (fun h99 => ?_) | refine q_ifne (pc := 99) rfl (fun h99 => ?_) (fun h99 => ?_)
  · first
    | (exfalso; omega (config := {splitDisjunctions := false}))
    | exact absurd rfl h99
    | skip
      refine q_aload_n (pc := 109) rfl rfl rfl ?_
      refine q_getf (pc := 110) rfl (by exact HR.c H hl _ rfl) rfl rfl ?_
      rw [L1.2]
      refine q_iret (pc := 113) rfl (rfl) ?_
      first
      | (rw [if_pos (by omega)] at kk
         exact kk _ _ H (q1.tr (f1.mono (fun i g => Or.inl g) (fun i g => by unfold oF at g; unfold vF; omega))) N)
      | (rw [if_neg (by omega)] at kk
         exact kk _ _ H (q1.tr (f1.mono (fun i g => Or.inl g) (fun i g => by unfold oF at g; unfold vF; omega))) N)
  · first
    | (exfalso; omega (config := {splitDisjunctions := false}))
    | exact absurd rfl h99
    | skip
      refine q_aload_n (pc := 102) rfl rfl rfl ?_
      refine q_getf (pc := 103) rfl (by exact HR.c H hl _ rfl) rfl rfl ?_
      rw [L1.1]
      refine q_goto (pc := 106) rfl ?_
      refine q_iret (pc := 113) rfl (rfl) ?_
      first
      | (rw [if_pos (by omega)] at kk
         exact kk _ _ H (q1.tr (f1.mono (fun i g => Or.inl g) (fun i g => by unfold oF at g; unfold vF; omega))) N)
      | (rw [if_neg (by omega)] at kk
         exact kk _ _ H (q1.tr (f1.mono (fun i g => Or.inl g) (fun i g => by unfold oF at g; unfold vF; omega))) N)
theorem m_soonest (hd : 20 ≤ d) (H : HR P h s) (hl : 75 ≤ P.1) (N : NW s β) (K : AOK P.2.1 β κ ik tp tz σ sz) (Mk : MK s P.2.1 κ ik tp tz C E σ sz cl) (kk : ∀ h' s', HR P h' s' → NW s' β → mf s s' → Q (some (.int (o_soonest C E β x y))) h') : wc d 190 [.ref 54, .int x, .int y] h Q := by
  have K4 := K.1.2.2.1
  have KK := K.1
  have K89 := K.2.1
  refine wc.go [_, _, _, _] rfl ?_
  refine q_aload_n (pc := 0) rfl rfl rfl ?_
  refine q_iload_n (pc := 1) rfl rfl ?_
  refine q_callV (pc := 2) _ rfl rfl rfl (by exact HR.c H hl _ rfl) rfl (Nat.le_of_ble_eq_true rfl) (by omega) _ rfl ?_
  refine m_isOne (by omega) H hl N K4 (fun p hp e => ?_) (fun g => ?_)
  · subst e
    have zp : Hd (rg (β 88) (nI p) = p) := rg_in hp (by omega)
    refine q_ifeq (pc := 5) rfl (fun z => absurd z (by decide)) (fun _ => ?_)
    refine q_iload_n (pc := 8) rfl rfl ?_
    refine q_iconst (pc := 9) rfl (nI 0) (by decide) ?_
    refine q_iconst (pc := 10) rfl (nI 1) (by decide) ?_
    refine q_callS (pc := 11) _ (by decide) rfl rfl rfl rfl (Nat.le_of_ble_eq_true rfl) (by omega) _ rfl ?_
    refine m_in0 (by decide) (fun w hw e => ?_) (fun g => ?_)
    · subst e
      have z1 : Hd (rg 2 (nI w) = w) := rg_in (by omega) (by decide)
      refine q_ifne (pc := 14) rfl (fun _ => ?_) (fun z => absurd z (by decide))
      refine q_aload_n (pc := 20) rfl rfl rfl ?_
      refine q_callV (pc := 21) _ rfl rfl rfl (by exact HR.c H hl _ rfl) rfl (Nat.le_of_ble_eq_true rfl) (by omega) _ rfl ?_
      refine m_isMany (by omega) hl KK.1 H N (fun h7 h s1 H N f1 hW => ?_) (fun h7 h s1 H N f1 => ?_)
      · refine q_ifeq (pc := 24) rfl (fun _ => ?_) (fun z => absurd (by decide) z)
        refine q_aload_n (pc := 30) rfl rfl rfl ?_
        refine q_iload_n (pc := 31) rfl rfl ?_
        refine q_callV (pc := 32) _ rfl rfl rfl (by exact HR.c H hl _ rfl) rfl (Nat.le_of_ble_eq_true rfl) (by omega) _ rfl ?_
        refine m_take H hl N (by omega) ?_
        intro h s2 H f2 f2a tk
        have N := N.tf f2
        refine q_iconst (pc := 35) rfl (nI 0) (by decide) ?_
        refine q_istore_n (pc := 36) [_, _, _, _] rfl (Nat.le_of_ble_eq_true rfl) rfl ?_
        have q1 : gf vS vF s s2 := (f1.mono (fun i g => by unfold iS at g; unfold vS; omega) (fun i g => by unfold iF at g; unfold vF; omega)).tr ((tf_gf f2).mono (fun i g => by unfold tS at g; unfold vS; omega) (fun i g => Or.inl g))
        have hW2 : WM s2 (wrC β) (wrI β) := hW.fr (tf_gf f2) (by unfold tF; omega) (by unfold tS; omega)
        refine m_soonL (by omega) hl KK (by omega) h7 (Mk.2.2.2.2.1.fr (gf_vm q1)) (fun h s3 H f3 N hW hv => ?_) (wrC β) 0 (by omega) h s2 H N gf.rf tk hW2 (fun j hj => absurd hj (Nat.not_lt_zero _))
        refine m_soonB (by omega) hl KK (by omega) (by omega) h7 H N hW hv (fun h s4 H f4 N => ?_)
        have e1 : o_soonest C E β (nI p) (nI w) = (if w = 0 then nI ((nrs (swN β p) (wrC β)).2 + smN (stN C E β p) (wrC β)) else ocI β (nrs (swN β p) (wrC β)).1) := by
          unfold o_soonest
          rw [zp.out, z1.out, if_pos (show p < β 88 ∧ w < 2 from ⟨hp, by omega⟩), if_neg (by omega)]
        rw [← e1]
        exact kk _ _ H N (gf_vm ((q1.tr f3).tr f4))
      · refine q_ifeq (pc := 24) rfl (fun z => absurd z (by decide)) (fun _ => ?_)
        refine q_bipush (pc := 27) rfl (-3) (by decide) ?_
        refine q_iret (pc := 29) rfl (rfl) ?_
        refine eqQ (v' := o_soonest C E β (nI p) (nI w)) ?_ (kk _ _ H N (gf.mf f1 (fun i g => by unfold iS at g; unfold mS; omega) (by unfold iF; omega)))
        unfold o_soonest
        rw [zp.out, z1.out, if_pos (show p < β 88 ∧ w < 2 from ⟨hp, by omega⟩), if_pos h7]
    · have z1 : Hd (rg 2 y = 2) := rg_out g
      refine q_ifne (pc := 14) rfl (fun z => absurd z (by decide)) (fun _ => ?_)
      refine q_bipush (pc := 17) rfl (-2) (by decide) ?_
      refine q_iret (pc := 19) rfl (rfl) ?_
      first
      | (refine eqQ (v' := o_soonest C E β (nI p) y) ?_ (kk _ _ H N mf.rf)
         unfold o_soonest
         rw [zp.out, z1.out, if_neg (fun e => absurd e.2 (Nat.lt_irrefl _))])
      | (refine eqQ (v' := o_soonest C E β x y) ?_ (kk _ _ H N mf.rf)
         unfold o_soonest
         rw [zp.out, if_neg (fun e => absurd e.1 (Nat.lt_irrefl _))])
  · have zp : Hd (rg (β 88) x = β 88) := rg_out g
    refine q_ifeq (pc := 5) rfl (fun _ => ?_) (fun z => absurd (by decide) z)
    refine q_bipush (pc := 17) rfl (-2) (by decide) ?_
    refine q_iret (pc := 19) rfl (rfl) ?_
    first
    | (refine eqQ (v' := o_soonest C E β (nI p) y) ?_ (kk _ _ H N mf.rf)
       unfold o_soonest
       rw [zp.out, z1.out, if_neg (fun e => absurd e.2 (Nat.lt_irrefl _))])
    | (refine eqQ (v' := o_soonest C E β x y) ?_ (kk _ _ H N mf.rf)
       unfold o_soonest
       rw [zp.out, if_neg (fun e => absurd e.1 (Nat.lt_irrefl _))])
end P60
