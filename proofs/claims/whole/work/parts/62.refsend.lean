/-! ===== the reference: all are sent, the calls ===== -/
section P62
variable {d k pc a i j c p b t n m part q : Nat} {v : Int} {L L' : mx_L} {st r : List Value} {P : mx_Pm} {h : mx_H} {s : mx_St} {Q : Option Value → mx_H → Prop} {x y w z u : Int32} {β κ : Nat → Nat} {C : Nat → Nat → Int32} {E : Nat → Nat → Nat} {ik tz : Nat} {tp : Nat → Nat} {σ : Nat → Int32} {sz : Nat → Nat} {cl : Nat → Nat → Int32}
def dS (i : Nat) : Prop := i = 54 ∨ i = 68 ∨ i = 69
def dF (j : Nat) : Prop := j = 27
def LT2 (s : mx_St) (N : Nat) (X : Nat × (Nat → Int32)) : Prop := s 54 27 = nI X.1 ∧ ∀ q, q < N → s 69 q = X.2 q
def SK (s : mx_St) (β : Nat → Nat) (m N : Nat) (g : Nat → Nat) (Kc : Nat → Nat → Nat) : Prop := NW s β ∧ β 88 = N ∧ s 54 26 = nI m ∧ (∀ i, i < m → s 66 i = nI (g i)) ∧ ∀ q, q < N → ∀ i, i < m → s 67 (7 * q + i) = nI (Kc q i)
theorem SK.N {s : mx_St} {m N : Nat} {g : Nat → Nat} {Kc : Nat → Nat → Nat} (a : SK s β m N g Kc) : NW s β := a.1
theorem SK.e88 {s : mx_St} {m N : Nat} {g : Nat → Nat} {Kc : Nat → Nat → Nat} (a : SK s β m N g Kc) : β 88 = N := a.2.1
theorem SK.wn {s : mx_St} {m N : Nat} {g : Nat → Nat} {Kc : Nat → Nat → Nat} (a : SK s β m N g Kc) : s 54 26 = nI m := a.2.2.1
theorem SK.th {s : mx_St} {m N : Nat} {g : Nat → Nat} {Kc : Nat → Nat → Nat} (a : SK s β m N g Kc) : ∀ i, i < m → s 66 i = nI (g i) := a.2.2.2.1
theorem SK.ov {s : mx_St} {m N : Nat} {g : Nat → Nat} {Kc : Nat → Nat → Nat} (a : SK s β m N g Kc) : ∀ q, q < N → ∀ i, i < m → s 67 (7 * q + i) = nI (Kc q i) := a.2.2.2.2
theorem SK.fr {s s' : mx_St} {m N : Nat} {g : Nat → Nat} {Kc : Nat → Nat → Nat} (a : SK s β m N g Kc) (f : gf dS dF s s') : SK s' β m N g Kc := ⟨a.N.fr f.1 (by unfold dS; decide), a.e88, (f.2 26 (by unfold dF; decide)).trans a.wn, fun i hi => (congrFun (f.1 66 (by unfold dS; decide)) _).trans (a.th i hi), fun q hq i hi => (congrFun (f.1 67 (by unfold dS; decide)) _).trans (a.ov q hq i hi)⟩
def SC (P : mx_Pm) (β : Nat → Nat) (m N z : Nat) (g : Nat → Nat) (Kc : Nat → Nat → Nat) (n : Nat) : Prop := ∀ (o t k oo : Nat) (S : Nat → Int32) (X : Nat × (Nat → Int32)) (d : Nat) (h : mx_H) (s : mx_St) (Q : Option Value → mx_H → Prop), o + n = N → t < 2 ^ m → k + cntf t.testBit m = z → oo + 200 * n ≤ 2000 → X.1 < 2 ^ 31 → n + 3 ≤ d → HR P h s → SK s β m N g Kc → (∀ q, q < o → s 68 q = S q) → LT2 s N X → (∀ h' s', HR P h' s' → gf dS dF s s' → (∀ q, q < o → s' 68 q = S q) → LT2 s' N (resN Kc m z g n o t oo S X) → Q none h') → wc d 191 [.ref 54, .int (nI o), .int (nI (2 ^ m - 1 - t)), .int (nI k), .int (nI oo)] h Q
theorem resN_le {Kc : Nat → Nat → Nat} {m z n o t oo : Nat} {g : Nat → Nat} {S : Nat → Int32} {X : Nat × (Nat → Int32)} : (resN Kc m z g n o t oo S X).1 ≤ X.1 := by
  unfold resN upG
  split
  · split
    · rename_i e
      exact Nat.le_of_lt e
    · exact Nat.le_refl _
  · exact Nat.le_refl _
theorem m_sendC {N oo : Nat} {z2 z3 : Option Value} (hl : 75 ≤ P.1) (hN : N ≤ 4) {S : Nat → Int32} {s0 : mx_St} (hS : ∀ q, q < N → s0 68 q = S q) (kk : ∀ h' s', HR P h' s' → gf dS dF s0 s' → (∀ q, q < N → s' 68 q = S q) → (∀ q, q < N → s' 69 q = S q) → s' 54 27 = s0 54 27 → Q none h') (k0 i : Nat) (hi : i + k0 = N) (h : mx_H) (s : mx_St) (H : HR P h s) (f : sf s0 s (fun i => i = 69)) (c1 : ∀ q, q < i → s 69 q = S q) : wq d 191 30 [some (.ref 54), some (.int (nI N)), z2, z3, some (.int (nI oo)), some (.int (nI i))] [] h Q := by
  have e68 : ∀ q, q < N → s 68 q = S q := fun q hq => (congrFun (f 68 (by decide)) _).trans (hS q hq)
  match k0, hi with
  | 0, hi =>
    obtain rfl : i = N := by omega
    refine q_iload (pc := 30) rfl rfl ?_
    refine q_iload_n (pc := 32) rfl rfl ?_
    first | refine n_icmpge (pc := 33) rfl (by omega) (by omega) (fun h33 => ?_) (fun h33 => ?_) | refine q_icmpge (pc := 33) rfl (fun h33 => ?_) (fun h33 => ?_)
    · refine q_vret (pc := 56) rfl rfl ?_
      exact kk _ _ H (gf.of f (fun i g => by unfold dS; omega) (by decide)) e68 c1 (congrFun (f 54 (by decide)) _)
    · first | (exfalso; omega) | exact absurd h33 (nI_pos (by omega)) | exact absurd (nI_pos' (by omega)) h33
  | k0 + 1, hi =>
    refine q_iload (pc := 30) rfl rfl ?_
    refine q_iload_n (pc := 32) rfl rfl ?_
    first | refine n_icmpge (pc := 33) rfl (by omega) (by omega) (fun h33 => ?_) (fun h33 => ?_) | refine q_icmpge (pc := 33) rfl (fun h33 => ?_) (fun h33 => ?_)
    · first | (exfalso; omega) | exact absurd h33 (nI_pos (by omega)) | exact absurd (nI_pos' (by omega)) h33
    · refine q_aload_n (pc := 36) rfl rfl rfl ?_
      refine q_getf (pc := 37) rfl (by exact HR.c H hl _ rfl) rfl rfl ?_
      refine q_iload (pc := 40) rfl rfl ?_
      refine q_aload_n (pc := 42) rfl rfl rfl ?_
      refine q_getf (pc := 43) rfl (by exact HR.c H hl _ rfl) rfl rfl ?_
      refine q_iload (pc := 46) rfl rfl ?_
      refine n_ild (pc := 48) rfl (by first | exact HR.la H hl rfl rfl N | exact HR.la0 H hl rfl rfl) rfl (by omega) (by omega) ?_
      rw [e68 i (by omega)]
      refine r_ist2 (pc := 49) rfl H hl rfl (fun _ => rfl) rfl (by omega) (by omega) ?_
      intro h H
      first | refine n_iinc (pc := 50) rfl [_, _, _, _, _, _] 1 (by decide) rfl rfl ?_ | refine q_iinc (pc := 50) [_, _, _, _, _, _] (1) rfl rfl (by decide) rfl ?_
      refine q_goto (pc := 53) rfl ?_
      refine m_sendC hl hN hS kk k0 (i + 1) (by omega) h _ H (f.st (by rfl)) (fun q hq => ?_)
      by_cases e : q = i
      · subst e
        exact stv_a
      · rw [stv_o e]
        exact c1 q (by omega)
termination_by k0
theorem m_sendE {t k oo N m z o : Nat} {S : Nat → Int32} {n : Nat} {g : Nat → Nat} {Kc : Nat → Nat → Nat} (hl : 75 ≤ P.1) (ho : o + (n + 1) = N) (hN : N ≤ 4) (ih : SC P β m N z g Kc n) (ht : t < 2 ^ m) (hk : k + cntf t.testBit m = z) (hoo : oo + 200 * (n + 1) ≤ 2000) (hd : n + 4 ≤ d) {X : Nat × (Nat → Int32)} (hX : X.1 < 2 ^ 31) (H : HR P h s) (K : SK s β m N g Kc) (hS : ∀ q, q < o → s 68 q = S q) (hL : LT2 s N X) (kk : ∀ h' s', HR P h' s' → gf dS dF s s' → (∀ q, q < o → s' 68 q = S q) → LT2 s' N (resN Kc m z g n (o + 1) t oo (ups S o (-1)) X) → Q none h') (z5 : Option Value) : wq d 191 133 [some (.ref 54), some (.int (nI o)), some (.int (nI (2 ^ m - 1 - t))), some (.int (nI k)), some (.int (nI oo)), z5] [] h Q := by
  refine q_aload_n (pc := 133) rfl rfl rfl ?_
  refine q_getf (pc := 134) rfl (by exact HR.c H hl _ rfl) rfl rfl ?_
  refine q_iload_n (pc := 137) rfl rfl ?_
  refine q_iconst (pc := 138) rfl (-1) (by decide) ?_
  refine r_ist2 (pc := 139) rfl H hl rfl (fun _ => rfl) rfl (by omega) (by omega) ?_
  intro h H
  have g1 : gf dS dF s (stv s 68 o (-1)) := gf.wr (Or.inr (Or.inl rfl)) (by decide)
  have K := K.fr g1
  have hS2 : ∀ q, q < o + 1 → (stv s 68 o (-1)) 68 q = ups S o (-1) q := fun q hq => by
    unfold ups
    by_cases e : q = o
    · rw [if_pos e, e, stv_a]
    · rw [if_neg e, stv_o e]
      exact hS q (by omega)
  have hL : LT2 (stv s 68 o (-1)) N X := ⟨(congrFun (stv_n (by decide)) _).trans hL.1, fun q hq => (congrFun (stv_n (by decide)) _).trans (hL.2 q hq)⟩
  refine q_aload_n (pc := 140) rfl rfl rfl ?_
  refine q_iload_n (pc := 141) rfl rfl ?_
  refine q_iconst (pc := 142) rfl (nI 1) (by decide) ?_
  first | refine n_iadd (pc := 143) rfl ?_ | refine q_iadd (pc := 143) rfl ?_
  refine q_iload_n (pc := 144) rfl rfl ?_
  refine q_iload_n (pc := 145) rfl rfl ?_
  refine q_iload (pc := 146) rfl rfl ?_
  refine q_callV (pc := 148) _ rfl rfl rfl (by exact HR.c H hl _ rfl) rfl (Nat.le_of_ble_eq_true rfl) (by omega) _ rfl ?_
  refine ih (o + 1) t k oo (ups S o (-1)) X _ _ _ _ (by omega) ht hk (by omega) hX (by omega) H K hS2 hL (fun h s1 H f2 hS hL => ?_)
  refine q_vret (pc := 151) rfl rfl ?_
  exact kk _ _ H (g1.tr f2) (fun q hq => by
    rw [hS q (by omega)]
    exact if_neg (by omega)) hL
theorem m_sendL {t k oo N m z o : Nat} {S : Nat → Int32} {n : Nat} {g : Nat → Nat} {Kc : Nat → Nat → Nat} (hl : 75 ≤ P.1) (hm : m < 8) (hg : ∀ i, i < m → g i < 36) (ho : o + (n + 1) = N) (hN : N ≤ 4) (hK : ∀ q i, q < N → i < m → Kc q i ≤ 109) (ih : SC P β m N z g Kc n) (ht : t < 2 ^ m) (hk : k + cntf t.testBit m = z) (h0k : 0 < k) (hz : z ≤ 7) (hoo : oo + 200 * (n + 1) ≤ 2000) (hd : n + 4 ≤ d) {L : Nat × (Nat → Int32)} (hL0 : L.1 < 2 ^ 31) {s0 : mx_St} (kk : ∀ h' s', HR P h' s' → gf dS dF s0 s' → (∀ q, q < o → s' 68 q = S q) → LT2 s' N (resN Kc m z g (n + 1) o t oo S L) → Q none h') (k0 i : Nat) (hi : i + k0 = m) (X : Nat × (Nat → Int32)) (hX : X.1 ≤ L.1) (hP : LPs (fun i => nbt t i = true ∧ sdN Kc m z n (o + 1) (t ||| 2 ^ i) < 1000000) (fun i => Kc o i + sdN Kc m z n (o + 1) (t ||| 2 ^ i)) (fun i => gfN Kc m z g n (o + 1) (t ||| 2 ^ i) (ups S o (nI (g i)))) oo L i X) (h : mx_H) (s : mx_St) (H : HR P h s) (f : gf dS dF s0 s) (K : SK s β m N g Kc) (hS : ∀ q, q < o → s 68 q = S q) (hL : LT2 s N X) : wq d 191 60 [some (.ref 54), some (.int (nI o)), some (.int (nI (2 ^ m - 1 - t))), some (.int (nI k)), some (.int (nI oo)), some (.int (nI i))] [] h Q := by
  have p7 := pw7 (m := m) (by omega)
  have hw1 := K.wn
  match k0, hi with
  | 0, hi =>
    obtain rfl : i = m := by omega
    have eR := res_s hm ho hN hK hP
    refine q_iload (pc := 60) rfl rfl ?_
    refine q_aload_n (pc := 62) rfl rfl rfl ?_
    refine q_getf (pc := 63) rfl (by exact HR.c H hl _ rfl) rfl rfl ?_
    rw [hw1]
    first | refine n_icmpge (pc := 66) rfl (by omega) (by omega) (fun h66 => ?_) (fun h66 => ?_) | refine q_icmpge (pc := 66) rfl (fun h66 => ?_) (fun h66 => ?_)
    · exact m_sendE hl ho hN ih ht hk hoo hd (by omega) H K hS hL (fun h' s' H' f' hS' hL' => kk _ _ H' (f.tr f') hS' (by rw [← eR]; exact hL')) _
    · first | (exfalso; omega) | exact absurd h66 (nI_pos (by omega)) | exact absurd (nI_pos' (by omega)) h66
  | k0 + 1, hi =>
    have hgi := hg i (by omega)
    obtain ⟨b1, b2⟩ := lfb m hm t ht i (by omega)
    have sb := shb1 (2 ^ m - 1 - t) (by omega) i (by omega)
    have hkc := hK o i (by omega) (by omega)
    refine q_iload (pc := 60) rfl rfl ?_
    refine q_aload_n (pc := 62) rfl rfl rfl ?_
    refine q_getf (pc := 63) rfl (by exact HR.c H hl _ rfl) rfl rfl ?_
    rw [hw1]
    first | refine n_icmpge (pc := 66) rfl (by omega) (by omega) (fun h66 => ?_) (fun h66 => ?_) | refine q_icmpge (pc := 66) rfl (fun h66 => ?_) (fun h66 => ?_)
    · first | (exfalso; omega) | exact absurd h66 (nI_pos (by omega)) | exact absurd (nI_pos' (by omega)) h66
    · refine q_iload_n (pc := 69) rfl rfl ?_
      first | refine n_ifle (pc := 70) rfl (by omega) (fun h70 => ?_) (fun h70 => ?_) | refine q_ifle (pc := 70) rfl (fun h70 => ?_) (fun h70 => ?_)
      · first | (exfalso; omega) | exact absurd h70 (nI_pos (by omega)) | exact absurd (nI_pos' (by omega)) h70
      · refine q_iload_n (pc := 73) rfl rfl ?_
        refine q_iload (pc := 74) rfl rfl ?_
        refine q_ishr (pc := 76) rfl ?_
        refine q_iconst (pc := 77) rfl (nI 1) (by decide) ?_
        refine q_iand (pc := 78) rfl ?_
        refine q_iconst (pc := 79) rfl (nI 1) (by decide) ?_
        refine q_icmpne (pc := 80) rfl (fun h80 => ?_) (fun h80 => ?_)
        · have hw1 : t.testBit i = true := by
            cases e : t.testBit i
            · rw [e] at b1
              exact absurd (sb.mpr b1) h80
            · rfl
          first
          | (exfalso; omega (config := {splitDisjunctions := false}))
          | exact absurd rfl h80
          | skip
            first | refine n_iinc (pc := 127) rfl [_, _, _, _, _, _] 1 (by decide) rfl rfl ?_ | refine q_iinc (pc := 127) [_, _, _, _, _, _] (1) rfl rfl (by decide) rfl ?_
            refine q_goto (pc := 130) rfl ?_
            first
            | (have hn : nbt t i = true := by
                 unfold nbt
                 rw [hw0]
                 rfl
               have eq1 : ∀ q, q < o → s1 68 q = S q := fun q hq => by
                 rw [hS3 q (by omega)]
                 exact if_neg (by omega)
               have hXX : (resN Kc m z g n (o + 1) (t ||| 2 ^ i) (oo + Kc o i) (ups S o (nI (g i))) X).1 ≤ X.1 := resN_le
               refine m_sendL hl hm hg ho hN hK ih ht hk h0k hz hoo hd hL0 kk k0 (i + 1) (by omega) _ (Nat.le_trans hXX hX) ?_ h s1 H ((f.tr g1).tr f2) K eq1 hL
               unfold resN
               by_cases q : sdN Kc m z n (o + 1) (t ||| 2 ^ i) < 1000000
               · rw [if_pos q, Nat.add_assoc]
                 exact LPs_up hP ⟨hn, q⟩
               · rw [if_neg q]
                 exact LPs_no hP (fun z => q z.2))
            | (refine m_sendL hl hm hg ho hN hK ih ht hk h0k hz hoo hd hL0 kk k0 (i + 1) (by omega) X hX (LPs_no hP (fun z => ?_)) h s H f K hS hL
               have z1 := nb_f z.1
               rw [hw1] at z1
               exact absurd z1 (by decide))
        · have hw0 : t.testBit i = false := by
            have := sb.mp h80
            rw [b1] at this
            cases e : t.testBit i
            · rfl
            · rw [e] at this
              exact absurd this (by decide)
          obtain ⟨b3, b4⟩ := b2 hw0
          have o1 := st_or m hm t ht i (by omega) hw0
          first
          | (exfalso; omega (config := {splitDisjunctions := false}))
          | exact absurd rfl h80
          | skip
            refine q_aload_n (pc := 83) rfl rfl rfl ?_
            refine q_getf (pc := 84) rfl (by exact HR.c H hl _ rfl) rfl rfl ?_
            refine q_iload_n (pc := 87) rfl rfl ?_
            refine q_aload_n (pc := 88) rfl rfl rfl ?_
            refine q_getf (pc := 89) rfl (by exact HR.c H hl _ rfl) rfl rfl ?_
            refine q_iload (pc := 92) rfl rfl ?_
            refine n_ild (pc := 94) rfl (by first | exact HR.la H hl rfl rfl N | exact HR.la0 H hl rfl rfl) rfl (by omega) (by omega) ?_
            rw [K.th i (by omega)]
            refine r_ist2 (pc := 95) rfl H hl rfl (fun _ => rfl) rfl (by omega) (by omega) ?_
            intro h H
            have g1 : gf dS dF s (stv s 68 o (nI (g i))) := gf.wr (Or.inr (Or.inl rfl)) (by decide)
            have K := K.fr g1
            have hS2 : ∀ q, q < o + 1 → (stv s 68 o (nI (g i))) 68 q = ups S o (nI (g i)) q := fun q hq => by
              unfold ups
              by_cases e : q = o
              · rw [if_pos e, e, stv_a]
              · rw [if_neg e, stv_o e]
                exact hS q (by omega)
            have hL : LT2 (stv s 68 o (nI (g i))) N X := ⟨(congrFun (stv_n (by decide)) _).trans hL.1, fun q hq => (congrFun (stv_n (by decide)) _).trans (hL.2 q hq)⟩
            refine q_aload_n (pc := 96) rfl rfl rfl ?_
            refine q_iload_n (pc := 97) rfl rfl ?_
            refine q_iconst (pc := 98) rfl (nI 1) (by decide) ?_
            first | refine n_iadd (pc := 99) rfl ?_ | refine q_iadd (pc := 99) rfl ?_
            refine q_iload_n (pc := 100) rfl rfl ?_
            refine q_iconst (pc := 101) rfl (nI 1) (by decide) ?_
            refine q_iload (pc := 102) rfl rfl ?_
            refine n_ishl1 (pc := 104) rfl (by omega) ?_
            first | refine n_isub (pc := 105) rfl (by omega) ?_ | refine q_isub (pc := 105) rfl ?_
            rw [b3]
            refine q_iload_n (pc := 106) rfl rfl ?_
            refine q_iconst (pc := 107) rfl (nI 1) (by decide) ?_
            first | refine n_isub (pc := 108) rfl (by omega) ?_ | refine q_isub (pc := 108) rfl ?_
            refine q_iload (pc := 109) rfl rfl ?_
            refine q_aload_n (pc := 111) rfl rfl rfl ?_
            refine q_getf (pc := 112) rfl (by exact HR.c H hl _ rfl) rfl rfl ?_
            refine q_bipush (pc := 115) rfl (nI 7) (by decide) ?_
            refine q_iload_n (pc := 117) rfl rfl ?_
            first | refine n_imul (pc := 118) rfl ?_ | refine q_imul (pc := 118) rfl ?_
            refine q_iload (pc := 119) rfl rfl ?_
            first | refine n_iadd (pc := 121) rfl ?_ | refine q_iadd (pc := 121) rfl ?_
            refine n_ild (pc := 122) rfl (by first | exact HR.la H hl rfl rfl N | exact HR.la0 H hl rfl rfl) rfl (by omega) (by omega) ?_
            rw [K.ov o (by omega) i (by omega)]
            first | refine n_iadd (pc := 123) rfl ?_ | refine q_iadd (pc := 123) rfl ?_
            refine q_callV (pc := 124) _ rfl rfl rfl (by exact HR.c H hl _ rfl) rfl (Nat.le_of_ble_eq_true rfl) (by omega) _ rfl ?_
            refine ih (o + 1) (t ||| 2 ^ i) (k - 1) (oo + Kc o i) (ups S o (nI (g i))) X _ _ _ _ (by omega) o1.1 (by omega) (by omega) (by omega) (by omega) H K hS2 hL (fun h s1 H f2 hS3 hL => ?_)
            have K := K.fr f2
            first | refine n_iinc (pc := 127) rfl [_, _, _, _, _, _] 1 (by decide) rfl rfl ?_ | refine q_iinc (pc := 127) [_, _, _, _, _, _] (1) rfl rfl (by decide) rfl ?_
            refine q_goto (pc := 130) rfl ?_
            first
            | (have hn : nbt t i = true := by
                 unfold nbt
                 rw [hw0]
                 rfl
               have eq1 : ∀ q, q < o → s1 68 q = S q := fun q hq => by
                 rw [hS3 q (by omega)]
                 exact if_neg (by omega)
               have hXX : (resN Kc m z g n (o + 1) (t ||| 2 ^ i) (oo + Kc o i) (ups S o (nI (g i))) X).1 ≤ X.1 := resN_le
               refine m_sendL hl hm hg ho hN hK ih ht hk h0k hz hoo hd hL0 kk k0 (i + 1) (by omega) _ (Nat.le_trans hXX hX) ?_ h s1 H ((f.tr g1).tr f2) K eq1 hL
               unfold resN
               by_cases q : sdN Kc m z n (o + 1) (t ||| 2 ^ i) < 1000000
               · rw [if_pos q, Nat.add_assoc]
                 exact LPs_up hP ⟨hn, q⟩
               · rw [if_neg q]
                 exact LPs_no hP (fun z => q z.2))
            | (refine m_sendL hl hm hg ho hN hK ih ht hk h0k hz hoo hd hL0 kk k0 (i + 1) (by omega) X hX (LPs_no hP (fun z => ?_)) h s H f K hS hL
               have z1 := nb_f z.1
               rw [hw1] at z1
               exact absurd z1 (by decide))
termination_by k0
theorem m_send {m z N : Nat} {g : Nat → Nat} {Kc : Nat → Nat → Nat} (hl : 75 ≤ P.1) (hm : m < 8) (hg : ∀ i, i < m → g i < 36) (hN : N ≤ 4) (hK : ∀ q i, q < N → i < m → Kc q i ≤ 109) (hz : z ≤ 7) : ∀ n, SC P β m N z g Kc n := by
  intro n
  induction n with
  | zero =>
    intro o t k oo S X d h s Q ho ht hk hoo hX hd H K hS hL kk
    obtain rfl : o = N := by omega
    have K88 := K.e88
    have eR : resN Kc m z g 0 o t oo S X = if k = 0 then upG X oo (gfN Kc m z g 0 o t S) else X := by
      unfold resN sdN
      rw [cn7 m hm t ht]
      by_cases e : k = 0
      · rw [if_pos (show cntf t.testBit m = z by omega), if_pos e, if_pos (by decide)]
        rfl
      · rw [if_neg (show ¬ cntf t.testBit m = z by omega), if_neg e, if_neg (by decide)]
    rw [eR] at kk
    refine wc.go [_, _, _, _, _, _] rfl ?_
    refine q_iload_n (pc := 0) rfl rfl ?_
    refine q_aload_n (pc := 1) rfl rfl rfl ?_
    refine q_callV (pc := 2) _ rfl rfl rfl (by exact HR.c H hl _ rfl) rfl (Nat.le_of_ble_eq_true rfl) (by omega) _ rfl ?_
    refine m_many H hl K.N ?_
    rw [K88]
    first | refine n_icmpne (pc := 5) rfl (by omega) (by omega) (fun h5 => ?_) (fun h5 => ?_) | refine q_icmpne (pc := 5) rfl (fun h5 => ?_) (fun h5 => ?_)
    · first | (exfalso; omega) | exact absurd h5 (nI_pos (by omega)) | exact absurd (nI_pos' (by omega)) h5
    · refine q_iload_n (pc := 8) rfl rfl ?_
      first | refine n_ifne (pc := 9) rfl (by omega) (fun h9 => ?_) (fun h9 => ?_) | refine q_ifne (pc := 9) rfl (fun h9 => ?_) (fun h9 => ?_)
      · have q9 : ¬ k = 0 := by omega
        first
        | (exfalso; omega (config := {splitDisjunctions := false}))
        | exact absurd rfl h9
        | skip
          refine q_vret (pc := 56) rfl rfl ?_
          first
          | (exact kk _ _ H gf.rf hS (by rw [if_neg q9]; exact hL))
          | (exact kk _ _ H gf.rf hS (by rw [if_pos q9f, upG, if_neg q18]; exact hL))
      · have q9f : k = 0 := by omega
        first
        | (exfalso; omega (config := {splitDisjunctions := false}))
        | exact absurd rfl h9
        | skip
          refine q_iload (pc := 12) rfl rfl ?_
          refine q_aload_n (pc := 14) rfl rfl rfl ?_
          refine q_getf (pc := 15) rfl (by exact HR.c H hl _ rfl) rfl rfl ?_
          rw [hL.1]
          first | refine n_icmpge (pc := 18) rfl (by omega) (by omega) (fun h18 => ?_) (fun h18 => ?_) | refine q_icmpge (pc := 18) rfl (fun h18 => ?_) (fun h18 => ?_)
          · have q18 : ¬ oo < X.1 := by omega
            first
            | (exfalso; omega (config := {splitDisjunctions := false}))
            | skip
              refine q_vret (pc := 56) rfl rfl ?_
              first
              | (exact kk _ _ H gf.rf hS (by rw [if_neg q9]; exact hL))
              | (exact kk _ _ H gf.rf hS (by rw [if_pos q9f, upG, if_neg q18]; exact hL))
          · have q18f : oo < X.1 := by omega
            first
            | (exfalso; omega (config := {splitDisjunctions := false}))
            | skip
              refine q_aload_n (pc := 21) rfl rfl rfl ?_
              refine q_iload (pc := 22) rfl rfl ?_
              refine r_pf2 (pc := 24) (i := 27) rfl H hl rfl rfl rfl rfl (Nat.le_of_ble_eq_true rfl) rfl rfl ?_
              intro h H
              refine q_iconst (pc := 27) rfl (nI 0) (by decide) ?_
              refine q_istore (pc := 28) [_, _, _, _, _, _] rfl (Nat.le_of_ble_eq_true rfl) rfl ?_
              have g1 : gf dS dF s (stv s 54 27 (nI oo)) := gf.fd (S := dS) (F := dF) (Or.inl rfl) rfl
              rw [if_pos q9f] at kk
              refine m_sendC hl hN (S := S) (fun q hq => (congrFun (stv_n (by decide)) _).trans (hS q hq)) (fun h' s' H' f' e1 e2 e3 => kk _ _ H' (g1.tr f') e1 ?_) o 0 (by omega) h _ H sf.rf (fun q hq => absurd hq (Nat.not_lt_zero _))
              unfold upG
              rw [if_pos q18f]
              exact ⟨e3.trans stv_a, fun q hq => by rw [e2 q hq]; exact (if_pos hq).symm⟩
  | succ n ih =>
    intro o t k oo S X d h s Q ho ht hk hoo hX hd H K hS hL kk
    have K88 := K.e88
    rcases Nat.eq_zero_or_pos k with hk0 | hk0
    · have hP : LPs (fun i => nbt t i = true ∧ sdN Kc m z n (o + 1) (t ||| 2 ^ i) < 1000000) (fun i => Kc o i + sdN Kc m z n (o + 1) (t ||| 2 ^ i)) (fun i => gfN Kc m z g n (o + 1) (t ||| 2 ^ i) (ups S o (nI (g i)))) oo X m X := Or.inl ⟨rfl, fun j hj e => by
        have o1 := st_or m hm t ht j hj (nb_f e.1)
        have := sdN_inf (Kc := Kc) (z := z) hm n (o + 1) (t ||| 2 ^ j) o1.1 (by omega)
        have e2 := e.2
        omega⟩
      have eR := res_s hm ho hN hK hP
      refine wc.go [_, _, _, _, _, _] rfl ?_
      refine q_iload_n (pc := 0) rfl rfl ?_
      refine q_aload_n (pc := 1) rfl rfl rfl ?_
      refine q_callV (pc := 2) _ rfl rfl rfl (by exact HR.c H hl _ rfl) rfl (Nat.le_of_ble_eq_true rfl) (by omega) _ rfl ?_
      refine m_many H hl K.N ?_
      rw [K88]
      first | refine n_icmpne (pc := 5) rfl (by omega) (by omega) (fun h5 => ?_) (fun h5 => ?_) | refine q_icmpne (pc := 5) rfl (fun h5 => ?_) (fun h5 => ?_)
      · refine q_iconst (pc := 57) rfl (nI 0) (by decide) ?_
        refine q_istore (pc := 58) [_, _, _, _, _, _] rfl (Nat.le_of_ble_eq_true rfl) rfl ?_
        refine q_iload (pc := 60) rfl rfl ?_
        refine q_aload_n (pc := 62) rfl rfl rfl ?_
        refine q_getf (pc := 63) rfl (by exact HR.c H hl _ rfl) rfl rfl ?_
        rw [K.wn]
        first | refine n_icmpge (pc := 66) rfl (by omega) (by omega) (fun h66 => ?_) (fun h66 => ?_) | refine q_icmpge (pc := 66) rfl (fun h66 => ?_) (fun h66 => ?_)
        · first
          | (exfalso; omega (config := {splitDisjunctions := false}))
          | skip
            exact m_sendE hl ho hN ih ht hk hoo (by omega) hX H K hS hL (fun h' s' H' f' hS' hL' => kk _ _ H' f' hS' (by rw [← eR]; exact hL')) _
        · first
          | (exfalso; omega (config := {splitDisjunctions := false}))
          | skip
            refine q_iload_n (pc := 69) rfl rfl ?_
            first | refine n_ifle (pc := 70) rfl (by omega) (fun h70 => ?_) (fun h70 => ?_) | refine q_ifle (pc := 70) rfl (fun h70 => ?_) (fun h70 => ?_)
            · exact m_sendE hl ho hN ih ht hk hoo (by omega) hX H K hS hL (fun h' s' H' f' hS' hL' => kk _ _ H' f' hS' (by rw [← eR]; exact hL')) _
            · first | (exfalso; omega) | exact absurd h70 (nI_pos (by omega)) | exact absurd (nI_pos' (by omega)) h70
      · first | (exfalso; omega) | exact absurd h5 (nI_pos (by omega)) | exact absurd (nI_pos' (by omega)) h5
    ·
      refine wc.go [_, _, _, _, _, _] rfl ?_
      refine q_iload_n (pc := 0) rfl rfl ?_
      refine q_aload_n (pc := 1) rfl rfl rfl ?_
      refine q_callV (pc := 2) _ rfl rfl rfl (by exact HR.c H hl _ rfl) rfl (Nat.le_of_ble_eq_true rfl) (by omega) _ rfl ?_
      refine m_many H hl K.N ?_
      rw [K88]
      first | refine n_icmpne (pc := 5) rfl (by omega) (by omega) (fun h5 => ?_) (fun h5 => ?_) | refine q_icmpne (pc := 5) rfl (fun h5 => ?_) (fun h5 => ?_)
      · refine q_iconst (pc := 57) rfl (nI 0) (by decide) ?_
        refine q_istore (pc := 58) [_, _, _, _, _, _] rfl (Nat.le_of_ble_eq_true rfl) rfl ?_
        exact m_sendL hl hm hg ho hN hK ih ht hk hk0 hz hoo (by omega) hX kk m 0 (by omega) X (Nat.le_refl _) (Or.inl ⟨rfl, fun j hj => absurd hj (Nat.not_lt_zero _)⟩) h s H gf.rf K hS hL
      · first | (exfalso; omega) | exact absurd h5 (nI_pos (by omega)) | exact absurd (nI_pos' (by omega)) h5
end P62
