/-! ===== the reference: together ===== -/
section P63
variable {d k pc a i j c p b t n m part q : Nat} {v : Int} {L L' : mx_L} {st r : List Value} {P : mx_Pm} {h : mx_H} {s : mx_St} {Q : Option Value → mx_H → Prop} {x y w z u : Int32} {β κ : Nat → Nat} {C : Nat → Nat → Int32} {E : Nat → Nat → Nat} {ik tz : Nat} {tp : Nat → Nat} {σ : Nat → Int32} {sz : Nat → Nat} {cl : Nat → Nat → Int32}
theorem sdN_ok {Kc : Nat → Nat → Nat} {m z N : Nat} (hm : m < 8) (hzm : z ≤ m) (hN : N ≤ 4) (hK : ∀ q i, q < N → i < m → Kc q i ≤ 109) : ∀ n o t, o + n = N → t < 2 ^ m → cntf t.testBit m ≤ z → z ≤ n + cntf t.testBit m → sdN Kc m z n o t < 1000000 := by
  intro n
  induction n with
  | zero =>
    intro o t _ ht h1 h2
    unfold sdN
    rw [cn7 m hm t ht, if_pos (by omega)]
    decide
  | succ n ih =>
    intro o t ho ht h1 h2
    rcases Nat.eq_or_lt_of_le h1 with e | e
    · have h3 := ih (o + 1) t (by omega) ht h1 (by omega)
      have h4 : sdN Kc m z (n + 1) o t ≤ sdN Kc m z n (o + 1) t := mnF_le _ _ _ _
      omega
    · have hex : ∃ i, i < m ∧ t.testBit i = false := by
        refine Classical.byContradiction (fun hne => ?_)
        have : ∀ k, k ≤ m → cntf t.testBit k = k := by
          intro k
          induction k with
          | zero => intro _; rfl
          | succ k ihk =>
            intro hk
            rw [show cntf t.testBit (k + 1) = cntf t.testBit k + (t.testBit k).toNat from rfl, ihk (by omega)]
            cases z : t.testBit k
            · exact absurd ⟨k, by omega, z⟩ hne
            · rfl
        have := this m (Nat.le_refl _)
        omega
      obtain ⟨i, hi, ei⟩ := hex
      have o1 := st_or m hm t ht i hi ei
      have h3 := ih (o + 1) (t ||| 2 ^ i) (by omega) o1.1 (by omega) (by omega)
      have h5 := sdN_fe hK n (o + 1) (t ||| 2 ^ i) (by omega) h3
      have h6 := hK o i (by omega) hi
      have h4 : sdN Kc m z (n + 1) o t ≤ Kc o i + sdN Kc m z n (o + 1) (t ||| 2 ^ i) := mn_some (c := fun i => Kc o i + sdN Kc m z n (o + 1) (t ||| 2 ^ i)) hi (by unfold nbt; rw [ei]; rfl)
      omega
def eS (i : Nat) : Prop := i = 54 ∨ i = 63 ∨ (66 ≤ i ∧ i ≤ 69)
def eF (i : Nat) : Prop := (18 ≤ i ∧ i ≤ 20) ∨ i = 26 ∨ i = 27
theorem gf_em {s s' : mx_St} (f : gf eS eF s s') : mf s s' := f.mf (fun i g => by unfold eS at g; unfold mS; omega) (by unfold eF; omega)
def OVp (C : Nat → Nat → Int32) (E : Nat → Nat → Nat) (β : Nat → Nat) (s : mx_St) (p i : Nat) : Prop := (∀ q, q < p → ∀ j, j < wrC β → s 67 (7 * q + j) = nI (kcs C E β q j)) ∧ ∀ j, j < i → s 67 (7 * p + j) = nI (kcs C E β p j)
theorem m_togI {n p : Nat} {x1 : Int32} (hd : 8 ≤ d) (hl : 75 ≤ P.1) (hk : bok β n) (hp : p < 4) (hm : wrC β ≤ 7) {s0 : mx_St} (T0 : MT s0 n C E) (kk : ∀ h' s', HR P h' s' → gf eS eF s0 s' → NW s' β → WM s' (wrC β) (wrI β) → OVp C E β s' p (wrC β) → wq d 192 76 [some (.ref 54), some (.int x1), some (.int (nI p)), some (.int (nI (wrC β)))] [] h' Q) (k0 i : Nat) (hi : i + k0 = wrC β) (h : mx_H) (s : mx_St) (H : HR P h s) (N : NW s β) (f : gf eS eF s0 s) (hW : WM s (wrC β) (wrI β)) (hv : OVp C E β s p i) : wq d 192 40 [some (.ref 54), some (.int x1), some (.int (nI p)), some (.int (nI i))] [] h Q := by
  have T : MT s n C E := T0.fr (gf_em f)
  match k0, hi with
  | 0, hi =>
    obtain rfl : i = wrC β := by omega
    refine q_iload_n (pc := 40) rfl rfl ?_
    refine q_aload_n (pc := 41) rfl rfl rfl ?_
    refine q_getf (pc := 42) rfl (by exact HR.c H hl _ rfl) rfl rfl ?_
    rw [hW.1]
    first | refine n_icmpge (pc := 45) rfl (by omega) (by omega) (fun h45 => ?_) (fun h45 => ?_) | refine q_icmpge (pc := 45) rfl (fun h45 => ?_) (fun h45 => ?_)
    · exact kk _ _ H f N hW hv
    · first | (exfalso; omega) | exact absurd h45 (nI_pos (by omega)) | exact absurd (nI_pos' (by omega)) h45
  | k0 + 1, hi =>
    have hgi := wrI_lt (β := β) i
    refine q_iload_n (pc := 40) rfl rfl ?_
    refine q_aload_n (pc := 41) rfl rfl rfl ?_
    refine q_getf (pc := 42) rfl (by exact HR.c H hl _ rfl) rfl rfl ?_
    rw [hW.1]
    first | refine n_icmpge (pc := 45) rfl (by omega) (by omega) (fun h45 => ?_) (fun h45 => ?_) | refine q_icmpge (pc := 45) rfl (fun h45 => ?_) (fun h45 => ?_)
    · first | (exfalso; omega) | exact absurd h45 (nI_pos (by omega)) | exact absurd (nI_pos' (by omega)) h45
    · refine q_aload_n (pc := 48) rfl rfl rfl ?_
      refine q_getf (pc := 49) rfl (by exact HR.c H hl _ rfl) rfl rfl ?_
      refine q_bipush (pc := 52) rfl (nI 7) (by decide) ?_
      refine q_iload_n (pc := 54) rfl rfl ?_
      first | refine n_imul (pc := 55) rfl ?_ | refine q_imul (pc := 55) rfl ?_
      refine q_iload_n (pc := 56) rfl rfl ?_
      first | refine n_iadd (pc := 57) rfl ?_ | refine q_iadd (pc := 57) rfl ?_
      refine q_aload_n (pc := 58) rfl rfl rfl ?_
      refine q_iload_n (pc := 59) rfl rfl ?_
      refine q_aload_n (pc := 60) rfl rfl rfl ?_
      refine q_getf (pc := 61) rfl (by exact HR.c H hl _ rfl) rfl rfl ?_
      refine q_iload_n (pc := 64) rfl rfl ?_
      refine n_ild (pc := 65) rfl (by first | exact HR.la H hl rfl rfl N | exact HR.la0 H hl rfl rfl) rfl (by omega) (by omega) ?_
      rw [hW.2 i (by omega)]
      refine q_callV (pc := 66) _ rfl rfl rfl (by exact HR.c H hl _ rfl) rfl (Nat.le_of_ble_eq_true rfl) (by omega) _ rfl ?_
      refine m_minutes (by omega) H hl N T hk hp hgi ?_
      intro h s1 H f1 tk
      rw [show mnN C E β p (wrI β i) = kcs C E β p i from rfl]
      refine r_ist2 (pc := 69) rfl H hl rfl (fun _ => rfl) rfl (by omega) (by omega) ?_
      intro h H
      first | refine n_iinc (pc := 70) rfl [_, _, _, _] 1 (by decide) rfl rfl ?_ | refine q_iinc (pc := 70) [_, _, _, _] (1) rfl rfl (by decide) rfl ?_
      refine q_goto (pc := 73) rfl ?_
      have k2 : gf eS eF s (stv s1 67 (7 * p + i) (nI (kcs C E β p i))) := (f1.mono (fun i g => by unfold tS at g; unfold eS; omega) (fun i g => by unfold tF at g; unfold eF; omega)).tr (gf.wr (by unfold eS; omega) (by decide))
      have e67 : ∀ j, s1 67 j = s 67 j := fun j => congrFun (f1.1 67 (by unfold tS; decide)) _
      refine m_togI hd hl hk hp hm T0 kk k0 (i + 1) (by omega) h _ H (N.fr k2.1 (by unfold eS; omega)) (f.tr k2) ⟨(congrFun (stv_n (by decide)) _).trans ((f1.2 26 (by unfold tF; omega)).trans hW.1), fun j hj => ?_⟩ ⟨fun q hq j hj => ?_, fun j hj => ?_⟩
      · rw [stv_n (by decide), f1.1 66 (by unfold tS; decide)]
        exact hW.2 j hj
      · rw [stv_o (by omega), e67]
        exact hv.1 q hq j hj
      · by_cases e : j = i
        · subst e
          exact stv_a
        · rw [stv_o (by omega), e67]
          exact hv.2 j (by omega)
termination_by k0
theorem m_togS {p : Nat} {z0 z3 : Option Value} {x1 : Int32} (kk : wq d 192 30 [z0, some (.int x1), some (.int (nI (p + 1))), z3] [] h Q) : wq d 192 76 [z0, some (.int x1), some (.int (nI p)), z3] [] h Q := by
  first | refine n_iinc (pc := 76) rfl [_, _, _, _] 1 (by decide) rfl rfl ?_ | refine q_iinc (pc := 76) [_, _, _, _] (1) rfl rfl (by decide) rfl ?_
  refine q_goto (pc := 79) rfl ?_
  exact kk
theorem m_togO {n : Nat} {x1 : Int32} (hd : 8 ≤ d) (hl : 75 ≤ P.1) (hk : bok β n) (hm : wrC β ≤ 7) {s0 : mx_St} (T0 : MT s0 n C E) (kk : ∀ h' s' z3, HR P h' s' → gf eS eF s0 s' → NW s' β → WM s' (wrC β) (wrI β) → OVp C E β s' (β 88) 0 → wq d 192 82 [some (.ref 54), some (.int x1), some (.int (nI (β 88))), z3] [] h' Q) (k0 p : Nat) (hi : p + k0 = β 88) (h : mx_H) (s : mx_St) (H : HR P h s) (N : NW s β) (f : gf eS eF s0 s) (hW : WM s (wrC β) (wrI β)) (hv : OVp C E β s p 0) (z3 : Option Value) : wq d 192 30 [some (.ref 54), some (.int x1), some (.int (nI p)), z3] [] h Q := by
  have K4 := hk.2.2.1
  match k0, hi with
  | 0, hi =>
    obtain rfl : p = β 88 := by omega
    refine q_iload_n (pc := 30) rfl rfl ?_
    refine q_aload_n (pc := 31) rfl rfl rfl ?_
    refine q_callV (pc := 32) _ rfl rfl rfl (by exact HR.c H hl _ rfl) rfl (Nat.le_of_ble_eq_true rfl) (by omega) _ rfl ?_
    refine m_many H hl N ?_
    first | refine n_icmpge (pc := 35) rfl (by omega) (by omega) (fun h35 => ?_) (fun h35 => ?_) | refine q_icmpge (pc := 35) rfl (fun h35 => ?_) (fun h35 => ?_)
    · exact kk _ _ _ H f N hW hv
    · first | (exfalso; omega) | exact absurd h35 (nI_pos (by omega)) | exact absurd (nI_pos' (by omega)) h35
  | k0 + 1, hi =>
    refine q_iload_n (pc := 30) rfl rfl ?_
    refine q_aload_n (pc := 31) rfl rfl rfl ?_
    refine q_callV (pc := 32) _ rfl rfl rfl (by exact HR.c H hl _ rfl) rfl (Nat.le_of_ble_eq_true rfl) (by omega) _ rfl ?_
    refine m_many H hl N ?_
    first | refine n_icmpge (pc := 35) rfl (by omega) (by omega) (fun h35 => ?_) (fun h35 => ?_) | refine q_icmpge (pc := 35) rfl (fun h35 => ?_) (fun h35 => ?_)
    · first | (exfalso; omega) | exact absurd h35 (nI_pos (by omega)) | exact absurd (nI_pos' (by omega)) h35
    · refine q_iconst (pc := 38) rfl (nI 0) (by decide) ?_
      refine q_istore_n (pc := 39) [_, _, _, _] rfl (Nat.le_of_ble_eq_true rfl) rfl ?_
      refine m_togI hd hl hk (by omega) hm T0 (fun h s1 H f N hW hv => ?_) (wrC β) 0 (by omega) h s H N f hW hv
      exact m_togS (m_togO hd hl hk hm T0 kk k0 (p + 1) (by omega) h s1 H N f hW ⟨fun q hq j hj => (by
        rcases Nat.lt_succ_iff_lt_or_eq.mp hq with e | e
        · exact hv.1 q e j hj
        · rw [e]
          exact hv.2 j hj), fun j hj => absurd hj (Nat.not_lt_zero _)⟩ _)
termination_by k0
theorem tg_lt {n : Nat} (hk : bok β n) (hm : wrC β ≤ 7) : tgM C E β < 1000000 := by
  have K4 := hk.2.2.1
  have h0 : 0 < 2 ^ wrC β := Nat.two_pow_pos _
  unfold tgM
  refine sdN_ok (N := β 88) (by omega) (by unfold tgZ; omega) K4 (fun q i hq _ => mnN_le hk (by omega) (wrI_lt i)) (β 88) 0 0 (by omega) h0 (by rw [cnt_0]; omega) (by rw [cnt_0]; unfold tgZ; omega)
theorem m_togB {n w : Nat} {z2 z3 : Option Value} (hd : 14 ≤ d) (hl : 75 ≤ P.1) (hk : bok β n) (hw : w = 0 ∨ (10 ≤ w ∧ w < 10 + β 88)) (hm : wrC β ≤ 7) (H : HR P h s) (N : NW s β) (hW : WM s (wrC β) (wrI β)) (hv : OVp C E β s (β 88) 0) (kk : ∀ h' s', HR P h' s' → gf eS eF s s' → NW s' β → Q (some (.int (if w = 0 then nI (tgM C E β) else ocI β (tgG C E β (w - 10))))) h') : wq d 192 82 [some (.ref 54), some (.int (nI w)), z2, z3] [] h Q := by
  have K4 := hk.2.2.1
  have p7 := pw7 hm
  have p1 : 0 < 2 ^ wrC β := Nat.two_pow_pos _
  have tl := tg_lt (C := C) (E := E) hk hm
  refine q_aload_n (pc := 82) rfl rfl rfl ?_
  refine q_ldcW (pc := 83) rfl (nI 2147483647) (by decide) ?_
  refine r_pf2 (pc := 86) (i := 27) rfl H hl rfl rfl rfl rfl (Nat.le_of_ble_eq_true rfl) rfl rfl ?_
  intro h H
  have q1 : gf eS eF s (stv s 54 27 (nI 2147483647)) := gf.fd (Or.inl rfl) (by unfold eF; omega)
  have N := N.fr q1.1 (by unfold eS; omega)
  have hWw : (stv s 54 27 (nI 2147483647)) 54 26 = nI (wrC β) := (stv_o (by decide)).trans hW.1
  refine q_aload_n (pc := 89) rfl rfl rfl ?_
  refine q_iconst (pc := 90) rfl (nI 0) (by decide) ?_
  refine q_iconst (pc := 91) rfl (nI 1) (by decide) ?_
  refine q_aload_n (pc := 92) rfl rfl rfl ?_
  refine q_getf (pc := 93) rfl (by exact HR.c H hl _ rfl) rfl rfl ?_
  rw [hWw]
  refine n_ishl1 (pc := 96) rfl (by omega) ?_
  refine q_iconst (pc := 97) rfl (nI 1) (by decide) ?_
  first | refine n_isub (pc := 98) rfl (by omega) ?_ | refine q_isub (pc := 98) rfl ?_
  refine q_aload_n (pc := 99) rfl rfl rfl ?_
  refine q_callV (pc := 100) _ rfl rfl rfl (by exact HR.c H hl _ rfl) rfl (Nat.le_of_ble_eq_true rfl) (by omega) _ rfl ?_
  refine m_many H hl N ?_
  refine q_aload_n (pc := 103) rfl rfl rfl ?_
  refine q_getf (pc := 104) rfl (by exact HR.c H hl _ rfl) rfl rfl ?_
  rw [hWw]
  first | refine n_min (pc := 107) rfl rfl (by omega) (by omega) ?_ | refine q_min (pc := 107) rfl rfl ?_
  refine q_iconst (pc := 110) rfl (nI 0) (by decide) ?_
  refine q_callV (pc := 111) _ rfl rfl rfl (by exact HR.c H hl _ rfl) rfl (Nat.le_of_ble_eq_true rfl) (by omega) _ rfl ?_
  rw [show min (β 88) (wrC β) = tgZ β from rfl]
  refine m_send (β := β) (m := wrC β) (z := tgZ β) (N := β 88) (g := wrI β) (Kc := kcs C E β) hl (by omega) (fun i _ => wrI_lt i) K4 (fun q i hq _ => mnN_le hk (by omega) (wrI_lt i)) (by unfold tgZ; omega) (β 88) 0 0 (tgZ β) 0 (fun _ => 0) (2147483647, fun q => s 69 q) _ _ _ _ (by omega) p1 (by rw [cnt_0]; omega) (by omega) (by show 2147483647 < 2 ^ 31; omega) (by omega) H ⟨N, rfl, hWw, fun i hi => (congrFun (stv_n (by decide)) _).trans (hW.2 i hi), fun q hq i hi => (congrFun (stv_n (by decide)) _).trans (hv.1 q hq i hi)⟩ (fun q hq => absurd hq (Nat.not_lt_zero _)) ⟨stv_a, fun q _ => congrFun (stv_n (by decide)) _⟩ (fun h s1 H f2 _ L1 => ?_)
  have N := N.fr f2.1 (by unfold dS; omega)
  have eR : resN (kcs C E β) (wrC β) (tgZ β) (wrI β) (β 88) 0 0 0 (fun _ => 0) (2147483647, fun q => s 69 q) = (0 + tgM C E β, gfN (kcs C E β) (wrC β) (tgZ β) (wrI β) (β 88) 0 0 (fun _ => 0)) := by
    have tl2 : sdN (kcs C E β) (wrC β) (tgZ β) (β 88) 0 0 < 1000000 := tl
    unfold resN upG
    rw [if_pos tl2, if_pos (show 0 + sdN (kcs C E β) (wrC β) (tgZ β) (β 88) 0 0 < 2147483647 by omega)]
    rfl
  rw [eR] at L1
  have L2 : s1 54 27 = nI (tgM C E β) := by
    rw [L1.1]
    exact congrArg nI (Nat.zero_add _)
  have L3 : ∀ q, q < β 88 → s1 69 q = ocI β (tgG C E β q) := fun q hq => L1.2 q hq
  refine q_iload_n (pc := 114) rfl rfl ?_
  first | refine n_ifne (pc := 115) rfl (by omega) (fun h115 => ?_) (fun h115 => ?_) | refine q_ifne (pc := 115) rfl (fun h115 => ?_) (fun h115 => ?_)
  · have q115 : ¬ w = 0 := by omega
    first
    | (exfalso; omega (config := {splitDisjunctions := false}))
    | exact absurd rfl h115
    | skip
      refine q_aload_n (pc := 125) rfl rfl rfl ?_
      refine q_getf (pc := 126) rfl (by exact HR.c H hl _ rfl) rfl rfl ?_
      refine q_iload_n (pc := 129) rfl rfl ?_
      refine q_bipush (pc := 130) rfl (nI 10) (by decide) ?_
      first | refine n_isub (pc := 132) rfl (by omega) ?_ | refine q_isub (pc := 132) rfl ?_
      refine n_ild (pc := 133) rfl (by first | exact HR.la H hl rfl rfl N | exact HR.la0 H hl rfl rfl) rfl (by omega) (by omega) ?_
      rw [L3 (w - 10) (by omega)]
      refine q_iret (pc := 134) rfl (rfl) ?_
      first
      | (rw [if_pos q115f] at kk
         exact kk _ _ H (q1.tr (f2.mono (fun i g => by unfold dS at g; unfold eS; omega) (fun i g => by unfold dF at g; unfold eF; omega))) N)
      | (rw [if_neg q115] at kk
         exact kk _ _ H (q1.tr (f2.mono (fun i g => by unfold dS at g; unfold eS; omega) (fun i g => by unfold dF at g; unfold eF; omega))) N)
  · have q115f : w = 0 := by omega
    first
    | (exfalso; omega (config := {splitDisjunctions := false}))
    | exact absurd rfl h115
    | skip
      refine q_aload_n (pc := 118) rfl rfl rfl ?_
      refine q_getf (pc := 119) rfl (by exact HR.c H hl _ rfl) rfl rfl ?_
      rw [L2]
      refine q_goto (pc := 122) rfl ?_
      refine q_iret (pc := 134) rfl (rfl) ?_
      first
      | (rw [if_pos q115f] at kk
         exact kk _ _ H (q1.tr (f2.mono (fun i g => by unfold dS at g; unfold eS; omega) (fun i g => by unfold dF at g; unfold eF; omega))) N)
      | (rw [if_neg q115] at kk
         exact kk _ _ H (q1.tr (f2.mono (fun i g => by unfold dS at g; unfold eS; omega) (fun i g => by unfold dF at g; unfold eF; omega))) N)
theorem lo10 : ∀ w, w < 10 → ∀ j, j < 4 → nI w - nI 10 ≠ nI j := by decide +kernel
theorem m_together (hd : 24 ≤ d) (H : HR P h s) (hl : 75 ≤ P.1) (N : NW s β) (K : AOK P.2.1 β κ ik tp tz σ sz) (Mk : MK s P.2.1 κ ik tp tz C E σ sz cl) (kk : ∀ h' s', HR P h' s' → NW s' β → mf s s' → Q (some (.int (o_together C E β x))) h') : wc d 192 [.ref 54, .int x] h Q := by
  have K4 := K.1.2.2.1
  have KK := K.1
  have K89 := K.2.1
  rcases rgc 20 (by decide) x with ⟨w, hw, rfl, z1⟩ | ⟨g, z1⟩
  · rcases (show w = 0 ∨ (0 < w ∧ w < 10) ∨ 10 ≤ w by omega) with g0 | g0 | g0
    ·
      refine wc.go [_, _, _, _] rfl ?_
      refine q_iload_n (pc := 0) rfl rfl ?_
      first | refine n_ifeq (pc := 1) rfl (by omega) (fun h1 => ?_) (fun h1 => ?_) | refine q_ifeq (pc := 1) rfl (fun h1 => ?_) (fun h1 => ?_)
      · refine q_aload_n (pc := 18) rfl rfl rfl ?_
        refine q_callV (pc := 19) _ rfl rfl rfl (by exact HR.c H hl _ rfl) rfl (Nat.le_of_ble_eq_true rfl) (by omega) _ rfl ?_
        refine m_isMany (by omega) hl KK.1 H N (fun h7 h s1 H N f1 hW => ?_) (fun h7 h s1 H N f1 => ?_)
        · refine q_ifeq (pc := 22) rfl (fun _ => ?_) (fun z => absurd (by decide) z)
          refine q_iconst (pc := 28) rfl (nI 0) (by decide) ?_
          refine q_istore_n (pc := 29) [_, _, _, _] rfl (Nat.le_of_ble_eq_true rfl) rfl ?_
          have hw9 : w = 0 ∨ (10 ≤ w ∧ w < 10 + β 88) := by omega
          have q1 : gf eS eF s s1 := f1.mono (fun i g => by unfold iS at g; unfold eS; omega) (fun i g => by unfold iF at g; unfold eF; omega)
          refine m_togO (by omega) hl KK h7 (Mk.2.2.2.2.1.fr (gf_em q1)) (fun h s3 z3 H f3 N hW hv => ?_) (β 88) 0 (by omega) h s1 H N gf.rf hW ⟨fun q hq => absurd hq (Nat.not_lt_zero _), fun j hj => absurd hj (Nat.not_lt_zero _)⟩ _
          refine m_togB (by omega) hl KK hw9 h7 H N hW hv (fun h s4 H f4 N => ?_)
          have e1 : o_together C E β (nI w) = (if w = 0 then nI (tgM C E β) else ocI β (tgG C E β (w - 10))) := by
            unfold o_together
            rw [z1.out, if_pos hw9, if_neg (by omega)]
          rw [← e1]
          exact kk _ _ H N (gf_em ((q1.tr f3).tr f4))
        · refine q_ifeq (pc := 22) rfl (fun z => absurd z (by decide)) (fun _ => ?_)
          refine q_bipush (pc := 25) rfl (-3) (by decide) ?_
          refine q_iret (pc := 27) rfl (rfl) ?_
          refine eqQ (v' := o_together C E β (nI w)) ?_ (kk _ _ H N (gf.mf f1 (fun i g => by unfold iS at g; unfold mS; omega) (by unfold iF; omega)))
          unfold o_together
          rw [z1.out, if_pos (show w = 0 ∨ (10 ≤ w ∧ w < 10 + β 88) by omega), if_pos h7]
      · first | (exfalso; omega) | exact absurd h1 (nI_pos (by omega)) | exact absurd (nI_pos' (by omega)) h1
    ·
      refine wc.go [_, _, _, _] rfl ?_
      refine q_iload_n (pc := 0) rfl rfl ?_
      first | refine n_ifeq (pc := 1) rfl (by omega) (fun h1 => ?_) (fun h1 => ?_) | refine q_ifeq (pc := 1) rfl (fun h1 => ?_) (fun h1 => ?_)
      · first | (exfalso; omega) | exact absurd h1 (nI_pos (by omega)) | exact absurd (nI_pos' (by omega)) h1
      · refine q_aload_n (pc := 4) rfl rfl rfl ?_
        refine q_iload_n (pc := 5) rfl rfl ?_
        refine q_bipush (pc := 6) rfl (nI 10) (by decide) ?_
        refine q_isub (pc := 8) rfl ?_
        refine q_callV (pc := 9) _ rfl rfl rfl (by exact HR.c H hl _ rfl) rfl (Nat.le_of_ble_eq_true rfl) (by omega) _ rfl ?_
        refine m_isOne (by omega) H hl N K4 (fun p hp e => ?_) (fun g => ?_)
        · exact absurd e (lo10 w (by omega) p (by omega))
        · refine q_ifne (pc := 12) rfl (fun z => absurd z (by decide)) (fun _ => ?_)
          refine q_bipush (pc := 15) rfl (-2) (by decide) ?_
          refine q_iret (pc := 17) rfl (rfl) ?_
          refine eqQ (v' := o_together C E β (nI w)) ?_ (kk _ _ H N mf.rf)
          unfold o_together
          rw [z1.out, if_neg (show ¬ (w = 0 ∨ (10 ≤ w ∧ w < 10 + β 88)) by omega)]
    ·
      refine wc.go [_, _, _, _] rfl ?_
      refine q_iload_n (pc := 0) rfl rfl ?_
      first | refine n_ifeq (pc := 1) rfl (by omega) (fun h1 => ?_) (fun h1 => ?_) | refine q_ifeq (pc := 1) rfl (fun h1 => ?_) (fun h1 => ?_)
      · first | (exfalso; omega) | exact absurd h1 (nI_pos (by omega)) | exact absurd (nI_pos' (by omega)) h1
      · refine q_aload_n (pc := 4) rfl rfl rfl ?_
        refine q_iload_n (pc := 5) rfl rfl ?_
        refine q_bipush (pc := 6) rfl (nI 10) (by decide) ?_
        first | refine n_isub (pc := 8) rfl (by omega) ?_ | refine q_isub (pc := 8) rfl ?_
        refine q_callV (pc := 9) _ rfl rfl rfl (by exact HR.c H hl _ rfl) rfl (Nat.le_of_ble_eq_true rfl) (by omega) _ rfl ?_
        refine m_isOne (by omega) H hl N K4 (fun p hp e => ?_) (fun g => ?_)
        · obtain rfl := x_eq e (by omega) (by omega)
          refine q_ifne (pc := 12) rfl (fun _ => ?_) (fun z => absurd z (by decide))
          refine q_aload_n (pc := 18) rfl rfl rfl ?_
          refine q_callV (pc := 19) _ rfl rfl rfl (by exact HR.c H hl _ rfl) rfl (Nat.le_of_ble_eq_true rfl) (by omega) _ rfl ?_
          refine m_isMany (by omega) hl KK.1 H N (fun h7 h s1 H N f1 hW => ?_) (fun h7 h s1 H N f1 => ?_)
          · refine q_ifeq (pc := 22) rfl (fun _ => ?_) (fun z => absurd (by decide) z)
            refine q_iconst (pc := 28) rfl (nI 0) (by decide) ?_
            refine q_istore_n (pc := 29) [_, _, _, _] rfl (Nat.le_of_ble_eq_true rfl) rfl ?_
            have hw9 : w = 0 ∨ (10 ≤ w ∧ w < 10 + β 88) := by omega
            have q1 : gf eS eF s s1 := f1.mono (fun i g => by unfold iS at g; unfold eS; omega) (fun i g => by unfold iF at g; unfold eF; omega)
            refine m_togO (by omega) hl KK h7 (Mk.2.2.2.2.1.fr (gf_em q1)) (fun h s3 z3 H f3 N hW hv => ?_) (β 88) 0 (by omega) h s1 H N gf.rf hW ⟨fun q hq => absurd hq (Nat.not_lt_zero _), fun j hj => absurd hj (Nat.not_lt_zero _)⟩ _
            refine m_togB (by omega) hl KK hw9 h7 H N hW hv (fun h s4 H f4 N => ?_)
            have e1 : o_together C E β (nI w) = (if w = 0 then nI (tgM C E β) else ocI β (tgG C E β (w - 10))) := by
              unfold o_together
              rw [z1.out, if_pos hw9, if_neg (by omega)]
            rw [← e1]
            exact kk _ _ H N (gf_em ((q1.tr f3).tr f4))
          · refine q_ifeq (pc := 22) rfl (fun z => absurd z (by decide)) (fun _ => ?_)
            refine q_bipush (pc := 25) rfl (-3) (by decide) ?_
            refine q_iret (pc := 27) rfl (rfl) ?_
            refine eqQ (v' := o_together C E β (nI w)) ?_ (kk _ _ H N (gf.mf f1 (fun i g => by unfold iS at g; unfold mS; omega) (by unfold iF; omega)))
            unfold o_together
            rw [z1.out, if_pos (show w = 0 ∨ (10 ≤ w ∧ w < 10 + β 88) by omega), if_pos h7]
        · have gp : β 88 ≤ w - 10 := g.elim (fun e => absurd e (nI_pos (by omega))) (fun e => x_le e (by omega) (by omega))
          refine q_ifne (pc := 12) rfl (fun z => absurd z (by decide)) (fun _ => ?_)
          refine q_bipush (pc := 15) rfl (-2) (by decide) ?_
          refine q_iret (pc := 17) rfl (rfl) ?_
          refine eqQ (v' := o_together C E β (nI w)) ?_ (kk _ _ H N mf.rf)
          unfold o_together
          rw [z1.out, if_neg (show ¬ (w = 0 ∨ (10 ≤ w ∧ w < 10 + β 88)) by omega)]
  ·
    refine wc.go [_, _, _, _] rfl ?_
    refine q_iload_n (pc := 0) rfl rfl ?_
    refine q_ifeq (pc := 1) rfl (fun h1 => ?_) (fun h1 => ?_)
    · exact False.elim (g.elim (fun e => absurd e (by rw [h1]; decide)) (fun e => absurd e (by rw [h1]; decide)))
    · first
      | (exfalso; omega (config := {splitDisjunctions := false}))
      | exact absurd rfl h1
      | skip
        refine q_aload_n (pc := 4) rfl rfl rfl ?_
        refine q_iload_n (pc := 5) rfl rfl ?_
        refine q_bipush (pc := 6) rfl (nI 10) (by decide) ?_
        refine q_isub (pc := 8) rfl ?_
        refine q_callV (pc := 9) _ rfl rfl rfl (by exact HR.c H hl _ rfl) rfl (Nat.le_of_ble_eq_true rfl) (by omega) _ rfl ?_
        refine m_isOne (by omega) H hl N K4 (fun p hp e => ?_) (fun g2 => ?_)
        · exact (rg_no g ((x_back e).trans (nI_add _ _)) ⟨by omega, by decide⟩).elim
        · refine q_ifne (pc := 12) rfl (fun z => absurd z (by decide)) (fun _ => ?_)
          refine q_bipush (pc := 15) rfl (-2) (by decide) ?_
          refine q_iret (pc := 17) rfl (rfl) ?_
          refine eqQ ?_ (kk _ _ H N mf.rf)
          unfold o_together
          rw [z1.out, if_neg (by omega)]
end P63
