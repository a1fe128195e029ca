/-! ===== the reference: tides thought, numbers told ===== -/
section P51
variable {d k pc a i j c p b t n m part q : Nat} {v : Int} {L L' : mx_L} {st r : List Value} {P : mx_Pm} {h : mx_H} {s : mx_St} {Q : Option Value → mx_H → Prop} {x y w z u : Int32} {β κ : Nat → Nat} {C : Nat → Nat → Int32} {E : Nat → Nat → Nat} {ik tz : Nat} {tp : Nat → Nat} {σ : Nat → Int32} {sz : Nat → Nat} {cl : Nat → Nat → Int32}
def bS (i : Nat) : Prop := i = 54 ∨ i = 55 ∨ i = 57 ∨ i = 63 ∨ i = 64
theorem m_behind {n r : Nat} (hd : 6 ≤ d) (H : HR P h s) (hl : 75 ≤ P.1) (N : NW s β) (T : MT s n C E) (hk : bok β n) (h9 : β 89 ≤ 999) (hr : r ≤ 6) (kk : ∀ h' s', HR P h' s' → gf bS fF s s' → NW s' β → Q (some (.int (nI (bhN C E β r)))) h') : wc d 185 [.ref 54, .int (nI r)] h Q := by
  refine wc.go [_, _, _] rfl ?_
  refine q_aload_n (pc := 0) rfl rfl rfl ?_
  refine q_aload_n (pc := 1) rfl rfl rfl ?_
  refine q_getf (pc := 2) rfl (by exact HR.c H hl _ rfl) rfl rfl ?_
  refine q_callV (pc := 5) _ rfl rfl rfl (by exact HR.c H hl _ rfl) rfl (Nat.le_of_ble_eq_true rfl) (by omega) _ rfl ?_
  refine m_keep H hl (Or.inr rfl) N ?_
  intro h s1 H f1 W1
  have N := N.fr f1 (by decide)
  have fm1 : mf s s1 := ⟨f1.mono (fun i g => by unfold mS; omega), congrFun (f1 54 (by decide)) _, congrFun (f1 54 (by decide)) _, congrFun (f1 54 (by decide)) _⟩
  have T := T.fr fm1
  refine q_aload_n (pc := 8) rfl rfl rfl ?_
  refine q_iload_n (pc := 9) rfl rfl ?_
  refine q_callV (pc := 10) _ rfl rfl rfl (by exact HR.c H hl _ rfl) rfl (Nat.le_of_ble_eq_true rfl) (by omega) _ rfl ?_
  refine m_flow (by omega) H hl N T hk hr ?_
  intro h s2 H f2 N
  have W2 : ∀ i, i < 91 → s2 57 i = nI (β i) := fun i hi => (congrFun (f2.1 57 (by unfold fS; decide)) i).trans (W1 i hi)
  refine q_aload_n (pc := 13) rfl rfl rfl ?_
  refine q_callV (pc := 14) _ rfl rfl rfl (by exact HR.c H hl _ rfl) rfl (Nat.le_of_ble_eq_true rfl) (by omega) _ rfl ?_
  refine m_wrongs (by omega) H hl N (bok_flo hk h9).1 ?_
  refine q_istore_n (pc := 17) [_, _, _] rfl (Nat.le_of_ble_eq_true rfl) rfl ?_
  refine q_aload_n (pc := 18) rfl rfl rfl ?_
  refine q_aload_n (pc := 19) rfl rfl rfl ?_
  refine q_getf (pc := 20) rfl (by exact HR.c H hl _ rfl) rfl rfl ?_
  refine q_callV (pc := 23) _ rfl rfl rfl (by exact HR.c H hl _ rfl) rfl (Nat.le_of_ble_eq_true rfl) (by omega) _ rfl ?_
  refine m_lay H hl (Or.inr rfl) W2 ?_
  intro h s3 H f3 N3
  refine q_iload_n (pc := 26) rfl rfl ?_
  refine q_iret (pc := 27) rfl (rfl) ?_
  exact kk _ _ H (((gf.of f1 (fun i g => by unfold bS; omega) (by decide)).tr (f2.mono (fun i g => by unfold fS at g; unfold bS; omega) (fun i g => g))).tr (gf.of f3 (fun i g => by unfold bS; omega) (by decide))) N3
theorem bS_mf {s s' : mx_St} (f : gf bS fF s s') : mf s s' := f.mf (fun i g => by unfold bS at g; unfold mS; omega) (by unfold fF; decide)
theorem m_drawn0 {n : Nat} (hd : 7 ≤ d) (H : HR P h s) (hl : 75 ≤ P.1) (N : NW s β) (T : MT s n C E) (hk : bok β n) (h9 : β 89 ≤ 999) (kk : ∀ h' s', HR P h' s' → gf bS fF s s' → NW s' β → Q (some (.int (nI (bhN C E β (rch x))))) h') : wc d 207 [.ref 54, .int x] h Q := by
  have g1 := rch_lt (x := x)
  refine wc.go [_, _, _] rfl ?_
  refine q_iload_n (pc := 0) rfl rfl ?_
  refine q_ldcW (pc := 1) rfl (nI 1103515245) (by decide) ?_
  refine q_imul (pc := 4) rfl ?_
  refine q_sipush (pc := 5) rfl (nI 12345) (by decide) ?_
  refine q_iadd (pc := 8) rfl ?_
  refine q_istore_n (pc := 9) [_, _, _] rfl (Nat.le_of_ble_eq_true rfl) rfl ?_
  refine q_aload_n (pc := 10) rfl rfl rfl ?_
  refine q_iload_n (pc := 11) rfl rfl ?_
  refine q_bipush (pc := 12) rfl (nI 9) (by decide) ?_
  refine q_iushr (pc := 14) rfl ?_
  rw [ush9]
  refine q_bipush (pc := 15) rfl (nI 7) (by decide) ?_
  first | refine n_irem (pc := 17) rfl (by omega) (by omega) (by omega) ?_ | refine q_irem (pc := 17) rfl (by decide) ?_
  rw [show (x * nI 1103515245 + nI 12345).toBitVec.toNat / 512 % 7 = rch x from rfl]
  refine q_callV (pc := 18) _ rfl rfl rfl (by exact HR.c H hl _ rfl) rfl (Nat.le_of_ble_eq_true rfl) (by omega) _ rfl ?_
  refine m_behind (by omega) H hl N T hk h9 rch_le ?_
  intro h s1 H f1 N
  refine q_iret (pc := 21) rfl (rfl) ?_
  exact kk _ _ H f1 N
theorem m_drawn (hd : 20 ≤ d) (H : HR P h s) (hl : 75 ≤ P.1) (N : NW s β) (K : AOK P.2.1 β κ ik tp tz σ sz) (Mk : MK s P.2.1 κ ik tp tz C E σ sz cl) (kk : ∀ h' s', HR P h' s' → NW s' β → mf s s' → Q (some (.int (o_drawn C E β x))) h') : wc d 207 [.ref 54, .int x] h Q := by
  have K4 := K.1.2.2.1
  have KK := K.1
  have K89 := K.2.1
  exact m_drawn0 (by omega) H hl N Mk.2.2.2.2.1 KK K89 (fun h' s' H f N => kk _ _ H N (bS_mf f))
def wrV (f : Nat → Nat) (n : Nat) : Int32 := if n = 0 then -1 else nI (wrs f (n - 1)).1
def wrW (f : Nat → Nat) (n : Nat) : Int32 := if n = 0 then -1 else nI (wrs f (n - 1)).2
theorem m_worstZ {z0 z1 z5 : Option Value} {v : Nat} {F : Nat → Nat} (hv : F 0 = v ∧ v < 2 ^ 31) (kk : wq d 184 7 [z0, z1, some (.int (wrV F 1)), some (.int (wrW F 1)), some (.int (nI 1)), z5] [] h Q) : wq d 184 7 [z0, z1, some (.int (nI 0)), some (.int (if nI v < -1 then -1 else nI v)), some (.int (nI 1)), z5] [] h Q := by
  rw [show wrV F 1 = nI 0 from rfl, show wrW F 1 = nI (F 0) from rfl, hv.1] at kk
  rw [if_neg (fun e => nI_pos hv.2 (Int32.lt_trans e (by decide)))]
  exact kk
theorem m_worstL {n : Nat} {a1 : Int32} (hd : 7 ≤ d) (hl : 75 ≤ P.1) (hk : bok β n) (h9 : β 89 ≤ 999) {s0 : mx_St} (T0 : MT s0 n C E) (kk : ∀ h' s' z5, HR P h' s' → gf bS fF s0 s' → NW s' β → wq d 184 48 [some (.ref 54), some (.int a1), some (.int (nI (wrs (bhN C E β) 6).1)), some (.int (nI (wrs (bhN C E β) 6).2)), some (.int (nI 7)), z5] [] h' Q) (m i : Nat) (hi : i + m = 7) (h : mx_H) (s : mx_St) (H : HR P h s) (f : gf bS fF s0 s) (N : NW s β) (z5 : Option Value) : wq d 184 7 [some (.ref 54), some (.int a1), some (.int (wrV (bhN C E β) i)), some (.int (wrW (bhN C E β) i)), some (.int (nI i)), z5] [] h Q := by
  have T := T0.fr (bS_mf f)
  match m, hi with
  | 0, hi =>
    obtain rfl : i = 7 := by omega
    refine q_iload (pc := 7) rfl rfl ?_
    refine q_bipush (pc := 9) rfl (nI 7) (by decide) ?_
    first | refine n_icmpge (pc := 11) rfl (by omega) (by omega) (fun h11 => ?_) (fun h11 => ?_) | refine q_icmpge (pc := 11) rfl (fun h11 => ?_) (fun h11 => ?_)
    · exact kk _ _ _ H f N
    · first | (exfalso; omega) | exact absurd h11 (nI_pos (by omega)) | exact absurd (nI_pos' (by omega)) h11
  | m + 1, hi =>
    have b4 := bhN_le (C := C) (E := E) (β := β) (r := i)
    rcases Nat.eq_zero_or_pos i with e0 | e0
    · subst e0
      rw [show wrV (bhN C E β) 0 = -1 from rfl, show wrW (bhN C E β) 0 = -1 from rfl]
      refine q_iload (pc := 7) rfl rfl ?_
      refine q_bipush (pc := 9) rfl (nI 7) (by decide) ?_
      first | refine n_icmpge (pc := 11) rfl (by omega) (by omega) (fun h11 => ?_) (fun h11 => ?_) | refine q_icmpge (pc := 11) rfl (fun h11 => ?_) (fun h11 => ?_)
      · first | (exfalso; omega) | exact absurd h11 (nI_pos (by omega)) | exact absurd (nI_pos' (by omega)) h11
      · refine q_aload_n (pc := 14) rfl rfl rfl ?_
        refine q_iload (pc := 15) rfl rfl ?_
        refine q_callV (pc := 17) _ rfl rfl rfl (by exact HR.c H hl _ rfl) rfl (Nat.le_of_ble_eq_true rfl) (by omega) _ rfl ?_
        refine m_behind (by omega) H hl N T hk h9 (by omega) ?_
        intro h s1 H f1 N
        refine q_istore (pc := 20) [_, _, _, _, _, _] rfl (Nat.le_of_ble_eq_true rfl) rfl ?_
        refine q_iload (pc := 22) rfl rfl ?_
        refine q_iload_n (pc := 24) rfl rfl ?_
        refine q_icmple (pc := 25) rfl (fun h25 => ?_) (fun h25 => ?_)
        · exact absurd h25 (Int32.not_le.mpr (Int32.lt_of_lt_of_le (by decide) (nI_pos' (by omega))))
        · first
          | (exfalso; omega (config := {splitDisjunctions := false}))
          | skip
            refine q_iload (pc := 28) rfl rfl ?_
            refine q_goto (pc := 30) rfl ?_
            refine q_istore_n (pc := 34) [_, _, _, _, _, _] rfl (Nat.le_of_ble_eq_true rfl) rfl ?_
            refine q_iload (pc := 35) rfl rfl ?_
            refine q_iload_n (pc := 37) rfl rfl ?_
            refine q_max (pc := 38) rfl rfl ?_
            refine q_istore_n (pc := 41) [_, _, _, _, _, _] rfl (Nat.le_of_ble_eq_true rfl) rfl ?_
            first | refine n_iinc (pc := 42) rfl [_, _, _, _, _, _] 1 (by decide) rfl rfl ?_ | refine q_iinc (pc := 42) [_, _, _, _, _, _] (1) rfl rfl (by decide) rfl ?_
            refine q_goto (pc := 45) rfl ?_
            exact m_worstZ (F := bhN C E β) ⟨rfl, by omega⟩ (m_worstL hd hl hk h9 T0 kk m 1 (by omega) h s1 H (f.tr f1) N _)
    · obtain ⟨j, rfl⟩ : ∃ j, i = j + 1 := ⟨i - 1, by omega⟩
      have w1 := wrs_le (bhN C E β) j
      have w2 := wrs_2 (bhN C E β) j
      have b5 := bhN_le (C := C) (E := E) (β := β) (r := (wrs (bhN C E β) j).1)
      rw [show wrV (bhN C E β) (j + 1) = nI (wrs (bhN C E β) j).1 from if_neg (by omega), show wrW (bhN C E β) (j + 1) = nI (wrs (bhN C E β) j).2 from if_neg (by omega)]
      refine q_iload (pc := 7) rfl rfl ?_
      refine q_bipush (pc := 9) rfl (nI 7) (by decide) ?_
      first | refine n_icmpge (pc := 11) rfl (by omega) (by omega) (fun h11 => ?_) (fun h11 => ?_) | refine q_icmpge (pc := 11) rfl (fun h11 => ?_) (fun h11 => ?_)
      · first | (exfalso; omega) | exact absurd h11 (nI_pos (by omega)) | exact absurd (nI_pos' (by omega)) h11
      · refine q_aload_n (pc := 14) rfl rfl rfl ?_
        refine q_iload (pc := 15) rfl rfl ?_
        refine q_callV (pc := 17) _ rfl rfl rfl (by exact HR.c H hl _ rfl) rfl (Nat.le_of_ble_eq_true rfl) (by omega) _ rfl ?_
        refine m_behind (by omega) H hl N T hk h9 (by omega) ?_
        intro h s1 H f1 N
        refine q_istore (pc := 20) [_, _, _, _, _, _] rfl (Nat.le_of_ble_eq_true rfl) rfl ?_
        refine q_iload (pc := 22) rfl rfl ?_
        refine q_iload_n (pc := 24) rfl rfl ?_
        first | refine n_icmple (pc := 25) rfl (by omega) (by omega) (fun h25 => ?_) (fun h25 => ?_) | refine q_icmple (pc := 25) rfl (fun h25 => ?_) (fun h25 => ?_)
        · first
          | (exfalso; omega (config := {splitDisjunctions := false}))
          | skip
            refine q_iload_n (pc := 33) rfl rfl ?_
            refine q_istore_n (pc := 34) [_, _, _, _, _, _] rfl (Nat.le_of_ble_eq_true rfl) rfl ?_
            refine q_iload (pc := 35) rfl rfl ?_
            refine q_iload_n (pc := 37) rfl rfl ?_
            first | refine n_max (pc := 38) rfl rfl (by omega) (by omega) ?_ | refine q_max (pc := 38) rfl rfl ?_
            refine q_istore_n (pc := 41) [_, _, _, _, _, _] rfl (Nat.le_of_ble_eq_true rfl) rfl ?_
            first | refine n_iinc (pc := 42) rfl [_, _, _, _, _, _] 1 (by decide) rfl rfl ?_ | refine q_iinc (pc := 42) [_, _, _, _, _, _] (1) rfl rfl (by decide) rfl ?_
            refine q_goto (pc := 45) rfl ?_
            have ih := m_worstL hd hl hk h9 T0 kk m (j + 2) (by omega) h s1 H (f.tr f1) N (some (.int (nI (bhN C E β (j + 1)))))
            rw [show wrV (bhN C E β) (j + 2) = nI (wrs (bhN C E β) (j + 1)).1 from if_neg (by omega), show wrW (bhN C E β) (j + 2) = nI (wrs (bhN C E β) (j + 1)).2 from if_neg (by omega), wrs] at ih
            first
            | (have q25 : bhN C E β (j + 1) ≤ (wrs (bhN C E β) j).2 := h25
               rw [if_neg (by omega)] at ih
               rw [show max (bhN C E β (j + 1)) (wrs (bhN C E β) j).2 = (wrs (bhN C E β) j).2 by omega]
               exact ih)
            | (have q25 : (wrs (bhN C E β) j).2 < bhN C E β (j + 1) := h25
               rw [if_pos q25] at ih
               rw [show max (bhN C E β (j + 1)) (wrs (bhN C E β) j).2 = bhN C E β (j + 1) by omega]
               exact ih)
        · first
          | (exfalso; omega (config := {splitDisjunctions := false}))
          | skip
            refine q_iload (pc := 28) rfl rfl ?_
            refine q_goto (pc := 30) rfl ?_
            refine q_istore_n (pc := 34) [_, _, _, _, _, _] rfl (Nat.le_of_ble_eq_true rfl) rfl ?_
            refine q_iload (pc := 35) rfl rfl ?_
            refine q_iload_n (pc := 37) rfl rfl ?_
            first | refine n_max (pc := 38) rfl rfl (by omega) (by omega) ?_ | refine q_max (pc := 38) rfl rfl ?_
            refine q_istore_n (pc := 41) [_, _, _, _, _, _] rfl (Nat.le_of_ble_eq_true rfl) rfl ?_
            first | refine n_iinc (pc := 42) rfl [_, _, _, _, _, _] 1 (by decide) rfl rfl ?_ | refine q_iinc (pc := 42) [_, _, _, _, _, _] (1) rfl rfl (by decide) rfl ?_
            refine q_goto (pc := 45) rfl ?_
            have ih := m_worstL hd hl hk h9 T0 kk m (j + 2) (by omega) h s1 H (f.tr f1) N (some (.int (nI (bhN C E β (j + 1)))))
            rw [show wrV (bhN C E β) (j + 2) = nI (wrs (bhN C E β) (j + 1)).1 from if_neg (by omega), show wrW (bhN C E β) (j + 2) = nI (wrs (bhN C E β) (j + 1)).2 from if_neg (by omega), wrs] at ih
            first
            | (have q25 : bhN C E β (j + 1) ≤ (wrs (bhN C E β) j).2 := h25
               rw [if_neg (by omega)] at ih
               rw [show max (bhN C E β (j + 1)) (wrs (bhN C E β) j).2 = (wrs (bhN C E β) j).2 by omega]
               exact ih)
            | (have q25 : (wrs (bhN C E β) j).2 < bhN C E β (j + 1) := h25
               rw [if_pos q25] at ih
               rw [show max (bhN C E β (j + 1)) (wrs (bhN C E β) j).2 = bhN C E β (j + 1) by omega]
               exact ih)
termination_by m
theorem m_worstE {w : Nat} {u v : Int32} (hw : w ≤ 10) (hq : Q (some (.int (if w = 3 then u else v))) h) (z4 z5 : Option Value) : wq d 184 48 [some (.ref 54), some (.int (nI w)), some (.int u), some (.int v), z4, z5] [] h Q := by
  refine q_iload_n (pc := 48) rfl rfl ?_
  refine q_iconst (pc := 49) rfl (nI 3) (by decide) ?_
  first | refine n_icmpne (pc := 50) rfl (by omega) (by omega) (fun h50 => ?_) (fun h50 => ?_) | refine q_icmpne (pc := 50) rfl (fun h50 => ?_) (fun h50 => ?_)
  · first
    | (exfalso; omega (config := {splitDisjunctions := false}))
    | exact absurd rfl h50
    | skip
      refine q_iload_n (pc := 57) rfl rfl ?_
      refine q_iret (pc := 58) rfl (rfl) ?_
      first
      | (rw [if_pos (by omega)] at hq; exact hq)
      | (rw [if_neg (by omega)] at hq; exact hq)
  · first
    | (exfalso; omega (config := {splitDisjunctions := false}))
    | exact absurd rfl h50
    | skip
      refine q_iload_n (pc := 53) rfl rfl ?_
      refine q_goto (pc := 54) rfl ?_
      refine q_iret (pc := 58) rfl (rfl) ?_
      first
      | (rw [if_pos (by omega)] at hq; exact hq)
      | (rw [if_neg (by omega)] at hq; exact hq)
theorem m_worst {n w : Nat} (hd : 8 ≤ d) (H : HR P h s) (hl : 75 ≤ P.1) (N : NW s β) (T : MT s n C E) (hk : bok β n) (h9 : β 89 ≤ 999) (hw : w ≤ 10) (kk : ∀ h' s', HR P h' s' → gf bS fF s s' → NW s' β → Q (some (.int (if w = 3 then nI (wrs (bhN C E β) 6).1 else nI (bhN C E β (wrs (bhN C E β) 6).1)))) h') : wc d 184 [.ref 54, .int (nI w)] h Q := by
  rw [← wrs_2 (bhN C E β) 6] at kk
  refine wc.go [_, _, _, _, _, _] rfl ?_
  refine q_iconst (pc := 0) rfl (-1) (by decide) ?_
  refine q_istore_n (pc := 1) [_, _, _, _, _, _] rfl (Nat.le_of_ble_eq_true rfl) rfl ?_
  refine q_iconst (pc := 2) rfl (-1) (by decide) ?_
  refine q_istore_n (pc := 3) [_, _, _, _, _, _] rfl (Nat.le_of_ble_eq_true rfl) rfl ?_
  refine q_iconst (pc := 4) rfl (nI 0) (by decide) ?_
  refine q_istore (pc := 5) [_, _, _, _, _, _] rfl (Nat.le_of_ble_eq_true rfl) rfl ?_
  refine m_worstL (by omega) hl hk h9 T (fun h' s' z5 H f N => ?_) 7 0 (by omega) h s H gf.rf N _
  exact m_worstE hw (kk _ _ H f N) _ _
theorem n_ldiv (hc : mx_tb k pc = some (.ldiv, a, v)) (hi : i < 2 ^ 63) (h0 : 0 < j) (hj : j < 2 ^ 63) (kk : wq d k (pc + 1) L (.long (lN (i / j)) :: r) h Q) : wq d k pc L (.long (lN j) :: .long (lN i) :: r) h Q := q_ldiv hc (fun e => by have := (pk_lEQ (b := 0) hj (by decide)).mp e; omega) (by rw [pk_lDiv hi h0 hj]; exact kk)
theorem n_lrem (hc : mx_tb k pc = some (.lrem, a, v)) (hi : i < 2 ^ 63) (h0 : 0 < j) (hj : j < 2 ^ 63) (kk : wq d k (pc + 1) L (.long (lN (i % j)) :: r) h Q) : wq d k pc L (.long (lN j) :: .long (lN i) :: r) h Q := q_lrem hc (fun e => by have := (pk_lEQ (b := 0) hj (by decide)).mp e; omega) (by rw [pk_lRem hi h0 hj]; exact kk)
theorem n_i2l (hc : mx_tb k pc = some (.i2l, a, v)) (hi : i < 2 ^ 31) (kk : wq d k (pc + 1) L (.long (lN i) :: r) h Q) : wq d k pc L (.int (nI i) :: r) h Q := q_i2l hc (by rw [lN_of_nI hi]; exact kk)
theorem m_gcd (n : Nat) : ∀ (i j d : Nat) (h : mx_H) (Q : Option Value → mx_H → Prop), j ≤ n → i < 2 ^ 31 → j < 2 ^ 31 → n + 1 ≤ d → Q (some (.long (lN (Nat.gcd i j)))) h → wc d 194 [.long (lN i), .long (lN j)] h Q := by
  induction n with
  | zero =>
    intro i j d h Q hj hi hj2 hd hq
    obtain rfl : j = 0 := by omega
    rw [Nat.gcd_zero_right] at hq
    refine wc.go [_, _, _, _] rfl ?_
    refine q_lload_n (pc := 0) rfl rfl ?_
    refine q_lconst (pc := 1) rfl (lN 0) (by decide) ?_
    refine q_lcmp (pc := 2) rfl ?_
    refine q_ifne (pc := 3) rfl (fun h3 => ?_) (fun h3 => ?_)
    · exact absurd (lg_cmp0.mpr rfl) h3
    · first
      | (exfalso; omega (config := {splitDisjunctions := false}))
      | exact absurd rfl h3
      | skip
        refine q_lload_n (pc := 6) rfl rfl ?_
        refine q_goto (pc := 7) rfl ?_
        refine q_lret (pc := 17) rfl rfl ?_
        exact hq
  | succ n ih =>
    intro i j d h Q hj hi hj2 hd hq
    refine wc.go [_, _, _, _] rfl ?_
    refine q_lload_n (pc := 0) rfl rfl ?_
    refine q_lconst (pc := 1) rfl (lN 0) (by decide) ?_
    refine q_lcmp (pc := 2) rfl ?_
    refine q_ifne (pc := 3) rfl (fun h3 => ?_) (fun h3 => ?_)
    · have h0 : 0 < j := by
        rcases Nat.eq_zero_or_pos j with e | e
        · subst e
          exact absurd (lg_cmp0.mpr rfl) h3
        · exact e
      have hm := Nat.mod_lt i h0
      first
      | (exfalso; omega (config := {splitDisjunctions := false}))
      | exact absurd rfl h3
      | skip
        refine q_lload_n (pc := 10) rfl rfl ?_
        refine q_lload_n (pc := 11) rfl rfl ?_
        refine q_lload_n (pc := 12) rfl rfl ?_
        refine n_lrem (pc := 13) rfl (by omega) h0 (by omega) ?_
        refine q_callS (pc := 14) _ (by decide) rfl rfl rfl rfl (Nat.le_of_ble_eq_true rfl) (by omega) _ rfl ?_
        refine ih j (i % j) (d - 1) h _ (by omega) (by omega) (by omega) (by omega) ?_
        rw [show Nat.gcd j (i % j) = Nat.gcd i j by rw [Nat.gcd_comm, ← Nat.gcd_rec, Nat.gcd_comm]]
        refine q_lret (pc := 17) rfl rfl ?_
        exact hq
    · have h0 := (pk_lEQ (b := 0) (by omega) (by decide)).mp (lg_cmp0.mp h3)
      subst h0
      rw [Nat.gcd_zero_right] at hq
      first
      | (exfalso; omega (config := {splitDisjunctions := false}))
      | exact absurd rfl h3
      | skip
        refine q_lload_n (pc := 6) rfl rfl ?_
        refine q_goto (pc := 7) rfl ?_
        refine q_lret (pc := 17) rfl rfl ?_
        exact hq
theorem m_chanceL {N0 k0 n : Nat} {z4 : Int32} (hd : 10 ≤ d) (hl : 75 ≤ P.1) (hk : bok β n) (h9 : β 89 ≤ 999) (hN : N0 ≤ 20) (hk0 : k0 ≤ 36) {s0 : mx_St} (T0 : MT s0 n C E) (kk : ∀ h' s', HR P h' s' → gf bS fF s0 s' → NW s' β → wq d 208 74 [some (.ref 54), some (.int x), some (.int (nI N0)), some (.int (nI k0)), some (.int z4), some (.long (lN (cntf (chc C E β x k0) N0))), none, some (.int (nI N0)), none] [] h' Q) (m i : Nat) (hi : i + m = N0) (h : mx_H) (s : mx_St) (H : HR P h s) (f : gf bS fF s0 s) (N : NW s β) : wq d 208 40 [some (.ref 54), some (.int x), some (.int (nI N0)), some (.int (nI k0)), some (.int z4), some (.long (lN (cntf (chc C E β x k0) i))), none, some (.int (nI i)), none] [] h Q := by
  have T := T0.fr (bS_mf f)
  match m, hi with
  | 0, hi =>
    obtain rfl : i = N0 := by omega
    refine q_iload (pc := 40) rfl rfl ?_
    refine q_iload_n (pc := 42) rfl rfl ?_
    first | refine n_icmpge (pc := 43) rfl (by omega) (by omega) (fun h43 => ?_) (fun h43 => ?_) | refine q_icmpge (pc := 43) rfl (fun h43 => ?_) (fun h43 => ?_)
    · exact kk _ _ H f N
    · first | (exfalso; omega) | exact absurd h43 (nI_pos (by omega)) | exact absurd (nI_pos' (by omega)) h43
  | m + 1, hi =>
    have b4 := bhN_le (C := C) (E := E) (β := β) (r := rch (x + nI i))
    refine q_iload (pc := 40) rfl rfl ?_
    refine q_iload_n (pc := 42) rfl rfl ?_
    first | refine n_icmpge (pc := 43) rfl (by omega) (by omega) (fun h43 => ?_) (fun h43 => ?_) | refine q_icmpge (pc := 43) rfl (fun h43 => ?_) (fun h43 => ?_)
    · first | (exfalso; omega) | exact absurd h43 (nI_pos (by omega)) | exact absurd (nI_pos' (by omega)) h43
    · refine q_lload (pc := 46) rfl rfl ?_
      refine q_aload_n (pc := 48) rfl rfl rfl ?_
      refine q_iload_n (pc := 49) rfl rfl ?_
      refine q_iload (pc := 50) rfl rfl ?_
      refine q_iadd (pc := 52) rfl ?_
      refine q_callV (pc := 53) _ rfl rfl rfl (by exact HR.c H hl _ rfl) rfl (Nat.le_of_ble_eq_true rfl) (by omega) _ rfl ?_
      refine m_drawn0 (by omega) H hl N T hk h9 ?_
      intro h s1 H f1 N
      refine q_iload_n (pc := 56) rfl rfl ?_
      first | refine n_icmplt (pc := 57) rfl (by omega) (by omega) (fun h57 => ?_) (fun h57 => ?_) | refine q_icmplt (pc := 57) rfl (fun h57 => ?_) (fun h57 => ?_)
      · first
        | (exfalso; omega (config := {splitDisjunctions := false}))
        | skip
          refine q_lconst (pc := 64) rfl (lN 0) (by decide) ?_
          refine n_ladd (pc := 65) rfl ?_
          refine q_lstore (pc := 66) [_, _, _, _, _, _, _, _, _] rfl (Nat.le_of_ble_eq_true rfl) rfl ?_
          first | refine n_iinc (pc := 68) rfl [_, _, _, _, _, _, _, _, _] 1 (by decide) rfl rfl ?_ | refine q_iinc (pc := 68) [_, _, _, _, _, _, _, _, _] (1) rfl rfl (by decide) rfl ?_
          refine q_goto (pc := 71) rfl ?_
          have ih := m_chanceL hd hl hk h9 hN hk0 T0 kk m (i + 1) (by omega) h s1 H (f.tr f1) N
          rw [cntf] at ih
          first
          | (have q57 : bhN C E β (rch (x + nI i)) < k0 := h57
             rw [show chc C E β x k0 i = false from decide_eq_false (by omega)] at ih
             exact ih)
          | (have q57 : k0 ≤ bhN C E β (rch (x + nI i)) := h57
             rw [show chc C E β x k0 i = true from decide_eq_true (by omega)] at ih
             exact ih)
      · first
        | (exfalso; omega (config := {splitDisjunctions := false}))
        | skip
          refine q_lconst (pc := 60) rfl (lN 1) (by decide) ?_
          refine q_goto (pc := 61) rfl ?_
          refine n_ladd (pc := 65) rfl ?_
          refine q_lstore (pc := 66) [_, _, _, _, _, _, _, _, _] rfl (Nat.le_of_ble_eq_true rfl) rfl ?_
          first | refine n_iinc (pc := 68) rfl [_, _, _, _, _, _, _, _, _] 1 (by decide) rfl rfl ?_ | refine q_iinc (pc := 68) [_, _, _, _, _, _, _, _, _] (1) rfl rfl (by decide) rfl ?_
          refine q_goto (pc := 71) rfl ?_
          have ih := m_chanceL hd hl hk h9 hN hk0 T0 kk m (i + 1) (by omega) h s1 H (f.tr f1) N
          rw [cntf] at ih
          first
          | (have q57 : bhN C E β (rch (x + nI i)) < k0 := h57
             rw [show chc C E β x k0 i = false from decide_eq_false (by omega)] at ih
             exact ih)
          | (have q57 : k0 ≤ bhN C E β (rch (x + nI i)) := h57
             rw [show chc C E β x k0 i = true from decide_eq_true (by omega)] at ih
             exact ih)
termination_by m
theorem m_in1 {n : Nat} (hn : n < 2 ^ 30) (ht : ∀ j, j ≤ n → 1 ≤ j → x = nI j → Q (some (.int 1)) h) (hf : ¬ (rg (n + 1) x < n + 1 ∧ ¬ rg (n + 1) x = 0) → Q (some (.int 0)) h) : wc d 132 [.int x, .int (nI 1), .int (nI n)] h Q := by
  refine c_isIn (fun h1 h2 => ?_) (fun g => hf ?_)
  · obtain ⟨j, hj, rfl⟩ := x_of (Int32.not_lt.mpr (Int32.le_trans (by decide) h1))
    exact ht j (x_le h2 hj (by omega)) (x_le h1 (by decide) hj) rfl
  · rintro ⟨e1, e2⟩
    rcases rgc (n + 1) (by omega) x with ⟨j, hj, rfl, e⟩ | ⟨_, e⟩
    · rw [e.out] at e2
      exact g ⟨(nI_leI (by decide) (by omega)).mpr (by omega), (nI_leI (by omega) (by omega)).mpr (by omega)⟩
    · rw [e.out] at e1
      omega
theorem m_chanceE {N0 q p0 : Nat} {z1 z3 : Option Value} (hd : 38 ≤ d) (hq1 : q ≤ N0) (hN : N0 ≤ 20) (h0 : 0 < N0) (hp0 : p0 ≤ 1) (hz : Hd (rg 2 (nI p0) = p0)) (hq : Q (some (.long (frN q N0 (nI p0)))) h) : wq d 208 74 [some (.ref 54), z1, some (.int (nI N0)), z3, some (.int (nI p0)), some (.long (lN q)), none, some (.int (nI N0)), none] [] h Q := by
  have g0 : 0 < Nat.gcd N0 q := Nat.gcd_pos_of_pos_left q h0
  have g1 := Nat.gcd_le_left q h0
  unfold frN at hq
  rw [hz.out, Nat.gcd_comm q N0] at hq
  generalize hG : Nat.gcd N0 q = G at *
  refine q_iload_n (pc := 74) rfl rfl ?_
  refine n_i2l (pc := 75) rfl (by omega) ?_
  refine q_lload (pc := 76) rfl rfl ?_
  refine q_callS (pc := 78) _ (by decide) rfl rfl rfl rfl (Nat.le_of_ble_eq_true rfl) (by omega) _ rfl ?_
  refine m_gcd 36 N0 q _ _ _ (by omega) (by omega) (by omega) (by omega) ?_
  rw [hG]
  refine q_lstore (pc := 81) [_, _, _, _, _, _, _, _, _] rfl (Nat.le_of_ble_eq_true rfl) rfl ?_
  refine q_iload (pc := 83) rfl rfl ?_
  first | refine n_ifne (pc := 85) rfl (by omega) (fun h85 => ?_) (fun h85 => ?_) | refine q_ifne (pc := 85) rfl (fun h85 => ?_) (fun h85 => ?_)
  · first
    | (exfalso; omega (config := {splitDisjunctions := false}))
    | exact absurd rfl h85
    | skip
      refine q_iload_n (pc := 96) rfl rfl ?_
      refine n_i2l (pc := 97) rfl (by omega) ?_
      refine q_lload (pc := 98) rfl rfl ?_
      refine n_ldiv (pc := 100) rfl (by omega) g0 (by omega) ?_
      refine q_lret (pc := 101) rfl rfl ?_
      first
      | (rw [if_pos (by omega)] at hq; exact hq)
      | (rw [if_neg (by omega), if_pos (by omega)] at hq; exact hq)
  · first
    | (exfalso; omega (config := {splitDisjunctions := false}))
    | exact absurd rfl h85
    | skip
      refine q_lload (pc := 88) rfl rfl ?_
      refine q_lload (pc := 90) rfl rfl ?_
      refine n_ldiv (pc := 92) rfl (by omega) g0 (by omega) ?_
      refine q_goto (pc := 93) rfl ?_
      refine q_lret (pc := 101) rfl rfl ?_
      first
      | (rw [if_pos (by omega)] at hq; exact hq)
      | (rw [if_neg (by omega), if_pos (by omega)] at hq; exact hq)
theorem m_chance (hd : 40 ≤ d) (H : HR P h s) (hl : 75 ≤ P.1) (N : NW s β) (K : AOK P.2.1 β κ ik tp tz σ sz) (Mk : MK s P.2.1 κ ik tp tz C E σ sz cl) (kk : ∀ h' s', HR P h' s' → NW s' β → mf s s' → Q (some (.long (o_chance C E β x y z w))) h') : wc d 208 [.ref 54, .int x, .int y, .int z, .int w] h Q := by
  have K4 := K.1.2.2.1
  have KK := K.1
  have K89 := K.2.1
  refine wc.go [_, _, _, _, _, _, _, _, _] rfl ?_
  refine q_iload_n (pc := 0) rfl rfl ?_
  refine q_iconst (pc := 1) rfl (nI 1) (by decide) ?_
  refine q_bipush (pc := 2) rfl (nI 20) (by decide) ?_
  refine q_callS (pc := 4) _ (by decide) rfl rfl rfl rfl (Nat.le_of_ble_eq_true rfl) (by omega) _ rfl ?_
  refine m_in1 (by decide) (fun m0 hm0 h1 e => ?_) (fun g => ?_)
  · subst e
    have z1 : Hd (rg 21 (nI m0) = m0) := rg_in (by omega) (by decide)
    refine q_ifeq (pc := 7) rfl (fun z => absurd z (by decide)) (fun _ => ?_)
    refine q_iload_n (pc := 10) rfl rfl ?_
    refine q_iconst (pc := 11) rfl (nI 0) (by decide) ?_
    refine q_bipush (pc := 12) rfl (nI 36) (by decide) ?_
    refine q_callS (pc := 14) _ (by decide) rfl rfl rfl rfl (Nat.le_of_ble_eq_true rfl) (by omega) _ rfl ?_
    refine m_in0 (by decide) (fun k0 hk0 e => ?_) (fun g => ?_)
    · subst e
      have z2 : Hd (rg 37 (nI k0) = k0) := rg_in (by omega) (by decide)
      refine q_ifeq (pc := 17) rfl (fun z => absurd z (by decide)) (fun _ => ?_)
      refine q_iload (pc := 20) rfl rfl ?_
      refine q_iconst (pc := 22) rfl (nI 0) (by decide) ?_
      refine q_iconst (pc := 23) rfl (nI 1) (by decide) ?_
      refine q_callS (pc := 24) _ (by decide) rfl rfl rfl rfl (Nat.le_of_ble_eq_true rfl) (by omega) _ rfl ?_
      refine m_in0 (by decide) (fun p0 hp0 e => ?_) (fun g => ?_)
      · subst e
        have z3 : Hd (rg 2 (nI p0) = p0) := rg_in (by omega) (by decide)
        refine q_ifne (pc := 27) rfl (fun _ => ?_) (fun z => absurd z (by decide))
        refine q_lconst (pc := 34) rfl (lN 0) (by decide) ?_
        refine q_lstore (pc := 35) [_, _, _, _, _, _, _, _, _] rfl (Nat.le_of_ble_eq_true rfl) rfl ?_
        refine q_iconst (pc := 37) rfl (nI 0) (by decide) ?_
        refine q_istore (pc := 38) [_, _, _, _, _, _, _, _, _] rfl (Nat.le_of_ble_eq_true rfl) rfl ?_
        refine m_chanceL (by omega) hl KK K89 (by omega) (by omega) Mk.2.2.2.2.1 (fun h' s' H f N => ?_) m0 0 (by omega) h s H gf.rf N
        have e1 : o_chance C E β x (nI m0) (nI k0) (nI p0) = frN (cntf (chc C E β x k0) m0) m0 (nI p0) := by
          unfold o_chance
          rw [z1.out, z2.out, if_pos (by omega)]
        rw [e1] at kk
        exact m_chanceE (by omega) (cntf_le _ _) (by omega) (by omega) hp0 z3 (kk _ _ H N (bS_mf f))
      · have z3 : Hd (rg 2 w = 2) := rg_out g
        refine q_ifne (pc := 27) rfl (fun z => absurd z (by decide)) (fun _ => ?_)
        refine q_ldc2 (pc := 30) rfl (-4611686018427387904) (by decide) ?_
        refine q_lret (pc := 33) rfl rfl ?_
        first
        | (refine eqL (v' := o_chance C E β x (nI m0) (nI k0) w) ?_ (kk _ _ H N mf.rf)
           unfold o_chance
           rw [z1.out, z2.out, if_pos (by omega), frN, z3.out, if_neg (by decide), if_neg (by decide)])
        | (refine eqL (v' := o_chance C E β x (nI m0) z w) ?_ (kk _ _ H N mf.rf)
           unfold o_chance
           rw [z2.out, if_neg (by omega)])
        | (refine eqL (v' := o_chance C E β x y z w) ?_ (kk _ _ H N mf.rf)
           unfold o_chance
           rw [if_neg (fun e => g ⟨e.1, e.2.1⟩)])
    · have z2 : Hd (rg 37 z = 37) := rg_out g
      refine q_ifeq (pc := 17) rfl (fun _ => ?_) (fun z => absurd (by decide) z)
      refine q_ldc2 (pc := 30) rfl (-4611686018427387904) (by decide) ?_
      refine q_lret (pc := 33) rfl rfl ?_
      first
      | (refine eqL (v' := o_chance C E β x (nI m0) (nI k0) w) ?_ (kk _ _ H N mf.rf)
         unfold o_chance
         rw [z1.out, z2.out, if_pos (by omega), frN, z3.out, if_neg (by decide), if_neg (by decide)])
      | (refine eqL (v' := o_chance C E β x (nI m0) z w) ?_ (kk _ _ H N mf.rf)
         unfold o_chance
         rw [z2.out, if_neg (by omega)])
      | (refine eqL (v' := o_chance C E β x y z w) ?_ (kk _ _ H N mf.rf)
         unfold o_chance
         rw [if_neg (fun e => g ⟨e.1, e.2.1⟩)])
  · refine q_ifeq (pc := 7) rfl (fun _ => ?_) (fun z => absurd (by decide) z)
    refine q_ldc2 (pc := 30) rfl (-4611686018427387904) (by decide) ?_
    refine q_lret (pc := 33) rfl rfl ?_
    first
    | (refine eqL (v' := o_chance C E β x (nI m0) (nI k0) w) ?_ (kk _ _ H N mf.rf)
       unfold o_chance
       rw [z1.out, z2.out, if_pos (by omega), frN, z3.out, if_neg (by decide), if_neg (by decide)])
    | (refine eqL (v' := o_chance C E β x (nI m0) z w) ?_ (kk _ _ H N mf.rf)
       unfold o_chance
       rw [z2.out, if_neg (by omega)])
    | (refine eqL (v' := o_chance C E β x y z w) ?_ (kk _ _ H N mf.rf)
       unfold o_chance
       rw [if_neg (fun e => g ⟨e.1, e.2.1⟩)])
theorem m_shareL {r : Nat} {z2 : Int32} (hd : 2 ≤ d) (H : HR P h s) (hl : 75 ≤ P.1) (N : NW s β) (hk : ∀ i, i < 72 → β i ≤ 9) (hr : r < 6) {all : Int32} (kk : wq d 195 74 [some (.ref 54), some (.int (nI r)), some (.int z2), some (.int all), some (.int (nI (cntf (shN β r) 6))), some (.int (nI 6)), none] [] h Q) (m i : Nat) (hi : i + m = 6) : wq d 195 37 [some (.ref 54), some (.int (nI r)), some (.int z2), some (.int all), some (.int (nI (cntf (shN β r) i))), some (.int (nI i)), none] [] h Q := by
  match m, hi with
  | 0, hi =>
    obtain rfl : i = 6 := by omega
    refine q_iload (pc := 37) rfl rfl ?_
    refine q_bipush (pc := 39) rfl (nI 6) (by decide) ?_
    first | refine n_icmpge (pc := 41) rfl (by omega) (by omega) (fun h41 => ?_) (fun h41 => ?_) | refine q_icmpge (pc := 41) rfl (fun h41 => ?_) (fun h41 => ?_)
    · exact kk
    · first | (exfalso; omega) | exact absurd h41 (nI_pos (by omega)) | exact absurd (nI_pos' (by omega)) h41
  | m + 1, hi =>
    refine q_iload (pc := 37) rfl rfl ?_
    refine q_bipush (pc := 39) rfl (nI 6) (by decide) ?_
    first | refine n_icmpge (pc := 41) rfl (by omega) (by omega) (fun h41 => ?_) (fun h41 => ?_) | refine q_icmpge (pc := 41) rfl (fun h41 => ?_) (fun h41 => ?_)
    · first | (exfalso; omega) | exact absurd h41 (nI_pos (by omega)) | exact absurd (nI_pos' (by omega)) h41
    · refine q_iload (pc := 44) rfl rfl ?_
      refine q_aload_n (pc := 46) rfl rfl rfl ?_
      refine q_bipush (pc := 47) rfl (nI 6) (by decide) ?_
      refine q_iload_n (pc := 49) rfl rfl ?_
      first | refine n_imul (pc := 50) rfl ?_ | refine q_imul (pc := 50) rfl ?_
      refine q_iload (pc := 51) rfl rfl ?_
      first | refine n_iadd (pc := 53) rfl ?_ | refine q_iadd (pc := 53) rfl ?_
      rw [show 6 * r + i = r * 6 + i by omega]
      refine q_callV (pc := 54) _ rfl rfl rfl (by exact HR.c H hl _ rfl) rfl (Nat.le_of_ble_eq_true rfl) (by omega) _ rfl ?_
      refine m_isWrong H hl N hk (by omega) (fun hw => ?_) (fun hw => ?_)
      · refine q_ifeq (pc := 57) rfl (fun z => absurd z (by decide)) (fun _ => ?_)
        refine q_iconst (pc := 60) rfl (nI 1) (by decide) ?_
        refine q_goto (pc := 61) rfl ?_
        first | refine n_iadd (pc := 65) rfl ?_ | refine q_iadd (pc := 65) rfl ?_
        refine q_istore (pc := 66) [_, _, _, _, _, _, _] rfl (Nat.le_of_ble_eq_true rfl) rfl ?_
        first | refine n_iinc (pc := 68) rfl [_, _, _, _, _, _, _] 1 (by decide) rfl rfl ?_ | refine q_iinc (pc := 68) [_, _, _, _, _, _, _] (1) rfl rfl (by decide) rfl ?_
        refine q_goto (pc := 71) rfl ?_
        have ih := m_shareL hd H hl N hk hr kk m (i + 1) (by omega)
        first
        | (rw [cntf, show shN β r i = true from hw] at ih
           exact ih)
        | (rw [cntf, show shN β r i = false from hw] at ih
           exact ih)
      · refine q_ifeq (pc := 57) rfl (fun _ => ?_) (fun z => absurd (by decide) z)
        refine q_iconst (pc := 64) rfl (nI 0) (by decide) ?_
        first | refine n_iadd (pc := 65) rfl ?_ | refine q_iadd (pc := 65) rfl ?_
        refine q_istore (pc := 66) [_, _, _, _, _, _, _] rfl (Nat.le_of_ble_eq_true rfl) rfl ?_
        first | refine n_iinc (pc := 68) rfl [_, _, _, _, _, _, _] 1 (by decide) rfl rfl ?_ | refine q_iinc (pc := 68) [_, _, _, _, _, _, _] (1) rfl rfl (by decide) rfl ?_
        refine q_goto (pc := 71) rfl ?_
        have ih := m_shareL hd H hl N hk hr kk m (i + 1) (by omega)
        first
        | (rw [cntf, show shN β r i = true from hw] at ih
           exact ih)
        | (rw [cntf, show shN β r i = false from hw] at ih
           exact ih)
termination_by m
theorem m_shareE {q N0 p0 : Nat} {z1 : Option Value} {z5 : Int32} (hd : 38 ≤ d) (hq1 : q ≤ 36) (hN : N0 ≤ 36) (h0 : 0 < N0) (hp0 : p0 ≤ 1) (hz : Hd (rg 2 (nI p0) = p0)) (hq : Q (some (.long (frN q N0 (nI p0)))) h) : wq d 195 74 [some (.ref 54), z1, some (.int (nI p0)), some (.int (nI N0)), some (.int (nI q)), some (.int z5), none] [] h Q := by
  have g0 : 0 < Nat.gcd N0 q := Nat.gcd_pos_of_pos_left q h0
  have g1 := Nat.gcd_le_left q h0
  unfold frN at hq
  rw [hz.out, Nat.gcd_comm q N0] at hq
  generalize hG : Nat.gcd N0 q = G at *
  refine q_iload_n (pc := 74) rfl rfl ?_
  refine n_i2l (pc := 75) rfl (by omega) ?_
  refine q_iload (pc := 76) rfl rfl ?_
  refine n_i2l (pc := 78) rfl (by omega) ?_
  refine q_callS (pc := 79) _ (by decide) rfl rfl rfl rfl (Nat.le_of_ble_eq_true rfl) (by omega) _ rfl ?_
  refine m_gcd 36 N0 q _ _ _ (by omega) (by omega) (by omega) (by omega) ?_
  rw [hG]
  refine q_lstore (pc := 82) [_, _, _, _, _, _, _] rfl (Nat.le_of_ble_eq_true rfl) rfl ?_
  refine q_iload_n (pc := 84) rfl rfl ?_
  first | refine n_ifne (pc := 85) rfl (by omega) (fun h85 => ?_) (fun h85 => ?_) | refine q_ifne (pc := 85) rfl (fun h85 => ?_) (fun h85 => ?_)
  · first
    | (exfalso; omega (config := {splitDisjunctions := false}))
    | exact absurd rfl h85
    | skip
      refine q_iload_n (pc := 97) rfl rfl ?_
      refine n_i2l (pc := 98) rfl (by omega) ?_
      refine q_lload (pc := 99) rfl rfl ?_
      refine n_ldiv (pc := 101) rfl (by omega) g0 (by omega) ?_
      refine q_lret (pc := 102) rfl rfl ?_
      first
      | (rw [if_pos (by omega)] at hq; exact hq)
      | (rw [if_neg (by omega), if_pos (by omega)] at hq; exact hq)
  · first
    | (exfalso; omega (config := {splitDisjunctions := false}))
    | exact absurd rfl h85
    | skip
      refine q_iload (pc := 88) rfl rfl ?_
      refine n_i2l (pc := 90) rfl (by omega) ?_
      refine q_lload (pc := 91) rfl rfl ?_
      refine n_ldiv (pc := 93) rfl (by omega) g0 (by omega) ?_
      refine q_goto (pc := 94) rfl ?_
      refine q_lret (pc := 102) rfl rfl ?_
      first
      | (rw [if_pos (by omega)] at hq; exact hq)
      | (rw [if_neg (by omega), if_pos (by omega)] at hq; exact hq)
theorem m_share (hd : 40 ≤ d) (H : HR P h s) (hl : 75 ≤ P.1) (N : NW s β) (K : AOK P.2.1 β κ ik tp tz σ sz) (kk : ∀ h' s', HR P h' s' → NW s' β → mf s s' → Q (some (.long (o_share β x y))) h') : wc d 195 [.ref 54, .int x, .int y] h Q := by
  have K4 := K.1.2.2.1
  have KK := K.1
  have K89 := K.2.1
  refine wc.go [_, _, _, _, _, _, _] rfl ?_
  refine q_aload_n (pc := 0) rfl rfl rfl ?_
  refine q_callV (pc := 1) _ rfl rfl rfl (by exact HR.c H hl _ rfl) rfl (Nat.le_of_ble_eq_true rfl) (by omega) _ rfl ?_
  have b2 : popN (wbs β) ≤ 36 := cntf_le _ _
  refine m_wrongs (by omega) H hl N KK.1 ?_
  refine q_istore_n (pc := 4) [_, _, _, _, _, _, _] rfl (Nat.le_of_ble_eq_true rfl) rfl ?_
  refine q_iload_n (pc := 5) rfl rfl ?_
  refine q_iconst (pc := 6) rfl (nI 0) (by decide) ?_
  refine q_iconst (pc := 7) rfl (nI 5) (by decide) ?_
  refine q_callS (pc := 8) _ (by decide) rfl rfl rfl rfl (Nat.le_of_ble_eq_true rfl) (by omega) _ rfl ?_
  refine m_in0 (by decide) (fun r hr e => ?_) (fun g => ?_)
  · subst e
    have z1 : Hd (rg 6 (nI r) = r) := rg_in (by omega) (by decide)
    refine q_ifeq (pc := 11) rfl (fun z => absurd z (by decide)) (fun _ => ?_)
    refine q_iload_n (pc := 14) rfl rfl ?_
    refine q_iconst (pc := 15) rfl (nI 0) (by decide) ?_
    refine q_iconst (pc := 16) rfl (nI 1) (by decide) ?_
    refine q_callS (pc := 17) _ (by decide) rfl rfl rfl rfl (Nat.le_of_ble_eq_true rfl) (by omega) _ rfl ?_
    refine m_in0 (by decide) (fun p0 hp0 e => ?_) (fun g => ?_)
    · subst e
      have z3 : Hd (rg 2 (nI p0) = p0) := rg_in (by omega) (by decide)
      refine q_ifeq (pc := 20) rfl (fun z => absurd z (by decide)) (fun _ => ?_)
      refine q_iload_n (pc := 23) rfl rfl ?_
      first | refine n_ifne (pc := 24) rfl (by omega) (fun h24 => ?_) (fun h24 => ?_) | refine q_ifne (pc := 24) rfl (fun h24 => ?_) (fun h24 => ?_)
      · first
        | (exfalso; omega (config := {splitDisjunctions := false}))
        | exact absurd rfl h24
        | skip
          refine q_iconst (pc := 31) rfl (nI 0) (by decide) ?_
          refine q_istore (pc := 32) [_, _, _, _, _, _, _] rfl (Nat.le_of_ble_eq_true rfl) rfl ?_
          refine q_iconst (pc := 34) rfl (nI 0) (by decide) ?_
          refine q_istore (pc := 35) [_, _, _, _, _, _, _] rfl (Nat.le_of_ble_eq_true rfl) rfl ?_
          have e1 : o_share β (nI r) (nI p0) = frN (cntf (shN β r) 6) (popN (wbs β)) (nI p0) := by
            unfold o_share
            rw [z1.out, if_pos (by omega)]
          rw [e1] at kk
          have b3 : cntf (shN β r) 6 ≤ 6 := cntf_le _ _
          exact m_shareL (by omega) H hl N KK.1 (by omega) (m_shareE (by omega) (by omega) b2 (by omega) hp0 z3 (kk _ _ H N mf.rf)) 6 0 (by omega)
      · first
        | (exfalso; omega (config := {splitDisjunctions := false}))
        | exact absurd rfl h24
        | skip
          refine q_ldc2 (pc := 27) rfl (-4611686018427387904) (by decide) ?_
          refine q_lret (pc := 30) rfl rfl ?_
          first
          | (refine eqL (v' := o_share β (nI r) (nI p0)) ?_ (kk _ _ H N mf.rf)
             unfold o_share
             rw [z1.out, if_neg (by omega)])
          | (refine eqL (v' := o_share β (nI r) y) ?_ (kk _ _ H N mf.rf)
             unfold o_share
             rw [z1.out]
             split
             · rw [frN, z3.out, if_neg (by decide), if_neg (by decide)]
             · rfl)
          | (refine eqL (v' := o_share β x y) ?_ (kk _ _ H N mf.rf)
             unfold o_share
             rw [z1.out, if_neg (by omega)])
    · have z3 : Hd (rg 2 y = 2) := rg_out g
      refine q_ifeq (pc := 20) rfl (fun _ => ?_) (fun z => absurd (by decide) z)
      refine q_ldc2 (pc := 27) rfl (-4611686018427387904) (by decide) ?_
      refine q_lret (pc := 30) rfl rfl ?_
      first
      | (refine eqL (v' := o_share β (nI r) (nI p0)) ?_ (kk _ _ H N mf.rf)
         unfold o_share
         rw [z1.out, if_neg (by omega)])
      | (refine eqL (v' := o_share β (nI r) y) ?_ (kk _ _ H N mf.rf)
         unfold o_share
         rw [z1.out]
         split
         · rw [frN, z3.out, if_neg (by decide), if_neg (by decide)]
         · rfl)
      | (refine eqL (v' := o_share β x y) ?_ (kk _ _ H N mf.rf)
         unfold o_share
         rw [z1.out, if_neg (by omega)])
  · have z1 : Hd (rg 6 x = 6) := rg_out g
    refine q_ifeq (pc := 11) rfl (fun _ => ?_) (fun z => absurd (by decide) z)
    refine q_ldc2 (pc := 27) rfl (-4611686018427387904) (by decide) ?_
    refine q_lret (pc := 30) rfl rfl ?_
    first
    | (refine eqL (v' := o_share β (nI r) (nI p0)) ?_ (kk _ _ H N mf.rf)
       unfold o_share
       rw [z1.out, if_neg (by omega)])
    | (refine eqL (v' := o_share β (nI r) y) ?_ (kk _ _ H N mf.rf)
       unfold o_share
       rw [z1.out]
       split
       · rw [frN, z3.out, if_neg (by decide), if_neg (by decide)]
       · rfl)
    | (refine eqL (v' := o_share β x y) ?_ (kk _ _ H N mf.rf)
       unfold o_share
       rw [z1.out, if_neg (by omega)])
theorem m_nearL {c0 w n : Nat} (hd : 8 ≤ d) (hl : 75 ≤ P.1) (hk : bok β n) (hc : c0 < 36) (hw : w < 2) {s0 : mx_St} (T0 : MT s0 n C E) (F : Nat → Nat) (hF : ∀ p, mnN C E β p c0 = F p) (kk : ∀ h' s', HR P h' s' → gf tS tF s0 s' → NW s' β → Q (some (.int (if w = 0 then oc9 (nrs F (β 88)).1 (nrs F (β 88)).1 else oc9 (nrs F (β 88)).1 (nrs F (β 88)).2))) h') (m i : Nat) (hi : i + m = β 88) (h : mx_H) (s : mx_St) (H : HR P h s) (N : NW s β) (f : gf tS tF s0 s) (z6 : Option Value) : wq d 193 27 [some (.ref 54), some (.int (nI c0)), some (.int (nI w)), some (.int (oc9 (nrs F i).1 (nrs F i).1)), some (.int (oc9 (nrs F i).1 (nrs F i).2)), some (.int (nI i)), z6] [] h Q := by
  have K4 := hk.2.2.1
  have T := T0.fr (f.mf (fun i g => by unfold tS at g; unfold mS; omega) (by unfold tF; omega))
  have bF : ∀ i, i < 4 → F i ≤ 200 := fun i hi => by
    rw [← hF i]
    have := mnN_le (C := C) (E := E) hk hi hc
    omega
  obtain ⟨b1, b2⟩ := nrs_b F 4 (by decide) bF i (by omega)
  match m, hi with
  | 0, hi =>
    rw [show β 88 = i by omega] at kk
    refine q_iload (pc := 27) rfl rfl ?_
    refine q_aload_n (pc := 29) rfl rfl rfl ?_
    refine q_callV (pc := 30) _ rfl rfl rfl (by exact HR.c H hl _ rfl) rfl (Nat.le_of_ble_eq_true rfl) (by omega) _ rfl ?_
    refine m_many H hl N ?_
    first | refine n_icmpge (pc := 33) rfl (by omega) (by omega) (fun h33 => ?_) (fun h33 => ?_) | refine q_icmpge (pc := 33) rfl (fun h33 => ?_) (fun h33 => ?_)
    · refine q_iload_n (pc := 70) rfl rfl ?_
      first | refine n_ifne (pc := 71) rfl (by omega) (fun h71 => ?_) (fun h71 => ?_) | refine q_ifne (pc := 71) rfl (fun h71 => ?_) (fun h71 => ?_)
      · first
        | (exfalso; omega (config := {splitDisjunctions := false}))
        | exact absurd rfl h71
        | skip
          refine q_iload (pc := 78) rfl rfl ?_
          refine q_iret (pc := 80) rfl (rfl) ?_
          have e := kk _ _ H f N
          first
          | (rw [if_pos (by omega)] at e
             exact e)
          | (rw [if_neg (by omega)] at e
             exact e)
      · first
        | (exfalso; omega (config := {splitDisjunctions := false}))
        | exact absurd rfl h71
        | skip
          refine q_iload_n (pc := 74) rfl rfl ?_
          refine q_goto (pc := 75) rfl ?_
          refine q_iret (pc := 80) rfl (rfl) ?_
          have e := kk _ _ H f N
          first
          | (rw [if_pos (by omega)] at e
             exact e)
          | (rw [if_neg (by omega)] at e
             exact e)
    · first | (exfalso; omega) | exact absurd h33 (nI_pos (by omega)) | exact absurd (nI_pos' (by omega)) h33
  | m + 1, hi =>
    have bi := bF i (by omega)
    refine q_iload (pc := 27) rfl rfl ?_
    refine q_aload_n (pc := 29) rfl rfl rfl ?_
    refine q_callV (pc := 30) _ rfl rfl rfl (by exact HR.c H hl _ rfl) rfl (Nat.le_of_ble_eq_true rfl) (by omega) _ rfl ?_
    refine m_many H hl N ?_
    first | refine n_icmpge (pc := 33) rfl (by omega) (by omega) (fun h33 => ?_) (fun h33 => ?_) | refine q_icmpge (pc := 33) rfl (fun h33 => ?_) (fun h33 => ?_)
    · first | (exfalso; omega) | exact absurd h33 (nI_pos (by omega)) | exact absurd (nI_pos' (by omega)) h33
    · refine q_aload_n (pc := 36) rfl rfl rfl ?_
      refine q_iload (pc := 37) rfl rfl ?_
      refine q_iload_n (pc := 39) rfl rfl ?_
      refine q_callV (pc := 40) _ rfl rfl rfl (by exact HR.c H hl _ rfl) rfl (Nat.le_of_ble_eq_true rfl) (by omega) _ rfl ?_
      refine m_minutes (by omega) H hl N T hk (by omega) hc ?_
      intro h s1 H f1 tk1
      have N := N.fr f1.1 (by unfold tS; decide)
      rw [hF]
      refine q_istore (pc := 43) [_, _, _, _, _, _, _] rfl (Nat.le_of_ble_eq_true rfl) rfl ?_
      refine q_iload_n (pc := 45) rfl rfl ?_
      refine q_iconst (pc := 46) rfl (-1) (by decide) ?_
      refine q_icmpeq (pc := 47) rfl (fun h47 => ?_) (fun h47 => ?_)
      · have h47 : (nrs F i).1 = 9 := (oc9_m (by omega)).mp h47
        first
        | (exfalso; omega (config := {splitDisjunctions := false}))
        | exact absurd rfl h47
        | skip
          refine q_iload (pc := 57) rfl rfl ?_
          refine q_istore_n (pc := 59) [_, _, _, _, _, _, _] rfl (Nat.le_of_ble_eq_true rfl) rfl ?_
          refine q_iload (pc := 60) rfl rfl ?_
          refine q_istore (pc := 62) [_, _, _, _, _, _, _] rfl (Nat.le_of_ble_eq_true rfl) rfl ?_
          first | refine n_iinc (pc := 64) rfl [_, _, _, _, _, _, _] 1 (by decide) rfl rfl ?_ | refine q_iinc (pc := 64) [_, _, _, _, _, _, _] (1) rfl rfl (by decide) rfl ?_
          refine q_goto (pc := 67) rfl ?_
          first
          | (rw [show nI (nrs F i).2 = oc9 (nrs F i).1 (nrs F i).2 from (if_neg h47).symm]
             have ih := m_nearL hd hl hk hc hw T0 F hF kk m (i + 1) (by omega) h s1 H N (f.tr f1) (some (.int (nI (F i))))
             rw [nrs, if_neg (fun e => e.elim h47 h54)] at ih
             exact ih)
          | (have ih := m_nearL hd hl hk hc hw T0 F hF kk m (i + 1) (by omega) h s1 H N (f.tr f1) (some (.int (nI (F i))))
             rw [nrs, if_pos (by first | exact Or.inl h47 | exact Or.inr h54)] at ih
             rw [show oc9 (i, F i).1 (i, F i).1 = nI i from if_neg (by show ¬ i = 9; omega), show oc9 (i, F i).1 (i, F i).2 = nI (F i) from if_neg (by show ¬ i = 9; omega)] at ih
             exact ih)
      · have h47 : ¬ (nrs F i).1 = 9 := fun e => h47 ((oc9_m (by omega)).mpr e)
        rw [show oc9 (nrs F i).1 (nrs F i).2 = nI (nrs F i).2 from if_neg h47]
        first
        | (exfalso; omega (config := {splitDisjunctions := false}))
        | exact absurd rfl h47
        | skip
          refine q_iload (pc := 50) rfl rfl ?_
          refine q_iload (pc := 52) rfl rfl ?_
          refine q_icmpge (pc := 54) rfl (fun h54 => ?_) (fun h54 => ?_)
          · have h54 : ¬ F i < (nrs F i).2 := Nat.not_lt.mpr (x_le h54 (by omega) (by omega))
            first
            | (exfalso; omega (config := {splitDisjunctions := false}))
            | skip
              first | refine n_iinc (pc := 64) rfl [_, _, _, _, _, _, _] 1 (by decide) rfl rfl ?_ | refine q_iinc (pc := 64) [_, _, _, _, _, _, _] (1) rfl rfl (by decide) rfl ?_
              refine q_goto (pc := 67) rfl ?_
              first
              | (rw [show nI (nrs F i).2 = oc9 (nrs F i).1 (nrs F i).2 from (if_neg h47).symm]
                 have ih := m_nearL hd hl hk hc hw T0 F hF kk m (i + 1) (by omega) h s1 H N (f.tr f1) (some (.int (nI (F i))))
                 rw [nrs, if_neg (fun e => e.elim h47 h54)] at ih
                 exact ih)
              | (have ih := m_nearL hd hl hk hc hw T0 F hF kk m (i + 1) (by omega) h s1 H N (f.tr f1) (some (.int (nI (F i))))
                 rw [nrs, if_pos (by first | exact Or.inl h47 | exact Or.inr h54)] at ih
                 rw [show oc9 (i, F i).1 (i, F i).1 = nI i from if_neg (by show ¬ i = 9; omega), show oc9 (i, F i).1 (i, F i).2 = nI (F i) from if_neg (by show ¬ i = 9; omega)] at ih
                 exact ih)
          · have h54 : F i < (nrs F i).2 := x_nle h54 (by omega) (by omega)
            first
            | (exfalso; omega (config := {splitDisjunctions := false}))
            | skip
              refine q_iload (pc := 57) rfl rfl ?_
              refine q_istore_n (pc := 59) [_, _, _, _, _, _, _] rfl (Nat.le_of_ble_eq_true rfl) rfl ?_
              refine q_iload (pc := 60) rfl rfl ?_
              refine q_istore (pc := 62) [_, _, _, _, _, _, _] rfl (Nat.le_of_ble_eq_true rfl) rfl ?_
              first | refine n_iinc (pc := 64) rfl [_, _, _, _, _, _, _] 1 (by decide) rfl rfl ?_ | refine q_iinc (pc := 64) [_, _, _, _, _, _, _] (1) rfl rfl (by decide) rfl ?_
              refine q_goto (pc := 67) rfl ?_
              first
              | (rw [show nI (nrs F i).2 = oc9 (nrs F i).1 (nrs F i).2 from (if_neg h47).symm]
                 have ih := m_nearL hd hl hk hc hw T0 F hF kk m (i + 1) (by omega) h s1 H N (f.tr f1) (some (.int (nI (F i))))
                 rw [nrs, if_neg (fun e => e.elim h47 h54)] at ih
                 exact ih)
              | (have ih := m_nearL hd hl hk hc hw T0 F hF kk m (i + 1) (by omega) h s1 H N (f.tr f1) (some (.int (nI (F i))))
                 rw [nrs, if_pos (by first | exact Or.inl h47 | exact Or.inr h54)] at ih
                 rw [show oc9 (i, F i).1 (i, F i).1 = nI i from if_neg (by show ¬ i = 9; omega), show oc9 (i, F i).1 (i, F i).2 = nI (F i) from if_neg (by show ¬ i = 9; omega)] at ih
                 exact ih)
termination_by m
theorem m_nearest (hd : 20 ≤ d) (H : HR P h s) (hl : 75 ≤ P.1) (N : NW s β) (K : AOK P.2.1 β κ ik tp tz σ sz) (Mk : MK s P.2.1 κ ik tp tz C E σ sz cl) (kk : ∀ h' s', HR P h' s' → NW s' β → mf s s' → Q (some (.int (o_nearest C E β x y))) h') : wc d 193 [.ref 54, .int x, .int y] h Q := by
  have K4 := K.1.2.2.1
  have KK := K.1
  have K89 := K.2.1
  refine wc.go [_, _, _, _, _, _, _] rfl ?_
  refine q_iload_n (pc := 0) rfl rfl ?_
  refine q_callS (pc := 1) _ (by decide) rfl rfl rfl rfl (Nat.le_of_ble_eq_true rfl) (by omega) _ rfl ?_
  refine m_isCell (by omega) (fun c0 hc0 e => ?_) (fun g => ?_)
  · subst e
    have zc : Hd (rg 36 (nI c0) = c0) := rg_in hc0 (by decide)
    refine q_ifeq (pc := 4) rfl (fun z => absurd z (by decide)) (fun _ => ?_)
    refine q_iload_n (pc := 7) rfl rfl ?_
    refine q_iconst (pc := 8) rfl (nI 0) (by decide) ?_
    refine q_iconst (pc := 9) rfl (nI 1) (by decide) ?_
    refine q_callS (pc := 10) _ (by decide) rfl rfl rfl rfl (Nat.le_of_ble_eq_true rfl) (by omega) _ rfl ?_
    refine m_in0 (by decide) (fun w hw e => ?_) (fun g => ?_)
    · subst e
      have z1 : Hd (rg 2 (nI w) = w) := rg_in (by omega) (by decide)
      refine q_ifne (pc := 13) rfl (fun _ => ?_) (fun z => absurd z (by decide))
      refine q_iconst (pc := 19) rfl (-1) (by decide) ?_
      refine q_istore_n (pc := 20) [_, _, _, _, _, _, _] rfl (Nat.le_of_ble_eq_true rfl) rfl ?_
      refine q_iconst (pc := 21) rfl (-1) (by decide) ?_
      refine q_istore (pc := 22) [_, _, _, _, _, _, _] rfl (Nat.le_of_ble_eq_true rfl) rfl ?_
      refine q_iconst (pc := 24) rfl (nI 0) (by decide) ?_
      refine q_istore (pc := 25) [_, _, _, _, _, _, _] rfl (Nat.le_of_ble_eq_true rfl) rfl ?_
      have e1 : o_nearest C E β (nI c0) (nI w) = if w = 0 then oc9 (nrs (fun p => mnN C E β p c0) (β 88)).1 (nrs (fun p => mnN C E β p c0) (β 88)).1 else oc9 (nrs (fun p => mnN C E β p c0) (β 88)).1 (nrs (fun p => mnN C E β p c0) (β 88)).2 := by
        unfold o_nearest
        rw [zc.out, z1.out, if_pos (by omega)]
      rw [e1] at kk
      exact m_nearL (by omega) hl KK hc0 (by omega) Mk.2.2.2.2.1 _ (fun p => rfl) (fun h' s' H f N => kk _ _ H N (f.mf (fun i g => by unfold tS at g; unfold mS; omega) (by unfold tF; omega))) (β 88) 0 (by omega) h s H N gf.rf _
    · have z1 : Hd (rg 2 y = 2) := rg_out g
      refine q_ifne (pc := 13) rfl (fun z => absurd z (by decide)) (fun _ => ?_)
      refine q_bipush (pc := 16) rfl (-2) (by decide) ?_
      refine q_iret (pc := 18) rfl (rfl) ?_
      first
      | (refine eqQ (v' := o_nearest C E β (nI c0) y) ?_ (kk _ _ H N mf.rf)
         unfold o_nearest
         rw [z1.out, if_neg (by omega)])
      | (refine eqQ (v' := o_nearest C E β x y) ?_ (kk _ _ H N mf.rf)
         unfold o_nearest
         rw [zc.out, if_neg (by omega)])
  · have zc : Hd (rg 36 x = 36) := rg_out g
    refine q_ifeq (pc := 4) rfl (fun _ => ?_) (fun z => absurd (by decide) z)
    refine q_bipush (pc := 16) rfl (-2) (by decide) ?_
    refine q_iret (pc := 18) rfl (rfl) ?_
    first
    | (refine eqQ (v' := o_nearest C E β (nI c0) y) ?_ (kk _ _ H N mf.rf)
       unfold o_nearest
       rw [z1.out, if_neg (by omega)])
    | (refine eqQ (v' := o_nearest C E β x y) ?_ (kk _ _ H N mf.rf)
       unfold o_nearest
       rw [zc.out, if_neg (by omega)])
end P51
