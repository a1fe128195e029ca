/-! ===== the class's ways: all are sent ===== -/
section P39
variable {d k pc a i j c p b t n m part q : Nat} {v : Int} {L L' : mx_L} {st r : List Value} {P : mx_Pm} {h : mx_H} {s : mx_St} {Q : Option Value → mx_H → Prop} {x y w z u : Int32} {β κ : Nat → Nat} {C : Nat → Nat → Int32} {E : Nat → Nat → Nat} {ik tz : Nat} {tp : Nat → Nat} {σ : Nat → Int32} {sz : Nat → Nat} {cl : Nat → Nat → Int32}
/-- the minutes still ahead: so many to come, the first of them, the cells taken -/
def sdN (Kc : Nat → Nat → Nat) (m z : Nat) : Nat → Nat → Nat → Nat
  | 0, _, t => if cntf t.testBit 7 = z then 0 else 1000000
  | n + 1, o, t => mnF (nbt t) (fun i => Kc o i + sdN Kc m z n (o + 1) (t ||| 2 ^ i)) (sdN Kc m z n (o + 1) t) m
theorem sdN_le (Kc : Nat → Nat → Nat) (m z : Nat) : ∀ n o t, sdN Kc m z n o t ≤ 1000000 := by
  intro n
  induction n with
  | zero =>
    intro o t
    unfold sdN
    split <;> omega
  | succ n ih =>
    intro o t
    exact Nat.le_trans (mnF_le _ _ _ _) (ih _ _)
/-- the cell one takes: the first by which it costs no more -/
def pkB (Kc : Nat → Nat → Nat) (m z n o t : Nat) : Nat → Bool := fun i => nbt t i && decide (Kc o i + sdN Kc m z n (o + 1) (t ||| 2 ^ i) = sdN Kc m z (n + 1) o t)
def pkN (Kc : Nat → Nat → Nat) (m z n o t : Nat) : Nat := fnd (pkB Kc m z n o t) m 0
def fgL (Kc : Nat → Nat → Nat) (m z : Nat) : Nat → Nat → Nat → Nat → Nat
  | 0, _, _, _ => 9
  | n + 1, o, t, q => if q = o then (if pkN Kc m z n o t < m then pkN Kc m z n o t else 9) else if pkN Kc m z n o t < m then fgL Kc m z n (o + 1) (t ||| 2 ^ pkN Kc m z n o t) q else fgL Kc m z n (o + 1) t q
def TSA (s : mx_St) (Kc : Nat → Nat → Nat) (m z N k : Nat) : Prop := ∀ o, k ≤ o → o ≤ N → ∀ t, t < 2 ^ m → s 39 (o * 128 + t) = nI (sdN Kc m z (N - o) o t)
def CST (s : mx_St) (Kc : Nat → Nat → Nat) (m k : Nat) : Prop := ∀ o, o < k → ∀ i, i < m → s 40 (o * 7 + i) = nI (Kc o i)
theorem c_costBy {t V kc : Nat} (hd : 1 ≤ d) (H : HR P h s) (hl : 51 ≤ P.1) (ho : p < 4) (hi : i < 7) (ht : t < 128) (ht2 : t ||| 2 ^ i < 128) (e1 : s 40 (p * 7 + i) = nI kc) (e2 : s 39 ((p + 1) * 128 + (t ||| 2 ^ i)) = nI V) (hq : Q (some (.int (nI (kc + V)))) h) : wc d 70 [.ref 37, .int (nI p), .int (nI t), .int (nI i)] h Q := by
  refine wc.go [_, _, _, _, _, _] rfl ?_
  refine q_iload_n (pc := 0) rfl rfl ?_
  refine q_bipush (pc := 1) rfl (nI 7) (by decide) ?_
  first | refine n_imul (pc := 3) rfl ?_ | refine q_imul (pc := 3) rfl ?_
  refine q_iload_n (pc := 4) rfl rfl ?_
  first | refine n_iadd (pc := 5) rfl ?_ | refine q_iadd (pc := 5) rfl ?_
  refine q_istore (pc := 6) [_, _, _, _, _, _] rfl (Nat.le_of_ble_eq_true rfl) rfl ?_
  refine q_iload (pc := 8) rfl rfl ?_
  refine q_iflt (pc := 10) rfl (fun h10 => ?_) (fun h10 => ?_)
  · first | (exfalso; omega) | exact absurd h10 (nI_pos (by omega)) | exact absurd (nI_pos' (by omega)) h10
  · refine q_iload (pc := 13) rfl rfl ?_
    refine q_aload_n (pc := 15) rfl rfl rfl ?_
    refine q_getf (pc := 16) rfl (by exact HR.c H hl _ rfl) rfl rfl ?_
    refine q_alen (pc := 19) rfl (by exact HR.c H hl _ rfl) (by decide) ?_
    refine q_icmpge (pc := 20) rfl (fun h20 => ?_) (fun h20 => ?_)
    · exact absurd h20 (Int32.not_le.mpr ((nI_ltI (by omega) (by decide)).mpr (show p * 7 + i < 28 by omega)))
    · first
      | (exfalso; omega (config := {splitDisjunctions := false}))
      | skip
        refine q_aload_n (pc := 23) rfl rfl rfl ?_
        refine q_getf (pc := 24) rfl (by exact HR.c H hl _ rfl) rfl rfl ?_
        refine q_iload (pc := 27) rfl rfl ?_
        refine n_ild (pc := 29) rfl (by exact HR.la0 H hl rfl rfl) rfl (by omega) (by omega) ?_
        rw [e1]
        refine q_goto (pc := 30) rfl ?_
        refine q_istore (pc := 35) [_, _, _, _, _, _] rfl (Nat.le_of_ble_eq_true rfl) rfl ?_
        refine q_iload (pc := 37) rfl rfl ?_
        refine q_aload_n (pc := 39) rfl rfl rfl ?_
        refine q_iload_n (pc := 40) rfl rfl ?_
        refine q_iconst (pc := 41) rfl (nI 1) (by decide) ?_
        first | refine n_iadd (pc := 42) rfl ?_ | refine q_iadd (pc := 42) rfl ?_
        refine q_sipush (pc := 43) rfl (nI 128) (by decide) ?_
        first | refine n_imul (pc := 46) rfl ?_ | refine q_imul (pc := 46) rfl ?_
        refine q_iload_n (pc := 47) rfl rfl ?_
        refine q_iconst (pc := 48) rfl (nI 1) (by decide) ?_
        refine q_iload_n (pc := 49) rfl rfl ?_
        refine n_ishl1 (pc := 50) rfl (by omega) ?_
        refine n_ior (pc := 51) rfl ?_
        first | refine n_iadd (pc := 52) rfl ?_ | refine q_iadd (pc := 52) rfl ?_
        refine q_callV (pc := 53) _ rfl rfl rfl (by exact HR.c H hl _ rfl) rfl (Nat.le_of_ble_eq_true rfl) (by omega) _ rfl ?_
        refine c_aheadAt H hl (by omega) ?_
        rw [e2]
        first | refine n_iadd (pc := 56) rfl ?_ | refine q_iadd (pc := 56) rfl ?_
        refine q_iret (pc := 57) rfl (rfl) ?_
        exact hq
theorem c_costAL {t m z N : Nat} {Kc : Nat → Nat → Nat} (hd : 2 ≤ d) (H : HR P h s) (hl : 51 ≤ P.1) (hm : m ≤ 7) (w1 : s 37 1 = nI m) (hpN : p < N) (hN : N ≤ 4) (ht : t < 2 ^ m) (hK : ∀ o i, o < 4 → i < m → Kc o i ≤ 109) (hC : CST s Kc m N) (hT : TSA s Kc m z N (p + 1)) {R : Nat} (hR : mnF (nbt t) (fun i => Kc p i + sdN Kc m z (N - (p + 1)) (p + 1) (t ||| 2 ^ i)) (sdN Kc m z (N - (p + 1)) (p + 1) t) m = R) (hq : Q (some (.int (nI R))) h) (n i : Nat) (hi : i + n = m) : wq d 69 17 [some (.ref 37), some (.int (nI p)), some (.int (nI t)), some (.int (nI (mnF (nbt t) (fun i => Kc p i + sdN Kc m z (N - (p + 1)) (p + 1) (t ||| 2 ^ i)) (sdN Kc m z (N - (p + 1)) (p + 1) t) i))), some (.int (nI i))] [] h Q := by
  have p7 := pw7 hm
  have b0 := sdN_le Kc m z (N - (p + 1)) (p + 1) t
  have b1 := mnF_le (nbt t) (fun i => Kc p i + sdN Kc m z (N - (p + 1)) (p + 1) (t ||| 2 ^ i)) (sdN Kc m z (N - (p + 1)) (p + 1) t) i
  match n, hi with
  | 0, hi =>
    obtain rfl : i = m := by omega
    refine q_iload (pc := 17) rfl rfl ?_
    refine q_aload_n (pc := 19) rfl rfl rfl ?_
    refine q_getf (pc := 20) rfl (by first | exact HR.wy H hl w1 | exact HR.X' H hl | exact HR.c H hl _ rfl) rfl rfl ?_
    first | refine n_icmpge (pc := 23) rfl (by omega) (by omega) (fun h23 => ?_) (fun h23 => ?_) | refine q_icmpge (pc := 23) rfl (fun h23 => ?_) (fun h23 => ?_)
    · refine q_iload_n (pc := 54) rfl rfl ?_
      refine q_iret (pc := 55) rfl (rfl) ?_
      rw [hR]
      exact hq
    · first | (exfalso; omega) | exact absurd h23 (nI_pos (by omega)) | exact absurd (nI_pos' (by omega)) h23
  | n + 1, hi =>
    have b3 := hK p i (by omega) (by omega)
    have b4 := sdN_le Kc m z (N - (p + 1)) (p + 1) (t ||| 2 ^ i)
    refine q_iload (pc := 17) rfl rfl ?_
    refine q_aload_n (pc := 19) rfl rfl rfl ?_
    refine q_getf (pc := 20) rfl (by first | exact HR.wy H hl w1 | exact HR.X' H hl | exact HR.c H hl _ rfl) rfl rfl ?_
    first | refine n_icmpge (pc := 23) rfl (by omega) (by omega) (fun h23 => ?_) (fun h23 => ?_) | refine q_icmpge (pc := 23) rfl (fun h23 => ?_) (fun h23 => ?_)
    · first | (exfalso; omega) | exact absurd h23 (nI_pos (by omega)) | exact absurd (nI_pos' (by omega)) h23
    · refine q_iload_n (pc := 26) rfl rfl ?_
      refine q_iload (pc := 27) rfl rfl ?_
      refine q_ishr (pc := 29) rfl ?_
      refine q_iconst (pc := 30) rfl (nI 1) (by decide) ?_
      refine q_iand (pc := 31) rfl ?_
      refine q_ifne (pc := 32) rfl (fun h32 => ?_) (fun h32 => ?_)
      · have h32 : t.testBit i = true := by
          cases e : t.testBit i
          · exact absurd ((shb t (by omega) i (by omega)).mpr e) h32
          · rfl
        first
        | (exfalso; omega (config := {splitDisjunctions := false}))
        | exact absurd rfl h32
        | skip
          first | refine n_iinc (pc := 48) rfl [_, _, _, _, _] 1 (by decide) rfl rfl ?_ | refine q_iinc (pc := 48) [_, _, _, _, _] (1) rfl rfl (by decide) rfl ?_
          refine q_goto (pc := 51) rfl ?_
          first
          | (have ih := c_costAL (z := z) hd H hl hm w1 hpN hN ht hK hC hT hR hq n (i + 1) (by omega)
             rw [mnF, if_neg (by unfold nbt; rw [h32]; decide)] at ih
             exact ih)
          | (have ih := c_costAL (z := z) hd H hl hm w1 hpN hN ht hK hC hT hR hq n (i + 1) (by omega)
             rw [mnF, if_pos (by unfold nbt; rw [h32]; decide)] at ih
             exact ih)
      · have h32 : t.testBit i = false := (shb t (by omega) i (by omega)).mp h32
        have o1 := st_or m (by omega) t ht i (by omega) h32
        first
        | (exfalso; omega (config := {splitDisjunctions := false}))
        | exact absurd rfl h32
        | skip
          refine q_iload_n (pc := 35) rfl rfl ?_
          refine q_aload_n (pc := 36) rfl rfl rfl ?_
          refine q_iload_n (pc := 37) rfl rfl ?_
          refine q_iload_n (pc := 38) rfl rfl ?_
          refine q_iload (pc := 39) rfl rfl ?_
          refine q_callV (pc := 41) _ rfl rfl rfl (by first | exact HR.wy H hl w1 | exact HR.X' H hl | exact HR.c H hl _ rfl) rfl (Nat.le_of_ble_eq_true rfl) (by omega) _ rfl ?_
          refine c_costBy (V := sdN Kc m z (N - (p + 1)) (p + 1) (t ||| 2 ^ i)) (by omega) H hl (by omega) (by omega) (by omega) (by omega) (hC p hpN i (by omega)) (hT (p + 1) (Nat.le_refl _) (by omega) _ o1.1) ?_
          first | refine n_min (pc := 44) rfl rfl (by omega) (by omega) ?_ | refine q_min (pc := 44) rfl rfl ?_
          refine q_istore_n (pc := 47) [_, _, _, _, _] rfl (Nat.le_of_ble_eq_true rfl) rfl ?_
          first | refine n_iinc (pc := 48) rfl [_, _, _, _, _] 1 (by decide) rfl rfl ?_ | refine q_iinc (pc := 48) [_, _, _, _, _] (1) rfl rfl (by decide) rfl ?_
          refine q_goto (pc := 51) rfl ?_
          first
          | (have ih := c_costAL (z := z) hd H hl hm w1 hpN hN ht hK hC hT hR hq n (i + 1) (by omega)
             rw [mnF, if_neg (by unfold nbt; rw [h32]; decide)] at ih
             exact ih)
          | (have ih := c_costAL (z := z) hd H hl hm w1 hpN hN ht hK hC hT hR hq n (i + 1) (by omega)
             rw [mnF, if_pos (by unfold nbt; rw [h32]; decide)] at ih
             exact ih)
termination_by n
theorem c_costA {t m z N : Nat} {Kc : Nat → Nat → Nat} (hd : 2 ≤ d) (H : HR P h s) (hl : 51 ≤ P.1) (hm : m ≤ 7) (w1 : s 37 1 = nI m) (hpN : p < N) (hN : N ≤ 4) (ht : t < 2 ^ m) (hK : ∀ o i, o < 4 → i < m → Kc o i ≤ 109) (hC : CST s Kc m N) (hT : TSA s Kc m z N (p + 1)) (hq : Q (some (.int (nI (sdN Kc m z (N - p) p t)))) h) : wc d 69 [.ref 37, .int (nI p), .int (nI t)] h Q := by
  have p7 := pw7 hm
  rw [show N - p = N - (p + 1) + 1 by omega, sdN] at hq
  refine wc.go [_, _, _, _, _] rfl ?_
  refine q_aload_n (pc := 0) rfl rfl rfl ?_
  refine q_iload_n (pc := 1) rfl rfl ?_
  refine q_iconst (pc := 2) rfl (nI 1) (by decide) ?_
  first | refine n_iadd (pc := 3) rfl ?_ | refine q_iadd (pc := 3) rfl ?_
  refine q_sipush (pc := 4) rfl (nI 128) (by decide) ?_
  first | refine n_imul (pc := 7) rfl ?_ | refine q_imul (pc := 7) rfl ?_
  refine q_iload_n (pc := 8) rfl rfl ?_
  first | refine n_iadd (pc := 9) rfl ?_ | refine q_iadd (pc := 9) rfl ?_
  refine q_callV (pc := 10) _ rfl rfl rfl (by exact HR.c H hl _ rfl) rfl (Nat.le_of_ble_eq_true rfl) (by omega) _ rfl ?_
  refine c_aheadAt H hl (by omega) ?_
  rw [hT (p + 1) (Nat.le_refl _) (by omega) t ht]
  refine q_istore_n (pc := 13) [_, _, _, _, _] rfl (Nat.le_of_ble_eq_true rfl) rfl ?_
  refine q_iconst (pc := 14) rfl (nI 0) (by decide) ?_
  refine q_istore (pc := 15) [_, _, _, _, _] rfl (Nat.le_of_ble_eq_true rfl) rfl ?_
  exact c_costAL (z := z) hd H hl hm w1 hpN hN ht hK hC hT rfl hq m 0 (by omega)
def kcs (C : Nat → Nat → Int32) (E : Nat → Nat → Nat) (β : Nat → Nat) : Nat → Nat → Nat := fun q i => mnN C E β q (wrI β i)
theorem kcs_le {q i : Nat} (K : AOK n β κ ik tp tz σ sz) (hq : q < 4) : kcs C E β q i ≤ 109 := mnN_le K.1 hq (wrI_lt i)
theorem c_weighL (hd : 5 ≤ d) (hl : 51 ≤ P.1) (K : AOK P.2.1 β κ ik tp tz σ sz) (hp : p < 4) {m : Nat} (hm : m ≤ 7) {s0 : mx_St} (kk : ∀ h' s', HR P h' s' → CA P s' β κ ik tp tz C E σ sz cl → sf s0 s' (fun i => i = 40 ∨ (33 ≤ i ∧ i < 36)) → (∀ i, i < m → s' 40 (p * 7 + i) = nI (kcs C E β p i)) → (∀ j, j < p * 7 → s' 40 j = s0 40 j) → Q none h') (n i : Nat) (hi : i + n = m) (h : mx_H) (s : mx_St) (H : HR P h s) (A : CA P s β κ ik tp tz C E σ sz cl) (hs : sf s0 s (fun i => i = 40 ∨ (33 ≤ i ∧ i < 36))) (hW : WS s0 m (wrI β)) (c1 : ∀ j, j < i → s 40 (p * 7 + j) = nI (kcs C E β p j)) (c2 : ∀ j, j < p * 7 → s 40 j = s0 40 j) (z6 : Option Value) : wq d 68 10 [some (.ref 37), some (.ref 1), some (.ref 31), some (.int (nI p)), some (.ref (1 + 4 + p)), some (.int (nI i)), z6] [] h Q := by
  have w1 : s 37 1 = nI m := (congrFun (hs 37 (by omega)) 1).trans hW.1
  match n, hi with
  | 0, hi =>
    obtain rfl : i = m := by omega
    refine q_iload (pc := 10) rfl rfl ?_
    refine q_aload_n (pc := 12) rfl rfl rfl ?_
    refine q_getf (pc := 13) rfl (by first | exact HR.wy H hl w1 | exact HR.X' H hl | exact HR.B H hl isB1 A.1 | exact HR.O H hl isB1 A.1 hp | exact HR.c H hl _ rfl) rfl rfl ?_
    first | refine n_icmpge (pc := 16) rfl (by omega) (by omega) (fun h16 => ?_) (fun h16 => ?_) | refine q_icmpge (pc := 16) rfl (fun h16 => ?_) (fun h16 => ?_)
    · refine q_vret (pc := 74) rfl rfl ?_
      exact kk _ _ H A hs c1 c2
    · first | (exfalso; omega) | exact absurd h16 (nI_pos (by omega)) | exact absurd (nI_pos' (by omega)) h16
  | n + 1, hi =>
    refine q_iload (pc := 10) rfl rfl ?_
    refine q_aload_n (pc := 12) rfl rfl rfl ?_
    refine q_getf (pc := 13) rfl (by first | exact HR.wy H hl w1 | exact HR.X' H hl | exact HR.B H hl isB1 A.1 | exact HR.O H hl isB1 A.1 hp | exact HR.c H hl _ rfl) rfl rfl ?_
    first | refine n_icmpge (pc := 16) rfl (by omega) (by omega) (fun h16 => ?_) (fun h16 => ?_) | refine q_icmpge (pc := 16) rfl (fun h16 => ?_) (fun h16 => ?_)
    · first | (exfalso; omega) | exact absurd h16 (nI_pos (by omega)) | exact absurd (nI_pos' (by omega)) h16
    · refine q_iload_n (pc := 19) rfl rfl ?_
      refine q_bipush (pc := 20) rfl (nI 7) (by decide) ?_
      first | refine n_imul (pc := 22) rfl ?_ | refine q_imul (pc := 22) rfl ?_
      refine q_iload (pc := 23) rfl rfl ?_
      first | refine n_iadd (pc := 25) rfl ?_ | refine q_iadd (pc := 25) rfl ?_
      refine q_istore (pc := 26) [_, _, _, _, _, _, _] rfl (Nat.le_of_ble_eq_true rfl) rfl ?_
      refine q_aload (pc := 28) rfl rfl rfl ?_
      refine q_ifnull (pc := 30) rfl ?_
      refine q_iload (pc := 33) rfl rfl ?_
      refine q_iflt (pc := 35) rfl (fun h35 => ?_) (fun h35 => ?_)
      · first | (exfalso; omega) | exact absurd h35 (nI_pos (by omega)) | exact absurd (nI_pos' (by omega)) h35
      · refine q_iload (pc := 38) rfl rfl ?_
        refine q_aload_n (pc := 40) rfl rfl rfl ?_
        refine q_getf (pc := 41) rfl (by first | exact HR.wy H hl w1 | exact HR.X' H hl | exact HR.B H hl isB1 A.1 | exact HR.O H hl isB1 A.1 hp | exact HR.c H hl _ rfl) rfl rfl ?_
        refine q_alen (pc := 44) rfl (by first | exact HR.wy H hl w1 | exact HR.X' H hl | exact HR.B H hl isB1 A.1 | exact HR.O H hl isB1 A.1 hp | exact HR.c H hl _ rfl) (by decide) ?_
        refine q_icmpge (pc := 45) rfl (fun h45 => ?_) (fun h45 => ?_)
        · exact absurd h45 (Int32.not_le.mpr ((nI_ltI (by omega) (by decide)).mpr (show p * 7 + i < 28 by omega)))
        · first
          | (exfalso; omega (config := {splitDisjunctions := false}))
          | skip
            refine q_aload_n (pc := 48) rfl rfl rfl ?_
            refine q_getf (pc := 49) rfl (by first | exact HR.wy H hl w1 | exact HR.X' H hl | exact HR.B H hl isB1 A.1 | exact HR.O H hl isB1 A.1 hp | exact HR.c H hl _ rfl) rfl rfl ?_
            refine q_iload (pc := 52) rfl rfl ?_
            refine q_aload_n (pc := 54) rfl rfl rfl ?_
            refine q_aload_n (pc := 55) rfl rfl rfl ?_
            refine q_aload (pc := 56) rfl rfl rfl ?_
            refine q_aload_n (pc := 58) rfl rfl rfl ?_
            refine q_iload (pc := 59) rfl rfl ?_
            refine q_callV (pc := 61) _ rfl rfl rfl (by first | exact HR.wy H hl w1 | exact HR.X' H hl | exact HR.B H hl isB1 A.1 | exact HR.O H hl isB1 A.1 hp | exact HR.c H hl _ rfl) rfl (Nat.le_of_ble_eq_true rfl) (by omega) _ rfl ?_
            refine c_cellAt H hl (by omega) ?_
            rw [hs 38 (by omega), hW.2 i (by omega)]
            refine q_callV (pc := 64) _ rfl rfl rfl (by first | exact HR.wy H hl w1 | exact HR.X' H hl | exact HR.B H hl isB1 A.1 | exact HR.O H hl isB1 A.1 hp | exact HR.c H hl _ rfl) rfl (Nat.le_of_ble_eq_true rfl) (by omega) _ rfl ?_
            refine c_minutesOf (by omega) H hl isB1 A.1 A.2.2.2.2.2.1 K.1 hp (wrI_lt i) ?_
            intro h s1 H k0
            obtain ⟨A, k1⟩ := th9 A k0 (fun i g => Or.inr (by omega))
            refine r_ist2 (pc := 67) rfl H hl rfl (fun _ => rfl) rfl (by omega) (by omega) ?_
            intro h H
            first | refine n_iinc (pc := 68) rfl [_, _, _, _, _, _, _] 1 (by decide) rfl rfl ?_ | refine q_iinc (pc := 68) [_, _, _, _, _, _, _] (1) rfl rfl (by decide) rfl ?_
            refine q_goto (pc := 71) rfl ?_
            refine c_weighL hd hl K hp hm kk n (i + 1) (by omega) h _ H (th9 A (S := fun i => 33 ≤ i ∧ i < 42) (sf.rf.st (s1 := s1) (b := 40) (j := p * 7 + i) (v := nI (mnN C E β p (wrI β i))) (by omega)) (fun i g => Or.inr g)).1 ((hs.tr (k0.mono (fun i g => Or.inr g))).st (by omega)) hW (fun j hj => ?_) (fun j hj => ?_) _
            · by_cases e : j = i
              · subst e
                exact stv_a
              · rw [stv_o (by omega), k0 40 (by omega)]
                exact c1 j (by omega)
            · rw [stv_o (by omega), k0 40 (by omega)]
              exact c2 j hj
termination_by n
theorem c_weigh (hd : 5 ≤ d) (hl : 51 ≤ P.1) (K : AOK P.2.1 β κ ik tp tz σ sz) (hp : p < β 88) {m : Nat} (hm : m ≤ 7) (H : HR P h s) (A : CA P s β κ ik tp tz C E σ sz cl) (hW : WS s m (wrI β)) (kk : ∀ h' s', HR P h' s' → CA P s' β κ ik tp tz C E σ sz cl → sf s s' (fun i => i = 40 ∨ (33 ≤ i ∧ i < 36)) → (∀ i, i < m → s' 40 (p * 7 + i) = nI (kcs C E β p i)) → (∀ j, j < p * 7 → s' 40 j = s 40 j) → Q none h') : wc d 68 [.ref 37, .ref 1, .ref 31, .int (nI p)] h Q := by
  have K4 := K.1.2.2.1
  refine wc.go [_, _, _, _, _, _, _] rfl ?_
  refine q_aload_n (pc := 0) rfl rfl rfl ?_
  refine q_iload_n (pc := 1) rfl rfl ?_
  refine q_callV (pc := 2) _ rfl rfl rfl (by first | exact HR.wy H hl w1 | exact HR.X' H hl | exact HR.B H hl isB1 A.1 | exact HR.O H hl isB1 A.1 hp | exact HR.c H hl _ rfl) rfl (Nat.le_of_ble_eq_true rfl) (by omega) _ rfl ?_
  refine c_member H hl isB1 A.1 (fun q hp4 hpβ hxp => ?_) (fun gp => ?_) K4
  · refine q_astore (pc := 5) [_, _, _, _, _, _, _] rfl rfl (Nat.le_of_ble_eq_true rfl) rfl ?_
    refine q_iconst (pc := 7) rfl (nI 0) (by decide) ?_
    refine q_istore (pc := 8) [_, _, _, _, _, _, _] rfl (Nat.le_of_ble_eq_true rfl) rfl ?_
    obtain rfl := x_eq hxp (by omega) (by omega)
    exact c_weighL hd hl K hp4 hm kk m 0 (by omega) h s H A sf.rf hW (fun j hj => by omega) (fun j _ => rfl) _
  · exact (gp.elim (fun e => nI_pos (by omega) e) (fun e => Int32.not_le.mpr ((nI_ltI (by omega) (by omega)).mpr hp) e)).elim
theorem c_sendA (hd : 6 ≤ d) (hl : 51 ≤ P.1) (K : AOK P.2.1 β κ ik tp tz σ sz) {m : Nat} (hm : m ≤ 7) {s0 : mx_St} (hW : WS s0 m (wrI β)) (kk : ∀ h' s' z4, HR P h' s' → CA P s' β κ ik tp tz C E σ sz cl → sf s0 s' (fun i => i = 40 ∨ (33 ≤ i ∧ i < 36)) → CST s' (kcs C E β) m (β 88) → wq d 67 28 [some (.ref 37), some (.ref 1), some (.ref 31), some (.int (nI (β 88))), z4, none, none, none] [] h' Q) (n i : Nat) (hi : i + n = β 88) (h : mx_H) (s : mx_St) (H : HR P h s) (A : CA P s β κ ik tp tz C E σ sz cl) (hs : sf s0 s (fun i => i = 40 ∨ (33 ≤ i ∧ i < 36))) (c1 : CST s (kcs C E β) m i) : wq d 67 8 [some (.ref 37), some (.ref 1), some (.ref 31), some (.int (nI (β 88))), some (.int (nI i)), none, none, none] [] h Q := by
  have K4 := K.1.2.2.1
  match n, hi with
  | 0, hi =>
    have e : i = β 88 := by omega
    refine q_iload (pc := 8) rfl rfl ?_
    refine q_iload_n (pc := 10) rfl rfl ?_
    first | refine n_icmpge (pc := 11) rfl (by omega) (by omega) (fun h11 => ?_) (fun h11 => ?_) | refine q_icmpge (pc := 11) rfl (fun h11 => ?_) (fun h11 => ?_)
    · exact kk _ _ _ H A hs (by rw [← e]; exact c1)
    · first | (exfalso; omega) | exact absurd h11 (nI_pos (by omega)) | exact absurd (nI_pos' (by omega)) h11
  | n + 1, hi =>
    refine q_iload (pc := 8) rfl rfl ?_
    refine q_iload_n (pc := 10) rfl rfl ?_
    first | refine n_icmpge (pc := 11) rfl (by omega) (by omega) (fun h11 => ?_) (fun h11 => ?_) | refine q_icmpge (pc := 11) rfl (fun h11 => ?_) (fun h11 => ?_)
    · first | (exfalso; omega) | exact absurd h11 (nI_pos (by omega)) | exact absurd (nI_pos' (by omega)) h11
    · refine q_aload_n (pc := 14) rfl rfl rfl ?_
      refine q_aload_n (pc := 15) rfl rfl rfl ?_
      refine q_aload_n (pc := 16) rfl rfl rfl ?_
      refine q_iload (pc := 17) rfl rfl ?_
      refine q_callV (pc := 19) _ rfl rfl rfl (by first | exact HR.wy H hl w1 | exact HR.X' H hl | exact HR.B H hl isB1 A.1 | exact HR.O H hl isB1 A.1 hp | exact HR.c H hl _ rfl) rfl (Nat.le_of_ble_eq_true rfl) (by omega) _ rfl ?_
      refine c_weigh (by omega) hl K (by omega) hm H A (hW.fr37 hs (fun i g => by omega)) ?_
      intro h s1 H A k0 q1 q2
      first | refine n_iinc (pc := 22) rfl [_, _, _, _, _, _, _, _] 1 (by decide) rfl rfl ?_ | refine q_iinc (pc := 22) [_, _, _, _, _, _, _, _] (1) rfl rfl (by decide) rfl ?_
      refine q_goto (pc := 25) rfl ?_
      refine c_sendA hd hl K hm hW kk n (i + 1) (by omega) h s1 H A (hs.tr k0) (fun q hq j hj => ?_)
      by_cases e : q = i
      · subst e
        exact q1 j hj
      · rw [q2 (q * 7 + j) (by omega)]
        exact c1 q (by omega) j hj
termination_by n
theorem c_sendB (hd : 2 ≤ d) (hl : 51 ≤ P.1) {m z N : Nat} {Kc : Nat → Nat → Nat} (hm : m ≤ 7) (hN : N ≤ 4) (hz : z ≤ 7) {s0 : mx_St} (kk : ∀ h' s' z6, HR P h' s' → sf s0 s' (fun i => i = 39) → TSA s' Kc m z N N → wq d 67 90 [some (.ref 37), some (.ref 1), some (.ref 31), some (.int (nI N)), some (.int (nI (2 ^ m))), some (.int (nI z)), some (.int z6), none] [] h' Q) (n t : Nat) (hi : t + n = 2 ^ m) (h : mx_H) (s : mx_St) (H : HR P h s) (hs : sf s0 s (fun i => i = 39)) (c1 : ∀ j, j < t → s 39 (N * 128 + j) = nI (sdN Kc m z 0 N j)) : wq d 67 49 [some (.ref 37), some (.ref 1), some (.ref 31), some (.int (nI N)), some (.int (nI (2 ^ m))), some (.int (nI z)), some (.int (nI t)), none] [] h Q := by
  have p7 := pw7 hm
  match n, hi with
  | 0, hi =>
    have e : t = 2 ^ m := by omega
    refine q_iload (pc := 49) rfl rfl ?_
    refine q_iload (pc := 51) rfl rfl ?_
    first | refine n_icmpge (pc := 53) rfl (by omega) (by omega) (fun h53 => ?_) (fun h53 => ?_) | refine q_icmpge (pc := 53) rfl (fun h53 => ?_) (fun h53 => ?_)
    · refine kk _ _ _ H hs (fun q q1 q2 j hj => ?_)
      obtain rfl : q = N := by omega
      rw [Nat.sub_self]
      exact c1 j (by omega)
    · first | (exfalso; omega) | exact absurd h53 (nI_pos (by omega)) | exact absurd (nI_pos' (by omega)) h53
  | n + 1, hi =>
    have b1 : cntf t.testBit 7 ≤ 7 := cntf_le _ _
    refine q_iload (pc := 49) rfl rfl ?_
    refine q_iload (pc := 51) rfl rfl ?_
    first | refine n_icmpge (pc := 53) rfl (by omega) (by omega) (fun h53 => ?_) (fun h53 => ?_) | refine q_icmpge (pc := 53) rfl (fun h53 => ?_) (fun h53 => ?_)
    · first | (exfalso; omega) | exact absurd h53 (nI_pos (by omega)) | exact absurd (nI_pos' (by omega)) h53
    · refine q_aload_n (pc := 56) rfl rfl rfl ?_
      refine q_iload_n (pc := 57) rfl rfl ?_
      refine q_sipush (pc := 58) rfl (nI 128) (by decide) ?_
      first | refine n_imul (pc := 61) rfl ?_ | refine q_imul (pc := 61) rfl ?_
      refine q_iload (pc := 62) rfl rfl ?_
      first | refine n_iadd (pc := 64) rfl ?_ | refine q_iadd (pc := 64) rfl ?_
      refine q_iload (pc := 65) rfl rfl ?_
      refine q_callS (pc := 67) _ (by decide) rfl rfl rfl rfl (Nat.le_of_ble_eq_true rfl) (by omega) _ rfl ?_
      refine i_bitCount (by omega) ?_
      refine q_iload (pc := 70) rfl rfl ?_
      first | refine n_icmpne (pc := 72) rfl (by omega) (by omega) (fun h72 => ?_) (fun h72 => ?_) | refine q_icmpne (pc := 72) rfl (fun h72 => ?_) (fun h72 => ?_)
      · first
        | (exfalso; omega (config := {splitDisjunctions := false}))
        | exact absurd rfl h72
        | skip
          refine q_ldcI (pc := 79) rfl (nI 1000000) (by decide) ?_
          refine q_callV (pc := 81) _ rfl rfl rfl (by first | exact HR.wy H hl w1 | exact HR.X' H hl | exact HR.B H hl isB1 A.1 | exact HR.O H hl isB1 A.1 hp | exact HR.c H hl _ rfl) rfl (Nat.le_of_ble_eq_true rfl) (by omega) _ rfl ?_
          refine c_setAhead H hl (by omega) ?_
          intro h H
          first | refine n_iinc (pc := 84) rfl [_, _, _, _, _, _, _, _] 1 (by decide) rfl rfl ?_ | refine q_iinc (pc := 84) [_, _, _, _, _, _, _, _] (1) rfl rfl (by decide) rfl ?_
          refine q_goto (pc := 87) rfl ?_
          refine c_sendB hd hl hm hN hz kk n (t + 1) (by omega) h _ H (hs.st (by rfl)) (fun j hj => ?_)
          by_cases e : j = t
          · subst e
            rw [stv_a, sdN]
            first
            | rw [if_pos (by omega)]
            | rw [if_neg (by omega)]
          · rw [stv_o (by omega)]
            exact c1 j (by omega)
      · first
        | (exfalso; omega (config := {splitDisjunctions := false}))
        | exact absurd rfl h72
        | skip
          refine q_iconst (pc := 75) rfl (nI 0) (by decide) ?_
          refine q_goto (pc := 76) rfl ?_
          refine q_callV (pc := 81) _ rfl rfl rfl (by first | exact HR.wy H hl w1 | exact HR.X' H hl | exact HR.B H hl isB1 A.1 | exact HR.O H hl isB1 A.1 hp | exact HR.c H hl _ rfl) rfl (Nat.le_of_ble_eq_true rfl) (by omega) _ rfl ?_
          refine c_setAhead H hl (by omega) ?_
          intro h H
          first | refine n_iinc (pc := 84) rfl [_, _, _, _, _, _, _, _] 1 (by decide) rfl rfl ?_ | refine q_iinc (pc := 84) [_, _, _, _, _, _, _, _] (1) rfl rfl (by decide) rfl ?_
          refine q_goto (pc := 87) rfl ?_
          refine c_sendB hd hl hm hN hz kk n (t + 1) (by omega) h _ H (hs.st (by rfl)) (fun j hj => ?_)
          by_cases e : j = t
          · subst e
            rw [stv_a, sdN]
            first
            | rw [if_pos (by omega)]
            | rw [if_neg (by omega)]
          · rw [stv_o (by omega)]
            exact c1 j (by omega)
termination_by n
theorem c_sendI (hd : 3 ≤ d) (hl : 51 ≤ P.1) {m z N : Nat} {Kc : Nat → Nat → Nat} {a5 : Int32} (hm : m ≤ 7) (hN : N ≤ 4) (hp : p < N) (hK : ∀ o i, o < 4 → i < m → Kc o i ≤ 109) {s0 : mx_St} (w0 : s0 37 1 = nI m) (hC : CST s0 Kc m N) (kk : ∀ h' s' z7, HR P h' s' → sf s0 s' (fun i => i = 39) → TSA s' Kc m z N p → wq d 67 137 [some (.ref 37), some (.ref 1), some (.ref 31), some (.int (nI N)), some (.int (nI (2 ^ m))), some (.int a5), some (.int (nI p)), z7] [] h' Q) (n t : Nat) (hi : t + n = 2 ^ m) (h : mx_H) (s : mx_St) (H : HR P h s) (hs : sf s0 s (fun i => i = 39)) (hT : TSA s Kc m z N (p + 1)) (c1 : ∀ j, j < t → s 39 (p * 128 + j) = nI (sdN Kc m z (N - p) p j)) : wq d 67 103 [some (.ref 37), some (.ref 1), some (.ref 31), some (.int (nI N)), some (.int (nI (2 ^ m))), some (.int a5), some (.int (nI p)), some (.int (nI t))] [] h Q := by
  have p7 := pw7 hm
  match n, hi with
  | 0, hi =>
    have e : t = 2 ^ m := by omega
    refine q_iload (pc := 103) rfl rfl ?_
    refine q_iload (pc := 105) rfl rfl ?_
    first | refine n_icmpge (pc := 107) rfl (by omega) (by omega) (fun h107 => ?_) (fun h107 => ?_) | refine q_icmpge (pc := 107) rfl (fun h107 => ?_) (fun h107 => ?_)
    · refine kk _ _ _ H hs (fun q q1 q2 j hj => ?_)
      by_cases e2 : q = p
      · subst e2
        exact c1 j (by omega)
      · exact hT q (by omega) q2 j hj
    · first | (exfalso; omega) | exact absurd h107 (nI_pos (by omega)) | exact absurd (nI_pos' (by omega)) h107
  | n + 1, hi =>
    refine q_iload (pc := 103) rfl rfl ?_
    refine q_iload (pc := 105) rfl rfl ?_
    first | refine n_icmpge (pc := 107) rfl (by omega) (by omega) (fun h107 => ?_) (fun h107 => ?_) | refine q_icmpge (pc := 107) rfl (fun h107 => ?_) (fun h107 => ?_)
    · first | (exfalso; omega) | exact absurd h107 (nI_pos (by omega)) | exact absurd (nI_pos' (by omega)) h107
    · refine q_aload_n (pc := 110) rfl rfl rfl ?_
      refine q_iload (pc := 111) rfl rfl ?_
      refine q_sipush (pc := 113) rfl (nI 128) (by decide) ?_
      first | refine n_imul (pc := 116) rfl ?_ | refine q_imul (pc := 116) rfl ?_
      refine q_iload (pc := 117) rfl rfl ?_
      first | refine n_iadd (pc := 119) rfl ?_ | refine q_iadd (pc := 119) rfl ?_
      refine q_aload_n (pc := 120) rfl rfl rfl ?_
      refine q_iload (pc := 121) rfl rfl ?_
      refine q_iload (pc := 123) rfl rfl ?_
      refine q_callV (pc := 125) _ rfl rfl rfl (by first | exact HR.wy H hl w1 | exact HR.X' H hl | exact HR.B H hl isB1 A.1 | exact HR.O H hl isB1 A.1 hp | exact HR.c H hl _ rfl) rfl (Nat.le_of_ble_eq_true rfl) (by omega) _ rfl ?_
      refine c_costA (z := z) (by omega) H hl hm ((congrFun (hs 37 (by decide)) 1).trans w0) hp hN (by omega) hK (fun q hq i hi => by rw [hs 40 (by decide)]; exact hC q hq i hi) hT ?_
      refine q_callV (pc := 128) _ rfl rfl rfl (by first | exact HR.wy H hl w1 | exact HR.X' H hl | exact HR.B H hl isB1 A.1 | exact HR.O H hl isB1 A.1 hp | exact HR.c H hl _ rfl) rfl (Nat.le_of_ble_eq_true rfl) (by omega) _ rfl ?_
      refine c_setAhead H hl (by omega) ?_
      intro h H
      first | refine n_iinc (pc := 131) rfl [_, _, _, _, _, _, _, _] 1 (by decide) rfl rfl ?_ | refine q_iinc (pc := 131) [_, _, _, _, _, _, _, _] (1) rfl rfl (by decide) rfl ?_
      refine q_goto (pc := 134) rfl ?_
      refine c_sendI (z := z) hd hl hm hN hp hK w0 hC kk n (t + 1) (by omega) h _ H (hs.st (by rfl)) (fun q q1 q2 j hj => ?_) (fun j hj => ?_)
      · rw [stv_o (by omega)]
        exact hT q q1 q2 j hj
      · by_cases e : j = t
        · subst e
          exact stv_a
        · rw [stv_o (by omega)]
          exact c1 j (by omega)
termination_by n
theorem c_sendS {w : Nat} {z0 z1 z2 z3 z4 z7 : Option Value} {a5 : Int32} (kk : wq d 67 95 [z0, z1, z2, z3, z4, some (.int a5), some (.int (nI w + (-1))), z7] [] h Q) : wq d 67 137 [z0, z1, z2, z3, z4, some (.int a5), some (.int (nI w)), z7] [] h Q := by
  refine q_iinc (pc := 137) [_, _, _, _, _, _, _, _] (-1) rfl rfl (by decide) rfl ?_
  refine q_goto (pc := 140) rfl ?_
  exact kk
theorem c_sendO (hd : 3 ≤ d) (hl : 51 ≤ P.1) {m z N : Nat} {Kc : Nat → Nat → Nat} {a5 : Int32} (hm : m ≤ 7) (hN : N ≤ 4) (hK : ∀ o i, o < 4 → i < m → Kc o i ≤ 109) {s0 : mx_St} (w0 : s0 37 1 = nI m) (hC : CST s0 Kc m N) (kk : ∀ h' s' z6 z7, HR P h' s' → sf s0 s' (fun i => i = 39) → TSA s' Kc m z N 0 → wq d 67 143 [some (.ref 37), some (.ref 1), some (.ref 31), some (.int (nI N)), some (.int (nI (2 ^ m))), some (.int a5), some (.int z6), z7] [] h' Q) (k0 : Nat) (hk : k0 ≤ N) (h : mx_H) (s : mx_St) (H : HR P h s) (hs : sf s0 s (fun i => i = 39)) (hT : TSA s Kc m z N k0) (z7 : Option Value) : wq d 67 95 [some (.ref 37), some (.ref 1), some (.ref 31), some (.int (nI N)), some (.int (nI (2 ^ m))), some (.int a5), some (.int (nI k0 + (-1))), z7] [] h Q := by
  have p7 := pw7 hm
  match k0, hk with
  | 0, hk =>
    rw [show nI 0 + (-1) = -1 from by decide]
    refine q_iload (pc := 95) rfl rfl ?_
    refine q_iflt (pc := 97) rfl (fun h97 => ?_) (fun h97 => ?_)
    · first
      | (exfalso; omega (config := {splitDisjunctions := false}))
      | skip
        exact kk _ _ _ _ H hs hT
    · exact absurd (by decide) h97
  | k0 + 1, hk =>
    rw [pk_m1]
    refine q_iload (pc := 95) rfl rfl ?_
    refine q_iflt (pc := 97) rfl (fun h97 => ?_) (fun h97 => ?_)
    · first | (exfalso; omega) | exact absurd h97 (nI_pos (by omega)) | exact absurd (nI_pos' (by omega)) h97
    · refine q_iconst (pc := 100) rfl (nI 0) (by decide) ?_
      refine q_istore (pc := 101) [_, _, _, _, _, _, _, _] rfl (Nat.le_of_ble_eq_true rfl) rfl ?_
      refine c_sendI (z := z) hd hl hm hN (by omega) hK w0 hC (fun h' s' z7 H f t => ?_) (2 ^ m) 0 (by omega) h s H hs hT (fun j hj => by omega)
      exact c_sendS (c_sendO hd hl hm hN hK w0 hC kk k0 (by omega) h' s' H f t _)
termination_by k0
theorem c_folX {m N t : Nat} {cN : Nat} (H : HR P h s) (hl : 51 ≤ P.1) (w1 : s 37 1 = nI m) (hm : m ≤ 7) (hp : p < 4) (hc : cN < 36) (e : s 41 p = nI cN) (z5 : Value) (kk : ∀ z4 z5, wq d 71 111 [some (.ref 37), some (.int (nI N)), some (.int (nI t)), some (.int (nI p)), some (.int z4), some z5] [] h Q) (hi : i ≤ 7) : wq d 71 24 [some (.ref 37), some (.int (nI N)), some (.int (nI t)), some (.int (nI p)), some (.int (nI i)), some z5] [] h Q := by
  refine q_iload (pc := 24) rfl rfl ?_
  refine q_aload_n (pc := 26) rfl rfl rfl ?_
  refine q_getf (pc := 27) rfl (by first | exact HR.wy H hl w1 | exact HR.c H hl _ rfl) rfl rfl ?_
  first | refine n_icmpge (pc := 30) rfl (by omega) (by omega) (fun h30 => ?_) (fun h30 => ?_) | refine q_icmpge (pc := 30) rfl (fun h30 => ?_) (fun h30 => ?_)
  · first
    | (exfalso; omega (config := {splitDisjunctions := false}))
    | skip
      exact kk _ _
  · first
    | (exfalso; omega (config := {splitDisjunctions := false}))
    | skip
      refine q_aload_n (pc := 33) rfl rfl rfl ?_
      refine q_getf (pc := 34) rfl (by first | exact HR.wy H hl w1 | exact HR.c H hl _ rfl) rfl rfl ?_
      refine q_iload_n (pc := 37) rfl rfl ?_
      refine n_ild (pc := 38) rfl (by exact HR.la0 H hl rfl rfl) rfl (by omega) (by omega) ?_
      rw [e]
      refine q_iconst (pc := 39) rfl (-1) (by decide) ?_
      refine q_icmpne (pc := 40) rfl (fun h40 => ?_) (fun h40 => ?_)
      · first
        | (exfalso; omega (config := {splitDisjunctions := false}))
        | exact absurd rfl h40
        | skip
          exact kk _ _
      · exact absurd h40 (nI_m1 (by omega))
theorem c_folI {m z n0 N t : Nat} {Kc : Nat → Nat → Nat} (hd : 2 ≤ d) (hl : 51 ≤ P.1) (hm : m ≤ 7) (hN : p + n0 + 1 = N) (hN4 : N ≤ 4) (ht : t < 2 ^ m) (hK : ∀ o i, o < 4 → i < m → Kc o i ≤ 109) {g : Nat → Nat} (hg : ∀ i, g i < 36) (k1 : pkN Kc m z n0 p t < m → ∀ h' s' z4 z5, HR P h' s' → sf s s' (fun i => i = 41) → s' 41 p = nI (g (pkN Kc m z n0 p t)) → (∀ j, j ≠ p → s' 41 j = s 41 j) → wq d 71 111 [some (.ref 37), some (.int (nI N)), some (.int (nI (t ||| 2 ^ pkN Kc m z n0 p t))), some (.int (nI p)), some (.int z4), some z5] [] h' Q) (k2 : ¬ pkN Kc m z n0 p t < m → ∀ z4 z5, wq d 71 111 [some (.ref 37), some (.int (nI N)), some (.int (nI t)), some (.int (nI p)), some (.int z4), z5] [] h Q) (H : HR P h s) (hW : WS s m g) (hC : CST s Kc m N) (hT : TSA s Kc m z N 0) (e41 : s 41 p = -1) (n i : Nat) (hi : i + n = m) (hno : ∀ j, j < i → pkB Kc m z n0 p t j = false) (z5 : Option Value) : wq d 71 24 [some (.ref 37), some (.int (nI N)), some (.int (nI t)), some (.int (nI p)), some (.int (nI i)), z5] [] h Q := by
  have p7 := pw7 hm
  have w1 := hW.1
  match n, hi with
  | 0, hi =>
    obtain rfl : i = m := by omega
    have e0 : pkN Kc i z n0 p t = 0 + i := fnd_no _ _ _ (fun j _ hj => hno j (by omega))
    refine q_iload (pc := 24) rfl rfl ?_
    refine q_aload_n (pc := 26) rfl rfl rfl ?_
    refine q_getf (pc := 27) rfl (by first | exact HR.wy H hl w1 | exact HR.c H hl _ rfl) rfl rfl ?_
    first | refine n_icmpge (pc := 30) rfl (by omega) (by omega) (fun h30 => ?_) (fun h30 => ?_) | refine q_icmpge (pc := 30) rfl (fun h30 => ?_) (fun h30 => ?_)
    · exact k2 (by omega) _ _
    · first | (exfalso; omega) | exact absurd h30 (nI_pos (by omega)) | exact absurd (nI_pos' (by omega)) h30
  | n + 1, hi =>
    have eT := hT p (Nat.zero_le _) (by omega) t ht
    rw [show N - p = n0 + 1 by omega] at eT
    have b1 := sdN_le Kc m z (n0 + 1) p t
    have b2 := hK p i (by omega) (by omega)
    have b3 := sdN_le Kc m z n0 (p + 1) (t ||| 2 ^ i)
    refine q_iload (pc := 24) rfl rfl ?_
    refine q_aload_n (pc := 26) rfl rfl rfl ?_
    refine q_getf (pc := 27) rfl (by first | exact HR.wy H hl w1 | exact HR.c H hl _ rfl) rfl rfl ?_
    first | refine n_icmpge (pc := 30) rfl (by omega) (by omega) (fun h30 => ?_) (fun h30 => ?_) | refine q_icmpge (pc := 30) rfl (fun h30 => ?_) (fun h30 => ?_)
    · first | (exfalso; omega) | exact absurd h30 (nI_pos (by omega)) | exact absurd (nI_pos' (by omega)) h30
    · refine q_aload_n (pc := 33) rfl rfl rfl ?_
      refine q_getf (pc := 34) rfl (by first | exact HR.wy H hl w1 | exact HR.c H hl _ rfl) rfl rfl ?_
      refine q_iload_n (pc := 37) rfl rfl ?_
      refine n_ild (pc := 38) rfl (by exact HR.la0 H hl rfl rfl) rfl (by omega) (by omega) ?_
      rw [e41]
      refine q_iconst (pc := 39) rfl (-1) (by decide) ?_
      refine q_icmpne (pc := 40) rfl (fun h40 => ?_) (fun h40 => ?_)
      · exact absurd rfl h40
      · first
        | (exfalso; omega (config := {splitDisjunctions := false}))
        | exact absurd rfl h40
        | skip
          refine q_iload_n (pc := 43) rfl rfl ?_
          refine q_iload (pc := 44) rfl rfl ?_
          refine q_ishr (pc := 46) rfl ?_
          refine q_iconst (pc := 47) rfl (nI 1) (by decide) ?_
          refine q_iand (pc := 48) rfl ?_
          refine q_ifne (pc := 49) rfl (fun h49 => ?_) (fun h49 => ?_)
          · have h49 : t.testBit i = true := by
              cases e : t.testBit i
              · exact absurd ((shb t (by omega) i (by omega)).mpr e) h49
              · rfl
            have hpk : pkB Kc m z n0 p t i = false := by unfold pkB nbt; rw [h49]; rfl
            first
            | (exfalso; omega (config := {splitDisjunctions := false}))
            | exact absurd rfl h49
            | skip
              refine q_iconst (pc := 56) rfl (nI 0) (by decide) ?_
              refine q_istore (pc := 57) [_, _, _, _, _, _] rfl (Nat.le_of_ble_eq_true rfl) rfl ?_
              refine q_iload (pc := 59) rfl rfl ?_
              first | refine n_ifeq (pc := 61) rfl (by omega) (fun h61 => ?_) (fun h61 => ?_) | refine q_ifeq (pc := 61) rfl (fun h61 => ?_) (fun h61 => ?_)
              · first
                | (exfalso; omega (config := {splitDisjunctions := false}))
                | exact absurd rfl h61
                | skip
                  first | refine n_iinc (pc := 105) rfl [_, _, _, _, _, _] 1 (by decide) rfl rfl ?_ | refine q_iinc (pc := 105) [_, _, _, _, _, _] (1) rfl rfl (by decide) rfl ?_
                  refine q_goto (pc := 108) rfl ?_
                  first
                  | (exact c_folI (z := z) hd hl hm hN hN4 ht hK hg k1 k2 H hW hC hT e41 n (i + 1) (by omega) (fun j hj => by
                       by_cases e : j = i
                       · subst e
                         exact hpk
                       · exact hno j (by omega)) _)
                  | (have k1 := k1 (by omega)
                     rw [e0] at k1
                     exact c_folX H hl ((congrFun (stv_n (by decide)) 1).trans w1) hm (by omega) (hg i) stv_a _ (fun z4 z5 => k1 h _ z4 z5 H (sf.rf.st (by rfl)) stv_a (fun j hj => stv_o hj)) (by omega))
              · first
                | (exfalso; omega (config := {splitDisjunctions := false}))
                | exact absurd rfl h61
                | skip
                  refine q_aload_n (pc := 64) rfl rfl rfl ?_
                  refine q_iload_n (pc := 65) rfl rfl ?_
                  refine q_iload_n (pc := 66) rfl rfl ?_
                  refine q_iload (pc := 67) rfl rfl ?_
                  refine q_callV (pc := 69) _ rfl rfl rfl (by first | exact HR.wy H hl w1 | exact HR.c H hl _ rfl) rfl (Nat.le_of_ble_eq_true rfl) (by omega) _ rfl ?_
                  refine c_costBy (V := sdN Kc m z n0 (p + 1) (t ||| 2 ^ i)) (by omega) H hl (by omega) (by omega) (by omega) (by omega) (hC p (by omega) i (by omega)) ((hT (p + 1) (Nat.zero_le _) (by omega) _ o1.1).trans (by rw [show N - (p + 1) = n0 by omega])) ?_
                  refine q_aload_n (pc := 72) rfl rfl rfl ?_
                  refine q_iload_n (pc := 73) rfl rfl ?_
                  refine q_sipush (pc := 74) rfl (nI 128) (by decide) ?_
                  first | refine n_imul (pc := 77) rfl ?_ | refine q_imul (pc := 77) rfl ?_
                  refine q_iload_n (pc := 78) rfl rfl ?_
                  first | refine n_iadd (pc := 79) rfl ?_ | refine q_iadd (pc := 79) rfl ?_
                  refine q_callV (pc := 80) _ rfl rfl rfl (by first | exact HR.wy H hl w1 | exact HR.c H hl _ rfl) rfl (Nat.le_of_ble_eq_true rfl) (by omega) _ rfl ?_
                  refine c_aheadAt H hl (by omega) ?_
                  rw [eT]
                  first | refine n_icmpne (pc := 83) rfl (by omega) (by omega) (fun h83 => ?_) (fun h83 => ?_) | refine q_icmpne (pc := 83) rfl (fun h83 => ?_) (fun h83 => ?_)
                  · have hpk : pkB Kc m z n0 p t i = false := by unfold pkB; rw [decide_eq_false h83, Bool.and_false]
                    first
                    | (exfalso; omega (config := {splitDisjunctions := false}))
                    | exact absurd rfl h83
                    | skip
                      first | refine n_iinc (pc := 105) rfl [_, _, _, _, _, _] 1 (by decide) rfl rfl ?_ | refine q_iinc (pc := 105) [_, _, _, _, _, _] (1) rfl rfl (by decide) rfl ?_
                      refine q_goto (pc := 108) rfl ?_
                      first
                      | (exact c_folI (z := z) hd hl hm hN hN4 ht hK hg k1 k2 H hW hC hT e41 n (i + 1) (by omega) (fun j hj => by
                           by_cases e : j = i
                           · subst e
                             exact hpk
                           · exact hno j (by omega)) _)
                      | (have k1 := k1 (by omega)
                         rw [e0] at k1
                         exact c_folX H hl ((congrFun (stv_n (by decide)) 1).trans w1) hm (by omega) (hg i) stv_a _ (fun z4 z5 => k1 h _ z4 z5 H (sf.rf.st (by rfl)) stv_a (fun j hj => stv_o hj)) (by omega))
                  · have hpk : pkB Kc m z n0 p t i = true := by unfold pkB nbt; rw [h49, decide_eq_true h83]; rfl
                    have e0 : pkN Kc m z n0 p t = i := fnd_eq _ m 0 i (Nat.zero_le _) (by omega) hpk (fun j _ hj => hno j hj)
                    first
                    | (exfalso; omega (config := {splitDisjunctions := false}))
                    | exact absurd rfl h83
                    | skip
                      refine q_aload_n (pc := 86) rfl rfl rfl ?_
                      refine q_getf (pc := 87) rfl (by first | exact HR.wy H hl w1 | exact HR.c H hl _ rfl) rfl rfl ?_
                      refine q_iload_n (pc := 90) rfl rfl ?_
                      refine q_aload_n (pc := 91) rfl rfl rfl ?_
                      refine q_iload (pc := 92) rfl rfl ?_
                      refine q_callV (pc := 94) _ rfl rfl rfl (by first | exact HR.wy H hl w1 | exact HR.c H hl _ rfl) rfl (Nat.le_of_ble_eq_true rfl) (by omega) _ rfl ?_
                      refine c_cellAt H hl (by omega) ?_
                      rw [hW.2 i (by omega)]
                      refine r_ist2 (pc := 97) rfl H hl rfl (fun _ => rfl) rfl (by omega) (by omega) ?_
                      intro h H
                      refine q_iload_n (pc := 98) rfl rfl ?_
                      refine q_iconst (pc := 99) rfl (nI 1) (by decide) ?_
                      refine q_iload (pc := 100) rfl rfl ?_
                      refine n_ishl1 (pc := 102) rfl (by omega) ?_
                      refine n_ior (pc := 103) rfl ?_
                      refine q_istore_n (pc := 104) [_, _, _, _, _, _] rfl (Nat.le_of_ble_eq_true rfl) rfl ?_
                      first | refine n_iinc (pc := 105) rfl [_, _, _, _, _, _] 1 (by decide) rfl rfl ?_ | refine q_iinc (pc := 105) [_, _, _, _, _, _] (1) rfl rfl (by decide) rfl ?_
                      refine q_goto (pc := 108) rfl ?_
                      first
                      | (exact c_folI (z := z) hd hl hm hN hN4 ht hK hg k1 k2 H hW hC hT e41 n (i + 1) (by omega) (fun j hj => by
                           by_cases e : j = i
                           · subst e
                             exact hpk
                           · exact hno j (by omega)) _)
                      | (have k1 := k1 (by omega)
                         rw [e0] at k1
                         exact c_folX H hl ((congrFun (stv_n (by decide)) 1).trans w1) hm (by omega) (hg i) stv_a _ (fun z4 z5 => k1 h _ z4 z5 H (sf.rf.st (by rfl)) stv_a (fun j hj => stv_o hj)) (by omega))
          · have h49 : t.testBit i = false := (shb t (by omega) i (by omega)).mp h49
            have o1 := st_or m (by omega) t ht i (by omega) h49
            first
            | (exfalso; omega (config := {splitDisjunctions := false}))
            | exact absurd rfl h49
            | skip
              refine q_iconst (pc := 52) rfl (nI 1) (by decide) ?_
              refine q_goto (pc := 53) rfl ?_
              refine q_istore (pc := 57) [_, _, _, _, _, _] rfl (Nat.le_of_ble_eq_true rfl) rfl ?_
              refine q_iload (pc := 59) rfl rfl ?_
              first | refine n_ifeq (pc := 61) rfl (by omega) (fun h61 => ?_) (fun h61 => ?_) | refine q_ifeq (pc := 61) rfl (fun h61 => ?_) (fun h61 => ?_)
              · first
                | (exfalso; omega (config := {splitDisjunctions := false}))
                | exact absurd rfl h61
                | skip
                  first | refine n_iinc (pc := 105) rfl [_, _, _, _, _, _] 1 (by decide) rfl rfl ?_ | refine q_iinc (pc := 105) [_, _, _, _, _, _] (1) rfl rfl (by decide) rfl ?_
                  refine q_goto (pc := 108) rfl ?_
                  first
                  | (exact c_folI (z := z) hd hl hm hN hN4 ht hK hg k1 k2 H hW hC hT e41 n (i + 1) (by omega) (fun j hj => by
                       by_cases e : j = i
                       · subst e
                         exact hpk
                       · exact hno j (by omega)) _)
                  | (have k1 := k1 (by omega)
                     rw [e0] at k1
                     exact c_folX H hl ((congrFun (stv_n (by decide)) 1).trans w1) hm (by omega) (hg i) stv_a _ (fun z4 z5 => k1 h _ z4 z5 H (sf.rf.st (by rfl)) stv_a (fun j hj => stv_o hj)) (by omega))
              · first
                | (exfalso; omega (config := {splitDisjunctions := false}))
                | exact absurd rfl h61
                | skip
                  refine q_aload_n (pc := 64) rfl rfl rfl ?_
                  refine q_iload_n (pc := 65) rfl rfl ?_
                  refine q_iload_n (pc := 66) rfl rfl ?_
                  refine q_iload (pc := 67) rfl rfl ?_
                  refine q_callV (pc := 69) _ rfl rfl rfl (by first | exact HR.wy H hl w1 | exact HR.c H hl _ rfl) rfl (Nat.le_of_ble_eq_true rfl) (by omega) _ rfl ?_
                  refine c_costBy (V := sdN Kc m z n0 (p + 1) (t ||| 2 ^ i)) (by omega) H hl (by omega) (by omega) (by omega) (by omega) (hC p (by omega) i (by omega)) ((hT (p + 1) (Nat.zero_le _) (by omega) _ o1.1).trans (by rw [show N - (p + 1) = n0 by omega])) ?_
                  refine q_aload_n (pc := 72) rfl rfl rfl ?_
                  refine q_iload_n (pc := 73) rfl rfl ?_
                  refine q_sipush (pc := 74) rfl (nI 128) (by decide) ?_
                  first | refine n_imul (pc := 77) rfl ?_ | refine q_imul (pc := 77) rfl ?_
                  refine q_iload_n (pc := 78) rfl rfl ?_
                  first | refine n_iadd (pc := 79) rfl ?_ | refine q_iadd (pc := 79) rfl ?_
                  refine q_callV (pc := 80) _ rfl rfl rfl (by first | exact HR.wy H hl w1 | exact HR.c H hl _ rfl) rfl (Nat.le_of_ble_eq_true rfl) (by omega) _ rfl ?_
                  refine c_aheadAt H hl (by omega) ?_
                  rw [eT]
                  first | refine n_icmpne (pc := 83) rfl (by omega) (by omega) (fun h83 => ?_) (fun h83 => ?_) | refine q_icmpne (pc := 83) rfl (fun h83 => ?_) (fun h83 => ?_)
                  · have hpk : pkB Kc m z n0 p t i = false := by unfold pkB; rw [decide_eq_false h83, Bool.and_false]
                    first
                    | (exfalso; omega (config := {splitDisjunctions := false}))
                    | exact absurd rfl h83
                    | skip
                      first | refine n_iinc (pc := 105) rfl [_, _, _, _, _, _] 1 (by decide) rfl rfl ?_ | refine q_iinc (pc := 105) [_, _, _, _, _, _] (1) rfl rfl (by decide) rfl ?_
                      refine q_goto (pc := 108) rfl ?_
                      first
                      | (exact c_folI (z := z) hd hl hm hN hN4 ht hK hg k1 k2 H hW hC hT e41 n (i + 1) (by omega) (fun j hj => by
                           by_cases e : j = i
                           · subst e
                             exact hpk
                           · exact hno j (by omega)) _)
                      | (have k1 := k1 (by omega)
                         rw [e0] at k1
                         exact c_folX H hl ((congrFun (stv_n (by decide)) 1).trans w1) hm (by omega) (hg i) stv_a _ (fun z4 z5 => k1 h _ z4 z5 H (sf.rf.st (by rfl)) stv_a (fun j hj => stv_o hj)) (by omega))
                  · have hpk : pkB Kc m z n0 p t i = true := by unfold pkB nbt; rw [h49, decide_eq_true h83]; rfl
                    have e0 : pkN Kc m z n0 p t = i := fnd_eq _ m 0 i (Nat.zero_le _) (by omega) hpk (fun j _ hj => hno j hj)
                    first
                    | (exfalso; omega (config := {splitDisjunctions := false}))
                    | exact absurd rfl h83
                    | skip
                      refine q_aload_n (pc := 86) rfl rfl rfl ?_
                      refine q_getf (pc := 87) rfl (by first | exact HR.wy H hl w1 | exact HR.c H hl _ rfl) rfl rfl ?_
                      refine q_iload_n (pc := 90) rfl rfl ?_
                      refine q_aload_n (pc := 91) rfl rfl rfl ?_
                      refine q_iload (pc := 92) rfl rfl ?_
                      refine q_callV (pc := 94) _ rfl rfl rfl (by first | exact HR.wy H hl w1 | exact HR.c H hl _ rfl) rfl (Nat.le_of_ble_eq_true rfl) (by omega) _ rfl ?_
                      refine c_cellAt H hl (by omega) ?_
                      rw [hW.2 i (by omega)]
                      refine r_ist2 (pc := 97) rfl H hl rfl (fun _ => rfl) rfl (by omega) (by omega) ?_
                      intro h H
                      refine q_iload_n (pc := 98) rfl rfl ?_
                      refine q_iconst (pc := 99) rfl (nI 1) (by decide) ?_
                      refine q_iload (pc := 100) rfl rfl ?_
                      refine n_ishl1 (pc := 102) rfl (by omega) ?_
                      refine n_ior (pc := 103) rfl ?_
                      refine q_istore_n (pc := 104) [_, _, _, _, _, _] rfl (Nat.le_of_ble_eq_true rfl) rfl ?_
                      first | refine n_iinc (pc := 105) rfl [_, _, _, _, _, _] 1 (by decide) rfl rfl ?_ | refine q_iinc (pc := 105) [_, _, _, _, _, _] (1) rfl rfl (by decide) rfl ?_
                      refine q_goto (pc := 108) rfl ?_
                      first
                      | (exact c_folI (z := z) hd hl hm hN hN4 ht hK hg k1 k2 H hW hC hT e41 n (i + 1) (by omega) (fun j hj => by
                           by_cases e : j = i
                           · subst e
                             exact hpk
                           · exact hno j (by omega)) _)
                      | (have k1 := k1 (by omega)
                         rw [e0] at k1
                         exact c_folX H hl ((congrFun (stv_n (by decide)) 1).trans w1) hm (by omega) (hg i) stv_a _ (fun z4 z5 => k1 h _ z4 z5 H (sf.rf.st (by rfl)) stv_a (fun j hj => stv_o hj)) (by omega))
termination_by n
theorem c_folS {w : Nat} {z0 z1 z4 z5 : Option Value} {a2 : Int32} (kk : wq d 71 4 [z0, z1, some (.int a2), some (.int (nI (w + 1))), z4, z5] [] h Q) : wq d 71 111 [z0, z1, some (.int a2), some (.int (nI w)), z4, z5] [] h Q := by
  first | refine n_iinc (pc := 111) rfl [_, _, _, _, _, _] 1 (by decide) rfl rfl ?_ | refine q_iinc (pc := 111) [_, _, _, _, _, _] (1) rfl rfl (by decide) rfl ?_
  refine q_goto (pc := 114) rfl ?_
  exact kk
theorem c_folO {m z N : Nat} {Kc : Nat → Nat → Nat} (hd : 2 ≤ d) (hl : 51 ≤ P.1) (hm : m ≤ 7) (hN4 : N ≤ 4) (hK : ∀ o i, o < 4 → i < m → Kc o i ≤ 109) {g : Nat → Nat} (hg : ∀ i, g i < 36) {s0 : mx_St} {G : Nat → Nat} (kk : ∀ h' s', HR P h' s' → sf s0 s' (fun i => i = 41) → (∀ q, q < N → s' 41 q = if G q = 9 then -1 else nI (g (G q))) → Q none h') (hW : WS s0 m g) (hC : CST s0 Kc m N) (hT : TSA s0 Kc m z N 0) (n p t : Nat) (hi : p + n = N) (ht : t < 2 ^ m) (hG : ∀ q, p ≤ q → q < N → G q = fgL Kc m z n p t q) (h : mx_H) (s : mx_St) (H : HR P h s) (hs : sf s0 s (fun i => i = 41)) (c1 : ∀ q, q < p → s 41 q = if G q = 9 then -1 else nI (g (G q))) (z4 z5 : Option Value) : wq d 71 4 [some (.ref 37), some (.int (nI N)), some (.int (nI t)), some (.int (nI p)), z4, z5] [] h Q := by
  match n, hi with
  | 0, hi =>
    obtain rfl : p = N := by omega
    refine q_iload_n (pc := 4) rfl rfl ?_
    refine q_iload_n (pc := 5) rfl rfl ?_
    first | refine n_icmpge (pc := 6) rfl (by omega) (by omega) (fun h6 => ?_) (fun h6 => ?_) | refine q_icmpge (pc := 6) rfl (fun h6 => ?_) (fun h6 => ?_)
    · refine q_vret (pc := 117) rfl rfl ?_
      exact kk _ _ H hs c1
    · first | (exfalso; omega) | exact absurd h6 (nI_pos (by omega)) | exact absurd (nI_pos' (by omega)) h6
  | n + 1, hi =>
    refine q_iload_n (pc := 4) rfl rfl ?_
    refine q_iload_n (pc := 5) rfl rfl ?_
    first | refine n_icmpge (pc := 6) rfl (by omega) (by omega) (fun h6 => ?_) (fun h6 => ?_) | refine q_icmpge (pc := 6) rfl (fun h6 => ?_) (fun h6 => ?_)
    · first | (exfalso; omega) | exact absurd h6 (nI_pos (by omega)) | exact absurd (nI_pos' (by omega)) h6
    · refine q_iload_n (pc := 9) rfl rfl ?_
      refine q_iconst (pc := 10) rfl (nI 4) (by decide) ?_
      first | refine n_icmpge (pc := 11) rfl (by omega) (by omega) (fun h11 => ?_) (fun h11 => ?_) | refine q_icmpge (pc := 11) rfl (fun h11 => ?_) (fun h11 => ?_)
      · first | (exfalso; omega) | exact absurd h11 (nI_pos (by omega)) | exact absurd (nI_pos' (by omega)) h11
      · refine q_aload_n (pc := 14) rfl rfl rfl ?_
        refine q_getf (pc := 15) rfl (by exact HR.c H hl _ rfl) rfl rfl ?_
        refine q_iload_n (pc := 18) rfl rfl ?_
        refine q_iconst (pc := 19) rfl (-1) (by decide) ?_
        refine r_ist2 (pc := 20) rfl H hl rfl (fun _ => rfl) rfl (by omega) (by omega) ?_
        intro h H
        refine q_iconst (pc := 21) rfl (nI 0) (by decide) ?_
        refine q_istore (pc := 22) [_, _, _, _, _, _] rfl (Nat.le_of_ble_eq_true rfl) rfl ?_
        have fA : sf s0 (stv s 41 p (-1)) (fun i => i = 41) := hs.st (by rfl)
        have hGp := hG p (Nat.le_refl _) (by omega)
        rw [fgL, if_pos rfl] at hGp
        refine c_folI (z := z) (n0 := n) (t := t) (g := g) (s := stv s 41 p (-1)) hd hl hm (by omega) hN4 ht hK hg (fun hpk h' s' z4 z5 H f e1 e2 => ?_) (fun hpk z4 z5 => ?_) H ⟨(congrFun (fA 37 (by decide)) _).trans hW.1, fun i hi => (congrFun (fA 38 (by decide)) _).trans (hW.2 i hi)⟩ (fun q hq i hi => (congrFun (fA 40 (by decide)) _).trans (hC q hq i hi)) (fun q q1 q2 j hj => (congrFun (fA 39 (by decide)) _).trans (hT q q1 q2 j hj)) stv_a m 0 (by omega) (fun j hj => by omega) _
        · rw [if_pos hpk] at hGp
          refine c_folS ?_
          refine c_folO (z := z) hd hl hm hN4 hK hg kk hW hC hT n (p + 1) _ (by omega) (Nat.or_lt_two_pow ht (Nat.pow_lt_pow_right (by decide) hpk)) (fun q q1 q2 => ?_) h' s' H (fA.tr f) (fun q hq => ?_) _ _
          · rw [hG q (by omega) q2, fgL, if_neg (by omega), if_pos hpk]
          · by_cases e : q = p
            · subst e
              rw [hGp, if_neg (by omega)]
              exact e1
            · rw [e2 q e, stv_o e]
              exact c1 q (by omega)
        · rw [if_neg hpk] at hGp
          refine c_folS ?_
          refine c_folO (z := z) hd hl hm hN4 hK hg kk hW hC hT n (p + 1) _ (by omega) ht (fun q q1 q2 => ?_) h _ H fA (fun q hq => ?_) _ _
          · rw [hG q (by omega) q2, fgL, if_neg (by omega), if_neg hpk]
          · by_cases e : q = p
            · subst e
              rw [hGp, if_pos rfl]
              exact stv_a
            · rw [stv_o e]
              exact c1 q (by omega)
termination_by n
def tgZ (β : Nat → Nat) : Nat := min (β 88) (wrC β)
def tgM (C : Nat → Nat → Int32) (E : Nat → Nat → Nat) (β : Nat → Nat) : Nat := sdN (kcs C E β) (wrC β) (tgZ β) (β 88) 0 0
def tgG (C : Nat → Nat → Int32) (E : Nat → Nat → Nat) (β : Nat → Nat) (q : Nat) : Nat := fgL (kcs C E β) (wrC β) (tgZ β) (β 88) 0 0 q
theorem c_follow (hd : 3 ≤ d) (hl : 51 ≤ P.1) {m z N : Nat} {Kc : Nat → Nat → Nat} (hm : m ≤ 7) (hN4 : N ≤ 4) (hK : ∀ o i, o < 4 → i < m → Kc o i ≤ 109) {g : Nat → Nat} (hg : ∀ i, g i < 36) (H : HR P h s) (hW : WS s m g) (hC : CST s Kc m N) (hT : TSA s Kc m z N 0) (kk : ∀ h' s', HR P h' s' → sf s s' (fun i => i = 41) → (∀ q, q < N → s' 41 q = if fgL Kc m z N 0 0 q = 9 then -1 else nI (g (fgL Kc m z N 0 0 q))) → Q none h') : wc d 71 [.ref 37, .int (nI N)] h Q := by
  have h0 : 0 < 2 ^ m := Nat.two_pow_pos m
  refine wc.go [_, _, _, _, _, _] rfl ?_
  refine q_iconst (pc := 0) rfl (nI 0) (by decide) ?_
  refine q_istore_n (pc := 1) [_, _, _, _, _, _] rfl (Nat.le_of_ble_eq_true rfl) rfl ?_
  refine q_iconst (pc := 2) rfl (nI 0) (by decide) ?_
  refine q_istore_n (pc := 3) [_, _, _, _, _, _] rfl (Nat.le_of_ble_eq_true rfl) rfl ?_
  exact c_folO (z := z) (G := fgL Kc m z N 0 0) (by omega) hl hm hN4 hK hg kk hW hC hT N 0 0 (by omega) h0 (fun q _ _ => rfl) h s H sf.rf (fun q hq => by omega) _ _
theorem c_send2 (hd : 6 ≤ d) (hl : 51 ≤ P.1) (K : AOK P.2.1 β κ ik tp tz σ sz) (hm : wrC β ≤ 7) {s0 : mx_St} {a4 a5 : Int32} {z6 : Int32} (kk : ∀ h' s', HR P h' s' → CA P s' β κ ik tp tz C E σ sz cl → sf s0 s' cS → s' 37 5 = nI (tgM C E β) → (∀ q, q < β 88 → s' 41 q = ocI β (tgG C E β q)) → Q none h') (H : HR P h s) (A : CA P s β κ ik tp tz C E σ sz cl) (hs : sf s0 s cS) (hW : WS s (wrC β) (wrI β)) (hC : CST s (kcs C E β) (wrC β) (β 88)) (hT : TSA s (kcs C E β) (wrC β) (tgZ β) (β 88) 0) (z7 : Option Value) : wq d 67 143 [some (.ref 37), some (.ref 1), some (.ref 31), some (.int (nI (β 88))), some (.int a4), some (.int a5), some (.int z6), z7] [] h Q := by
  have K4 := K.1.2.2.1
  have h0 : 0 < 2 ^ wrC β := Nat.two_pow_pos _
  have e0 := hT 0 (Nat.le_refl _) (Nat.zero_le _) 0 h0
  rw [Nat.sub_zero] at e0
  refine q_aload_n (pc := 143) rfl rfl rfl ?_
  refine q_aload_n (pc := 144) rfl rfl rfl ?_
  refine q_iconst (pc := 145) rfl (nI 0) (by decide) ?_
  refine q_callV (pc := 146) _ rfl rfl rfl (by first | exact HR.wy H hl w1 | exact HR.X' H hl | exact HR.B H hl isB1 A.1 | exact HR.O H hl isB1 A.1 hp | exact HR.c H hl _ rfl) rfl (Nat.le_of_ble_eq_true rfl) (by omega) _ rfl ?_
  refine c_aheadAt H hl (by omega) ?_
  rw [show s 39 0 = nI (tgM C E β) from e0]
  refine r_pf2 (pc := 149) (i := 5) rfl H hl rfl rfl rfl rfl (Nat.le_of_ble_eq_true rfl) rfl rfl ?_
  intro h H
  refine q_aload_n (pc := 152) rfl rfl rfl ?_
  refine q_iload_n (pc := 153) rfl rfl ?_
  refine q_callV (pc := 154) _ rfl rfl rfl (by first | exact HR.wy H hl w1 | exact HR.X' H hl | exact HR.B H hl isB1 A.1 | exact HR.O H hl isB1 A.1 hp | exact HR.c H hl _ rfl) rfl (Nat.le_of_ble_eq_true rfl) (by omega) _ rfl ?_
  have fA : sf s (stv s 37 5 (nI (tgM C E β))) (fun i => i = 37) := sf.rf.st (by rfl)
  refine c_follow (z := tgZ β) (Kc := kcs C E β) (m := wrC β) (g := wrI β) (by omega) hl hm K4 (fun o i ho _ => kcs_le K ho) (fun i => wrI_lt i) H ⟨(stv_o (by decide)).trans hW.1, fun i hi => (congrFun (fA 38 (by decide)) _).trans (hW.2 i hi)⟩ (fun q hq i hi => (congrFun (fA 40 (by decide)) _).trans (hC q hq i hi)) (fun q q1 q2 j hj => (congrFun (fA 39 (by decide)) _).trans (hT q q1 q2 j hj)) ?_
  intro h s2 H f eG
  refine q_vret (pc := 157) rfl rfl ?_
  obtain ⟨A2, k2⟩ := th9 A (fA.mono (S' := fun i => 33 ≤ i ∧ i < 42) (fun i g => by omega)) (fun i g => Or.inr g)
  obtain ⟨A3, k3⟩ := th9 A2 f (fun i g => Or.inr (by omega))
  exact kk _ _ H A3 ((hs.tr k2).tr k3) ((congrFun (f 37 (by decide)) 5).trans stv_a) eG
theorem c_sendT {w : Nat} {z0 z1 z2 z4 z7 : Option Value} {a5 a6 : Int32} (kk : wq d 67 95 [z0, z1, z2, some (.int (nI w)), z4, some (.int a5), some (.int (nI w + (-1))), z7] [] h Q) : wq d 67 90 [z0, z1, z2, some (.int (nI w)), z4, some (.int a5), some (.int a6), z7] [] h Q := by
  refine q_iload_n (pc := 90) rfl rfl ?_
  refine q_iconst (pc := 91) rfl (nI 1) (by decide) ?_
  refine q_isub (pc := 92) rfl ?_
  rw [show nI w - nI 1 = nI w + (-1) by rw [Int32.sub_eq_add_neg]; rfl]
  refine q_istore (pc := 93) [_, _, _, _, _, _, _, _] rfl (Nat.le_of_ble_eq_true rfl) rfl ?_
  exact kk
theorem c_sendM (hd : 7 ≤ d) (hl : 51 ≤ P.1) (K : AOK P.2.1 β κ ik tp tz σ sz) (hm : wrC β ≤ 7) {s0 : mx_St} (H : HR P h s) (A : CA P s β κ ik tp tz C E σ sz cl) (hs : sf s0 s cS) (hW : WS s (wrC β) (wrI β)) (hC : CST s (kcs C E β) (wrC β) (β 88)) (kk : ∀ h' s', HR P h' s' → CA P s' β κ ik tp tz C E σ sz cl → sf s0 s' cS → s' 37 5 = nI (tgM C E β) → (∀ q, q < β 88 → s' 41 q = ocI β (tgG C E β q)) → Q none h') (z4 : Option Value) : wq d 67 28 [some (.ref 37), some (.ref 1), some (.ref 31), some (.int (nI (β 88))), z4, none, none, none] [] h Q := by
  have K4 := K.1.2.2.1
  have p7 := pw7 hm
  have h0 : 0 < 2 ^ wrC β := Nat.two_pow_pos _
  have w1 := hW.1
  refine q_iconst (pc := 28) rfl (nI 1) (by decide) ?_
  refine q_aload_n (pc := 29) rfl rfl rfl ?_
  refine q_getf (pc := 30) rfl (by first | exact HR.wy H hl w1 | exact HR.X' H hl | exact HR.B H hl isB1 A.1 | exact HR.O H hl isB1 A.1 hp | exact HR.c H hl _ rfl) rfl rfl ?_
  refine n_ishl1 (pc := 33) rfl (by omega) ?_
  refine q_istore (pc := 34) [_, _, _, _, _, _, _, _] rfl (Nat.le_of_ble_eq_true rfl) rfl ?_
  refine q_iload_n (pc := 36) rfl rfl ?_
  refine q_aload_n (pc := 37) rfl rfl rfl ?_
  refine q_getf (pc := 38) rfl (by first | exact HR.wy H hl w1 | exact HR.X' H hl | exact HR.B H hl isB1 A.1 | exact HR.O H hl isB1 A.1 hp | exact HR.c H hl _ rfl) rfl rfl ?_
  first | refine n_min (pc := 41) rfl rfl (by omega) (by omega) ?_ | refine q_min (pc := 41) rfl rfl ?_
  refine q_istore (pc := 44) [_, _, _, _, _, _, _, _] rfl (Nat.le_of_ble_eq_true rfl) rfl ?_
  refine q_iconst (pc := 46) rfl (nI 0) (by decide) ?_
  refine q_istore (pc := 47) [_, _, _, _, _, _, _, _] rfl (Nat.le_of_ble_eq_true rfl) rfl ?_
  refine c_sendB (z := tgZ β) (Kc := kcs C E β) (by omega) hl hm K4 (by unfold tgZ; omega) (fun h2 s2 z6 H f2 t2 => ?_) (2 ^ wrC β) 0 (by omega) h s H sf.rf (fun j hj => by omega)
  have hC2 : CST s2 (kcs C E β) (wrC β) (β 88) := fun q hq i hi => (congrFun (f2 40 (by decide)) _).trans (hC q hq i hi)
  refine c_sendT ?_
  refine c_sendO (z := tgZ β) (Kc := kcs C E β) (by omega) hl hm K4 (fun o i ho _ => kcs_le K ho) ((congrFun (f2 37 (by decide)) _).trans w1) hC2 (fun h3 s3 z6 z7 H f3 t3 => ?_) (β 88) (Nat.le_refl _) h2 s2 H sf.rf t2 _
  obtain ⟨A2, k2⟩ := th9 A (f2.tr f3) (fun i g => Or.inr (by omega))
  exact c_send2 (by omega) hl K hm kk H A2 (hs.tr k2) ⟨(congrFun ((f2.tr f3) 37 (by decide)) _).trans w1, fun i hi => (congrFun ((f2.tr f3) 38 (by decide)) _).trans (hW.2 i hi)⟩ (fun q hq i hi => (congrFun (f3 40 (by decide)) _).trans (hC2 q hq i hi)) t3 _
theorem c_send (hd : 7 ≤ d) (hl : 51 ≤ P.1) (K : AOK P.2.1 β κ ik tp tz σ sz) (hm : wrC β ≤ 7) (H : HR P h s) (A : CA P s β κ ik tp tz C E σ sz cl) (hW : WS s (wrC β) (wrI β)) (kk : ∀ h' s', HR P h' s' → CA P s' β κ ik tp tz C E σ sz cl → sf s s' cS → s' 37 5 = nI (tgM C E β) → (∀ q, q < β 88 → s' 41 q = ocI β (tgG C E β q)) → Q none h') : wc d 67 [.ref 37, .ref 1, .ref 31] h Q := by
  have K4 := K.1.2.2.1
  have p7 := pw7 hm
  refine wc.go [_, _, _, _, _, _, _, _] rfl ?_
  refine q_aload_n (pc := 0) rfl rfl rfl ?_
  refine q_getf (pc := 1) rfl (by first | exact HR.wy H hl w1 | exact HR.X' H hl | exact HR.B H hl isB1 A.1 | exact HR.O H hl isB1 A.1 hp | exact HR.c H hl _ rfl) rfl rfl ?_
  refine q_istore_n (pc := 4) [_, _, _, _, _, _, _, _] rfl (Nat.le_of_ble_eq_true rfl) rfl ?_
  refine q_iconst (pc := 5) rfl (nI 0) (by decide) ?_
  refine q_istore (pc := 6) [_, _, _, _, _, _, _, _] rfl (Nat.le_of_ble_eq_true rfl) rfl ?_
  refine c_sendA (by omega) hl K hm hW (fun h1 s1 z4 H A f1 hC => ?_) (β 88) 0 (by omega) h s H A sf.rf (fun q hq => by omega)
  have k1 := (th9 A (s' := s1) (S := fun i => 33 ≤ i ∧ i < 42) sf.rf (fun i g => Or.inr g)).2
  exact c_sendM (by omega) hl K hm H A ((f1.mono (S' := cS) (fun i g => Or.inl (by omega)))) (hW.fr37 f1 (fun i g => by omega)) hC kk _
theorem c_goalOf (H : HR P h s) (hl : 51 ≤ P.1) (hp : p < 4) (hq : Q (some (.int (s 41 p))) h) : wc d 72 [.ref 37, .int (nI p)] h Q := by
  refine wc.go [_, _] rfl ?_
  refine q_iload_n (pc := 0) rfl rfl ?_
  refine q_iflt (pc := 1) rfl (fun h1 => ?_) (fun h1 => ?_)
  · first | (exfalso; omega) | exact absurd h1 (nI_pos (by omega)) | exact absurd (nI_pos' (by omega)) h1
  · refine q_iload_n (pc := 4) rfl rfl ?_
    refine q_iconst (pc := 5) rfl (nI 4) (by decide) ?_
    first | refine n_icmpge (pc := 6) rfl (by omega) (by omega) (fun h6 => ?_) (fun h6 => ?_) | refine q_icmpge (pc := 6) rfl (fun h6 => ?_) (fun h6 => ?_)
    · first | (exfalso; omega) | exact absurd h6 (nI_pos (by omega)) | exact absurd (nI_pos' (by omega)) h6
    · refine q_aload_n (pc := 9) rfl rfl rfl ?_
      refine q_getf (pc := 10) rfl (by exact HR.c H hl _ rfl) rfl rfl ?_
      refine q_iload_n (pc := 13) rfl rfl ?_
      refine n_ild (pc := 14) rfl (by exact HR.la0 H hl rfl rfl) rfl (by omega) (by omega) ?_
      refine q_goto (pc := 15) rfl ?_
      refine q_iret (pc := 19) rfl (rfl) ?_
      exact hq
def o_together (C : Nat → Nat → Int32) (E : Nat → Nat → Nat) (β : Nat → Nat) (x : Int32) : Int32 := if rg 20 x = 0 ∨ (10 ≤ rg 20 x ∧ rg 20 x < 10 + β 88) then (if 7 < wrC β then -3 else if rg 20 x = 0 then nI (tgM C E β) else ocI β (tgG C E β (rg 20 x - 10))) else -2
theorem c_together (hd : 21 ≤ d) (H : HR P h s) (hl : 51 ≤ P.1) (A : CA P s β κ ik tp tz C E σ sz cl) (K : AOK P.2.1 β κ ik tp tz σ sz) (kk : ∀ h' s', HR P h' s' → CA P s' β κ ik tp tz C E σ sz cl → sf s s' cS → Q (some (.int (o_together C E β x))) h') : wc d 99 [.ref 0, .int x] h Q := by
  have K4 := K.1.2.2.1
  have KK := K.1
  have hT := A.2.2.2.2.2.1
  have hSh := A.2.2.2.2.2.2
  have kSh := K.2.2.2.2.2.2.2
  rcases rgc 20 (by decide) x with ⟨w, hw, rfl, z1⟩ | ⟨g, z1⟩
  ·
    refine wc.go [_, _, _] rfl ?_
    refine q_iload_n (pc := 0) rfl rfl ?_
    refine q_bipush (pc := 1) rfl (nI 10) (by decide) ?_
    first | refine n_icmplt (pc := 3) rfl (by omega) (by omega) (fun h3 => ?_) (fun h3 => ?_) | refine q_icmplt (pc := 3) rfl (fun h3 => ?_) (fun h3 => ?_)
    · first
      | (exfalso; omega (config := {splitDisjunctions := false}))
      | skip
        refine q_iconst (pc := 24) rfl (nI 0) (by decide) ?_
        refine q_istore_n (pc := 25) [_, _, _] rfl (Nat.le_of_ble_eq_true rfl) rfl ?_
        refine q_iload_n (pc := 26) rfl rfl ?_
        first | refine n_ifeq (pc := 27) rfl (by omega) (fun h27 => ?_) (fun h27 => ?_) | refine q_ifeq (pc := 27) rfl (fun h27 => ?_) (fun h27 => ?_)
        · first
          | (exfalso; omega (config := {splitDisjunctions := false}))
          | exact absurd rfl h27
          | skip
            refine q_aload_n (pc := 37) rfl rfl rfl ?_
            refine q_getf (pc := 38) rfl (by first | exact HR.X' H hl | exact HR.B H hl isB1 A.1 | exact HR.R H hl A.2.2.2.2.2.1.1 | exact HR.O H hl isB1 A.1 hp | exact HR.c H hl _ rfl) rfl rfl ?_
            refine q_aload_n (pc := 41) rfl rfl rfl ?_
            refine q_getf (pc := 42) rfl (by first | exact HR.X' H hl | exact HR.B H hl isB1 A.1 | exact HR.R H hl A.2.2.2.2.2.1.1 | exact HR.O H hl isB1 A.1 hp | exact HR.c H hl _ rfl) rfl rfl ?_
            refine q_callV (pc := 45) _ rfl rfl rfl (by first | exact HR.X' H hl | exact HR.B H hl isB1 A.1 | exact HR.R H hl A.2.2.2.2.2.1.1 | exact HR.O H hl isB1 A.1 hp | exact HR.c H hl _ rfl) rfl (Nat.le_of_ble_eq_true rfl) (by omega) _ rfl ?_
            refine c_find (by omega) hl KK H A (fun h7 h s1 H A k1 hW => ?_) (fun h7 h s1 H A k1 => ?_)
            · refine q_ifne (pc := 48) rfl (fun _ => ?_) (fun z => absurd z (by decide))
              refine q_aload_n (pc := 54) rfl rfl rfl ?_
              refine q_getf (pc := 55) rfl (by first | exact HR.X' H hl | exact HR.B H hl isB1 A.1 | exact HR.R H hl A.2.2.2.2.2.1.1 | exact HR.O H hl isB1 A.1 hp | exact HR.c H hl _ rfl) rfl rfl ?_
              refine q_aload_n (pc := 58) rfl rfl rfl ?_
              refine q_getf (pc := 59) rfl (by first | exact HR.X' H hl | exact HR.B H hl isB1 A.1 | exact HR.R H hl A.2.2.2.2.2.1.1 | exact HR.O H hl isB1 A.1 hp | exact HR.c H hl _ rfl) rfl rfl ?_
              refine q_aload_n (pc := 62) rfl rfl rfl ?_
              refine q_getf (pc := 63) rfl (by first | exact HR.X' H hl | exact HR.B H hl isB1 A.1 | exact HR.R H hl A.2.2.2.2.2.1.1 | exact HR.O H hl isB1 A.1 hp | exact HR.c H hl _ rfl) rfl rfl ?_
              refine q_callV (pc := 66) _ rfl rfl rfl (by first | exact HR.X' H hl | exact HR.B H hl isB1 A.1 | exact HR.R H hl A.2.2.2.2.2.1.1 | exact HR.O H hl isB1 A.1 hp | exact HR.c H hl _ rfl) rfl (Nat.le_of_ble_eq_true rfl) (by omega) _ rfl ?_
              refine c_send (by omega) hl K h7 H A hW ?_
              intro h s2 H A k2 e5 e6
              refine q_iload_n (pc := 69) rfl rfl ?_
              first | refine n_ifne (pc := 70) rfl (by omega) (fun h70 => ?_) (fun h70 => ?_) | refine q_ifne (pc := 70) rfl (fun h70 => ?_) (fun h70 => ?_)
              · have h70 : 0 < w := by omega
                first
                | (exfalso; omega (config := {splitDisjunctions := false}))
                | exact absurd rfl h70
                | skip
                  refine q_aload_n (pc := 83) rfl rfl rfl ?_
                  refine q_getf (pc := 84) rfl (by first | exact HR.X' H hl | exact HR.B H hl isB1 A.1 | exact HR.R H hl A.2.2.2.2.2.1.1 | exact HR.O H hl isB1 A.1 hp | exact HR.c H hl _ rfl) rfl rfl ?_
                  refine q_iload_n (pc := 87) rfl rfl ?_
                  refine q_bipush (pc := 88) rfl (nI 10) (by decide) ?_
                  first | refine n_isub (pc := 90) rfl (by omega) ?_ | refine q_isub (pc := 90) rfl ?_
                  refine q_callV (pc := 91) _ rfl rfl rfl (by first | exact HR.X' H hl | exact HR.B H hl isB1 A.1 | exact HR.R H hl A.2.2.2.2.2.1.1 | exact HR.O H hl isB1 A.1 hp | exact HR.c H hl _ rfl) rfl (Nat.le_of_ble_eq_true rfl) (by omega) _ rfl ?_
                  refine c_goalOf H hl (by omega) ?_
                  rw [e6 _ (by omega)]
                  refine q_iret (pc := 94) rfl (rfl) ?_
                  first
                  | (refine eqQ (v' := o_together C E β (nI w)) ?_ (kk _ _ H A (k1.tr k2))
                     unfold o_together
                     rw [z1.out, if_pos (by omega), if_neg (by omega), if_pos (by omega)])
                  | (refine eqQ (v' := o_together C E β (nI w)) ?_ (kk _ _ H A (k1.tr k2))
                     unfold o_together
                     rw [z1.out, if_pos (by omega), if_neg (by omega), if_neg (by omega)])
              · first
                | (exfalso; omega (config := {splitDisjunctions := false}))
                | exact absurd rfl h70
                | skip
                  refine q_aload_n (pc := 73) rfl rfl rfl ?_
                  refine q_getf (pc := 74) rfl (by first | exact HR.X' H hl | exact HR.B H hl isB1 A.1 | exact HR.R H hl A.2.2.2.2.2.1.1 | exact HR.O H hl isB1 A.1 hp | exact HR.c H hl _ rfl) rfl rfl ?_
                  refine q_getf (pc := 77) rfl (by first | exact HR.X' H hl | exact HR.B H hl isB1 A.1 | exact HR.R H hl A.2.2.2.2.2.1.1 | exact HR.O H hl isB1 A.1 hp | exact HR.c H hl _ rfl) rfl rfl ?_
                  rw [e5]
                  refine q_goto (pc := 80) rfl ?_
                  refine q_iret (pc := 94) rfl (rfl) ?_
                  first
                  | (refine eqQ (v' := o_together C E β (nI w)) ?_ (kk _ _ H A (k1.tr k2))
                     unfold o_together
                     rw [z1.out, if_pos (by omega), if_neg (by omega), if_pos (by omega)])
                  | (refine eqQ (v' := o_together C E β (nI w)) ?_ (kk _ _ H A (k1.tr k2))
                     unfold o_together
                     rw [z1.out, if_pos (by omega), if_neg (by omega), if_neg (by omega)])
            · refine q_ifne (pc := 48) rfl (fun z => absurd z (by decide)) (fun _ => ?_)
              refine q_bipush (pc := 51) rfl (-3) (by decide) ?_
              refine q_iret (pc := 53) rfl (rfl) ?_
              refine eqQ (v' := o_together C E β (nI w)) ?_ (kk _ _ H A k1)
              unfold o_together
              rw [z1.out, if_pos (by omega), if_pos h7]
        · first
          | (exfalso; omega (config := {splitDisjunctions := false}))
          | exact absurd rfl h27
          | skip
            refine q_iload_n (pc := 30) rfl rfl ?_
            first | refine n_ifne (pc := 31) rfl (by omega) (fun h31 => ?_) (fun h31 => ?_) | refine q_ifne (pc := 31) rfl (fun h31 => ?_) (fun h31 => ?_)
            · first
              | (exfalso; omega (config := {splitDisjunctions := false}))
              | exact absurd rfl h31
              | skip
                refine q_aload_n (pc := 37) rfl rfl rfl ?_
                refine q_getf (pc := 38) rfl (by first | exact HR.X' H hl | exact HR.B H hl isB1 A.1 | exact HR.R H hl A.2.2.2.2.2.1.1 | exact HR.O H hl isB1 A.1 hp | exact HR.c H hl _ rfl) rfl rfl ?_
                refine q_aload_n (pc := 41) rfl rfl rfl ?_
                refine q_getf (pc := 42) rfl (by first | exact HR.X' H hl | exact HR.B H hl isB1 A.1 | exact HR.R H hl A.2.2.2.2.2.1.1 | exact HR.O H hl isB1 A.1 hp | exact HR.c H hl _ rfl) rfl rfl ?_
                refine q_callV (pc := 45) _ rfl rfl rfl (by first | exact HR.X' H hl | exact HR.B H hl isB1 A.1 | exact HR.R H hl A.2.2.2.2.2.1.1 | exact HR.O H hl isB1 A.1 hp | exact HR.c H hl _ rfl) rfl (Nat.le_of_ble_eq_true rfl) (by omega) _ rfl ?_
                refine c_find (by omega) hl KK H A (fun h7 h s1 H A k1 hW => ?_) (fun h7 h s1 H A k1 => ?_)
                · refine q_ifne (pc := 48) rfl (fun _ => ?_) (fun z => absurd z (by decide))
                  refine q_aload_n (pc := 54) rfl rfl rfl ?_
                  refine q_getf (pc := 55) rfl (by first | exact HR.X' H hl | exact HR.B H hl isB1 A.1 | exact HR.R H hl A.2.2.2.2.2.1.1 | exact HR.O H hl isB1 A.1 hp | exact HR.c H hl _ rfl) rfl rfl ?_
                  refine q_aload_n (pc := 58) rfl rfl rfl ?_
                  refine q_getf (pc := 59) rfl (by first | exact HR.X' H hl | exact HR.B H hl isB1 A.1 | exact HR.R H hl A.2.2.2.2.2.1.1 | exact HR.O H hl isB1 A.1 hp | exact HR.c H hl _ rfl) rfl rfl ?_
                  refine q_aload_n (pc := 62) rfl rfl rfl ?_
                  refine q_getf (pc := 63) rfl (by first | exact HR.X' H hl | exact HR.B H hl isB1 A.1 | exact HR.R H hl A.2.2.2.2.2.1.1 | exact HR.O H hl isB1 A.1 hp | exact HR.c H hl _ rfl) rfl rfl ?_
                  refine q_callV (pc := 66) _ rfl rfl rfl (by first | exact HR.X' H hl | exact HR.B H hl isB1 A.1 | exact HR.R H hl A.2.2.2.2.2.1.1 | exact HR.O H hl isB1 A.1 hp | exact HR.c H hl _ rfl) rfl (Nat.le_of_ble_eq_true rfl) (by omega) _ rfl ?_
                  refine c_send (by omega) hl K h7 H A hW ?_
                  intro h s2 H A k2 e5 e6
                  refine q_iload_n (pc := 69) rfl rfl ?_
                  first | refine n_ifne (pc := 70) rfl (by omega) (fun h70 => ?_) (fun h70 => ?_) | refine q_ifne (pc := 70) rfl (fun h70 => ?_) (fun h70 => ?_)
                  · have h70 : 0 < w := by omega
                    first
                    | (exfalso; omega (config := {splitDisjunctions := false}))
                    | exact absurd rfl h70
                    | skip
                      refine q_aload_n (pc := 83) rfl rfl rfl ?_
                      refine q_getf (pc := 84) rfl (by first | exact HR.X' H hl | exact HR.B H hl isB1 A.1 | exact HR.R H hl A.2.2.2.2.2.1.1 | exact HR.O H hl isB1 A.1 hp | exact HR.c H hl _ rfl) rfl rfl ?_
                      refine q_iload_n (pc := 87) rfl rfl ?_
                      refine q_bipush (pc := 88) rfl (nI 10) (by decide) ?_
                      first | refine n_isub (pc := 90) rfl (by omega) ?_ | refine q_isub (pc := 90) rfl ?_
                      refine q_callV (pc := 91) _ rfl rfl rfl (by first | exact HR.X' H hl | exact HR.B H hl isB1 A.1 | exact HR.R H hl A.2.2.2.2.2.1.1 | exact HR.O H hl isB1 A.1 hp | exact HR.c H hl _ rfl) rfl (Nat.le_of_ble_eq_true rfl) (by omega) _ rfl ?_
                      refine c_goalOf H hl (by omega) ?_
                      rw [e6 _ (by omega)]
                      refine q_iret (pc := 94) rfl (rfl) ?_
                      first
                      | (refine eqQ (v' := o_together C E β (nI w)) ?_ (kk _ _ H A (k1.tr k2))
                         unfold o_together
                         rw [z1.out, if_pos (by omega), if_neg (by omega), if_pos (by omega)])
                      | (refine eqQ (v' := o_together C E β (nI w)) ?_ (kk _ _ H A (k1.tr k2))
                         unfold o_together
                         rw [z1.out, if_pos (by omega), if_neg (by omega), if_neg (by omega)])
                  · first
                    | (exfalso; omega (config := {splitDisjunctions := false}))
                    | exact absurd rfl h70
                    | skip
                      refine q_aload_n (pc := 73) rfl rfl rfl ?_
                      refine q_getf (pc := 74) rfl (by first | exact HR.X' H hl | exact HR.B H hl isB1 A.1 | exact HR.R H hl A.2.2.2.2.2.1.1 | exact HR.O H hl isB1 A.1 hp | exact HR.c H hl _ rfl) rfl rfl ?_
                      refine q_getf (pc := 77) rfl (by first | exact HR.X' H hl | exact HR.B H hl isB1 A.1 | exact HR.R H hl A.2.2.2.2.2.1.1 | exact HR.O H hl isB1 A.1 hp | exact HR.c H hl _ rfl) rfl rfl ?_
                      rw [e5]
                      refine q_goto (pc := 80) rfl ?_
                      refine q_iret (pc := 94) rfl (rfl) ?_
                      first
                      | (refine eqQ (v' := o_together C E β (nI w)) ?_ (kk _ _ H A (k1.tr k2))
                         unfold o_together
                         rw [z1.out, if_pos (by omega), if_neg (by omega), if_pos (by omega)])
                      | (refine eqQ (v' := o_together C E β (nI w)) ?_ (kk _ _ H A (k1.tr k2))
                         unfold o_together
                         rw [z1.out, if_pos (by omega), if_neg (by omega), if_neg (by omega)])
                · refine q_ifne (pc := 48) rfl (fun z => absurd z (by decide)) (fun _ => ?_)
                  refine q_bipush (pc := 51) rfl (-3) (by decide) ?_
                  refine q_iret (pc := 53) rfl (rfl) ?_
                  refine eqQ (v' := o_together C E β (nI w)) ?_ (kk _ _ H A k1)
                  unfold o_together
                  rw [z1.out, if_pos (by omega), if_pos h7]
            · first
              | (exfalso; omega (config := {splitDisjunctions := false}))
              | exact absurd rfl h31
              | skip
                refine q_bipush (pc := 34) rfl (-2) (by decide) ?_
                refine q_iret (pc := 36) rfl (rfl) ?_
                refine eqQ (v' := o_together C E β (nI w)) ?_ (kk _ _ H A sf.rf)
                unfold o_together
                rw [z1.out, if_neg (by omega)]
    · first
      | (exfalso; omega (config := {splitDisjunctions := false}))
      | skip
        refine q_aload_n (pc := 6) rfl rfl rfl ?_
        refine q_getf (pc := 7) rfl (by first | exact HR.X' H hl | exact HR.B H hl isB1 A.1 | exact HR.R H hl A.2.2.2.2.2.1.1 | exact HR.O H hl isB1 A.1 hp | exact HR.c H hl _ rfl) rfl rfl ?_
        refine q_iload_n (pc := 10) rfl rfl ?_
        refine q_bipush (pc := 11) rfl (nI 10) (by decide) ?_
        first | refine n_isub (pc := 13) rfl (by omega) ?_ | refine q_isub (pc := 13) rfl ?_
        refine q_callV (pc := 14) _ rfl rfl rfl (by first | exact HR.X' H hl | exact HR.B H hl isB1 A.1 | exact HR.R H hl A.2.2.2.2.2.1.1 | exact HR.O H hl isB1 A.1 hp | exact HR.c H hl _ rfl) rfl (Nat.le_of_ble_eq_true rfl) (by omega) _ rfl ?_
        refine c_member H hl isB1 A.1 (fun p hp hpβ hxp => ?_) (fun gp => ?_) K4
        · obtain rfl := x_eq hxp (by omega) (by omega)
          refine q_ifnull (pc := 17) rfl ?_
          refine q_iconst (pc := 20) rfl (nI 1) (by decide) ?_
          refine q_goto (pc := 21) rfl ?_
          refine q_istore_n (pc := 25) [_, _, _] rfl (Nat.le_of_ble_eq_true rfl) rfl ?_
          refine q_iload_n (pc := 26) rfl rfl ?_
          first | refine n_ifeq (pc := 27) rfl (by omega) (fun h27 => ?_) (fun h27 => ?_) | refine q_ifeq (pc := 27) rfl (fun h27 => ?_) (fun h27 => ?_)
          · first
            | (exfalso; omega (config := {splitDisjunctions := false}))
            | exact absurd rfl h27
            | skip
              refine q_aload_n (pc := 37) rfl rfl rfl ?_
              refine q_getf (pc := 38) rfl (by first | exact HR.X' H hl | exact HR.B H hl isB1 A.1 | exact HR.R H hl A.2.2.2.2.2.1.1 | exact HR.O H hl isB1 A.1 hp | exact HR.c H hl _ rfl) rfl rfl ?_
              refine q_aload_n (pc := 41) rfl rfl rfl ?_
              refine q_getf (pc := 42) rfl (by first | exact HR.X' H hl | exact HR.B H hl isB1 A.1 | exact HR.R H hl A.2.2.2.2.2.1.1 | exact HR.O H hl isB1 A.1 hp | exact HR.c H hl _ rfl) rfl rfl ?_
              refine q_callV (pc := 45) _ rfl rfl rfl (by first | exact HR.X' H hl | exact HR.B H hl isB1 A.1 | exact HR.R H hl A.2.2.2.2.2.1.1 | exact HR.O H hl isB1 A.1 hp | exact HR.c H hl _ rfl) rfl (Nat.le_of_ble_eq_true rfl) (by omega) _ rfl ?_
              refine c_find (by omega) hl KK H A (fun h7 h s1 H A k1 hW => ?_) (fun h7 h s1 H A k1 => ?_)
              · refine q_ifne (pc := 48) rfl (fun _ => ?_) (fun z => absurd z (by decide))
                refine q_aload_n (pc := 54) rfl rfl rfl ?_
                refine q_getf (pc := 55) rfl (by first | exact HR.X' H hl | exact HR.B H hl isB1 A.1 | exact HR.R H hl A.2.2.2.2.2.1.1 | exact HR.O H hl isB1 A.1 hp | exact HR.c H hl _ rfl) rfl rfl ?_
                refine q_aload_n (pc := 58) rfl rfl rfl ?_
                refine q_getf (pc := 59) rfl (by first | exact HR.X' H hl | exact HR.B H hl isB1 A.1 | exact HR.R H hl A.2.2.2.2.2.1.1 | exact HR.O H hl isB1 A.1 hp | exact HR.c H hl _ rfl) rfl rfl ?_
                refine q_aload_n (pc := 62) rfl rfl rfl ?_
                refine q_getf (pc := 63) rfl (by first | exact HR.X' H hl | exact HR.B H hl isB1 A.1 | exact HR.R H hl A.2.2.2.2.2.1.1 | exact HR.O H hl isB1 A.1 hp | exact HR.c H hl _ rfl) rfl rfl ?_
                refine q_callV (pc := 66) _ rfl rfl rfl (by first | exact HR.X' H hl | exact HR.B H hl isB1 A.1 | exact HR.R H hl A.2.2.2.2.2.1.1 | exact HR.O H hl isB1 A.1 hp | exact HR.c H hl _ rfl) rfl (Nat.le_of_ble_eq_true rfl) (by omega) _ rfl ?_
                refine c_send (by omega) hl K h7 H A hW ?_
                intro h s2 H A k2 e5 e6
                refine q_iload_n (pc := 69) rfl rfl ?_
                first | refine n_ifne (pc := 70) rfl (by omega) (fun h70 => ?_) (fun h70 => ?_) | refine q_ifne (pc := 70) rfl (fun h70 => ?_) (fun h70 => ?_)
                · have h70 : 0 < w := by omega
                  first
                  | (exfalso; omega (config := {splitDisjunctions := false}))
                  | exact absurd rfl h70
                  | skip
                    refine q_aload_n (pc := 83) rfl rfl rfl ?_
                    refine q_getf (pc := 84) rfl (by first | exact HR.X' H hl | exact HR.B H hl isB1 A.1 | exact HR.R H hl A.2.2.2.2.2.1.1 | exact HR.O H hl isB1 A.1 hp | exact HR.c H hl _ rfl) rfl rfl ?_
                    refine q_iload_n (pc := 87) rfl rfl ?_
                    refine q_bipush (pc := 88) rfl (nI 10) (by decide) ?_
                    first | refine n_isub (pc := 90) rfl (by omega) ?_ | refine q_isub (pc := 90) rfl ?_
                    refine q_callV (pc := 91) _ rfl rfl rfl (by first | exact HR.X' H hl | exact HR.B H hl isB1 A.1 | exact HR.R H hl A.2.2.2.2.2.1.1 | exact HR.O H hl isB1 A.1 hp | exact HR.c H hl _ rfl) rfl (Nat.le_of_ble_eq_true rfl) (by omega) _ rfl ?_
                    refine c_goalOf H hl (by omega) ?_
                    rw [e6 _ (by omega)]
                    refine q_iret (pc := 94) rfl (rfl) ?_
                    first
                    | (refine eqQ (v' := o_together C E β (nI w)) ?_ (kk _ _ H A (k1.tr k2))
                       unfold o_together
                       rw [z1.out, if_pos (by omega), if_neg (by omega), if_pos (by omega)])
                    | (refine eqQ (v' := o_together C E β (nI w)) ?_ (kk _ _ H A (k1.tr k2))
                       unfold o_together
                       rw [z1.out, if_pos (by omega), if_neg (by omega), if_neg (by omega)])
                · first
                  | (exfalso; omega (config := {splitDisjunctions := false}))
                  | exact absurd rfl h70
                  | skip
                    refine q_aload_n (pc := 73) rfl rfl rfl ?_
                    refine q_getf (pc := 74) rfl (by first | exact HR.X' H hl | exact HR.B H hl isB1 A.1 | exact HR.R H hl A.2.2.2.2.2.1.1 | exact HR.O H hl isB1 A.1 hp | exact HR.c H hl _ rfl) rfl rfl ?_
                    refine q_getf (pc := 77) rfl (by first | exact HR.X' H hl | exact HR.B H hl isB1 A.1 | exact HR.R H hl A.2.2.2.2.2.1.1 | exact HR.O H hl isB1 A.1 hp | exact HR.c H hl _ rfl) rfl rfl ?_
                    rw [e5]
                    refine q_goto (pc := 80) rfl ?_
                    refine q_iret (pc := 94) rfl (rfl) ?_
                    first
                    | (refine eqQ (v' := o_together C E β (nI w)) ?_ (kk _ _ H A (k1.tr k2))
                       unfold o_together
                       rw [z1.out, if_pos (by omega), if_neg (by omega), if_pos (by omega)])
                    | (refine eqQ (v' := o_together C E β (nI w)) ?_ (kk _ _ H A (k1.tr k2))
                       unfold o_together
                       rw [z1.out, if_pos (by omega), if_neg (by omega), if_neg (by omega)])
              · refine q_ifne (pc := 48) rfl (fun z => absurd z (by decide)) (fun _ => ?_)
                refine q_bipush (pc := 51) rfl (-3) (by decide) ?_
                refine q_iret (pc := 53) rfl (rfl) ?_
                refine eqQ (v' := o_together C E β (nI w)) ?_ (kk _ _ H A k1)
                unfold o_together
                rw [z1.out, if_pos (by omega), if_pos h7]
          · first
            | (exfalso; omega (config := {splitDisjunctions := false}))
            | exact absurd rfl h27
            | skip
              refine q_iload_n (pc := 30) rfl rfl ?_
              first | refine n_ifne (pc := 31) rfl (by omega) (fun h31 => ?_) (fun h31 => ?_) | refine q_ifne (pc := 31) rfl (fun h31 => ?_) (fun h31 => ?_)
              · first
                | (exfalso; omega (config := {splitDisjunctions := false}))
                | exact absurd rfl h31
                | skip
                  refine q_aload_n (pc := 37) rfl rfl rfl ?_
                  refine q_getf (pc := 38) rfl (by first | exact HR.X' H hl | exact HR.B H hl isB1 A.1 | exact HR.R H hl A.2.2.2.2.2.1.1 | exact HR.O H hl isB1 A.1 hp | exact HR.c H hl _ rfl) rfl rfl ?_
                  refine q_aload_n (pc := 41) rfl rfl rfl ?_
                  refine q_getf (pc := 42) rfl (by first | exact HR.X' H hl | exact HR.B H hl isB1 A.1 | exact HR.R H hl A.2.2.2.2.2.1.1 | exact HR.O H hl isB1 A.1 hp | exact HR.c H hl _ rfl) rfl rfl ?_
                  refine q_callV (pc := 45) _ rfl rfl rfl (by first | exact HR.X' H hl | exact HR.B H hl isB1 A.1 | exact HR.R H hl A.2.2.2.2.2.1.1 | exact HR.O H hl isB1 A.1 hp | exact HR.c H hl _ rfl) rfl (Nat.le_of_ble_eq_true rfl) (by omega) _ rfl ?_
                  refine c_find (by omega) hl KK H A (fun h7 h s1 H A k1 hW => ?_) (fun h7 h s1 H A k1 => ?_)
                  · refine q_ifne (pc := 48) rfl (fun _ => ?_) (fun z => absurd z (by decide))
                    refine q_aload_n (pc := 54) rfl rfl rfl ?_
                    refine q_getf (pc := 55) rfl (by first | exact HR.X' H hl | exact HR.B H hl isB1 A.1 | exact HR.R H hl A.2.2.2.2.2.1.1 | exact HR.O H hl isB1 A.1 hp | exact HR.c H hl _ rfl) rfl rfl ?_
                    refine q_aload_n (pc := 58) rfl rfl rfl ?_
                    refine q_getf (pc := 59) rfl (by first | exact HR.X' H hl | exact HR.B H hl isB1 A.1 | exact HR.R H hl A.2.2.2.2.2.1.1 | exact HR.O H hl isB1 A.1 hp | exact HR.c H hl _ rfl) rfl rfl ?_
                    refine q_aload_n (pc := 62) rfl rfl rfl ?_
                    refine q_getf (pc := 63) rfl (by first | exact HR.X' H hl | exact HR.B H hl isB1 A.1 | exact HR.R H hl A.2.2.2.2.2.1.1 | exact HR.O H hl isB1 A.1 hp | exact HR.c H hl _ rfl) rfl rfl ?_
                    refine q_callV (pc := 66) _ rfl rfl rfl (by first | exact HR.X' H hl | exact HR.B H hl isB1 A.1 | exact HR.R H hl A.2.2.2.2.2.1.1 | exact HR.O H hl isB1 A.1 hp | exact HR.c H hl _ rfl) rfl (Nat.le_of_ble_eq_true rfl) (by omega) _ rfl ?_
                    refine c_send (by omega) hl K h7 H A hW ?_
                    intro h s2 H A k2 e5 e6
                    refine q_iload_n (pc := 69) rfl rfl ?_
                    first | refine n_ifne (pc := 70) rfl (by omega) (fun h70 => ?_) (fun h70 => ?_) | refine q_ifne (pc := 70) rfl (fun h70 => ?_) (fun h70 => ?_)
                    · have h70 : 0 < w := by omega
                      first
                      | (exfalso; omega (config := {splitDisjunctions := false}))
                      | exact absurd rfl h70
                      | skip
                        refine q_aload_n (pc := 83) rfl rfl rfl ?_
                        refine q_getf (pc := 84) rfl (by first | exact HR.X' H hl | exact HR.B H hl isB1 A.1 | exact HR.R H hl A.2.2.2.2.2.1.1 | exact HR.O H hl isB1 A.1 hp | exact HR.c H hl _ rfl) rfl rfl ?_
                        refine q_iload_n (pc := 87) rfl rfl ?_
                        refine q_bipush (pc := 88) rfl (nI 10) (by decide) ?_
                        first | refine n_isub (pc := 90) rfl (by omega) ?_ | refine q_isub (pc := 90) rfl ?_
                        refine q_callV (pc := 91) _ rfl rfl rfl (by first | exact HR.X' H hl | exact HR.B H hl isB1 A.1 | exact HR.R H hl A.2.2.2.2.2.1.1 | exact HR.O H hl isB1 A.1 hp | exact HR.c H hl _ rfl) rfl (Nat.le_of_ble_eq_true rfl) (by omega) _ rfl ?_
                        refine c_goalOf H hl (by omega) ?_
                        rw [e6 _ (by omega)]
                        refine q_iret (pc := 94) rfl (rfl) ?_
                        first
                        | (refine eqQ (v' := o_together C E β (nI w)) ?_ (kk _ _ H A (k1.tr k2))
                           unfold o_together
                           rw [z1.out, if_pos (by omega), if_neg (by omega), if_pos (by omega)])
                        | (refine eqQ (v' := o_together C E β (nI w)) ?_ (kk _ _ H A (k1.tr k2))
                           unfold o_together
                           rw [z1.out, if_pos (by omega), if_neg (by omega), if_neg (by omega)])
                    · first
                      | (exfalso; omega (config := {splitDisjunctions := false}))
                      | exact absurd rfl h70
                      | skip
                        refine q_aload_n (pc := 73) rfl rfl rfl ?_
                        refine q_getf (pc := 74) rfl (by first | exact HR.X' H hl | exact HR.B H hl isB1 A.1 | exact HR.R H hl A.2.2.2.2.2.1.1 | exact HR.O H hl isB1 A.1 hp | exact HR.c H hl _ rfl) rfl rfl ?_
                        refine q_getf (pc := 77) rfl (by first | exact HR.X' H hl | exact HR.B H hl isB1 A.1 | exact HR.R H hl A.2.2.2.2.2.1.1 | exact HR.O H hl isB1 A.1 hp | exact HR.c H hl _ rfl) rfl rfl ?_
                        rw [e5]
                        refine q_goto (pc := 80) rfl ?_
                        refine q_iret (pc := 94) rfl (rfl) ?_
                        first
                        | (refine eqQ (v' := o_together C E β (nI w)) ?_ (kk _ _ H A (k1.tr k2))
                           unfold o_together
                           rw [z1.out, if_pos (by omega), if_neg (by omega), if_pos (by omega)])
                        | (refine eqQ (v' := o_together C E β (nI w)) ?_ (kk _ _ H A (k1.tr k2))
                           unfold o_together
                           rw [z1.out, if_pos (by omega), if_neg (by omega), if_neg (by omega)])
                  · refine q_ifne (pc := 48) rfl (fun z => absurd z (by decide)) (fun _ => ?_)
                    refine q_bipush (pc := 51) rfl (-3) (by decide) ?_
                    refine q_iret (pc := 53) rfl (rfl) ?_
                    refine eqQ (v' := o_together C E β (nI w)) ?_ (kk _ _ H A k1)
                    unfold o_together
                    rw [z1.out, if_pos (by omega), if_pos h7]
              · first
                | (exfalso; omega (config := {splitDisjunctions := false}))
                | exact absurd rfl h31
                | skip
                  refine q_bipush (pc := 34) rfl (-2) (by decide) ?_
                  refine q_iret (pc := 36) rfl (rfl) ?_
                  refine eqQ (v' := o_together C E β (nI w)) ?_ (kk _ _ H A sf.rf)
                  unfold o_together
                  rw [z1.out, if_neg (by omega)]
        · have gp : β 88 ≤ w - 10 := gp.elim (fun e => absurd e (nI_pos (by omega))) (fun e => x_le e (by omega) (by omega))
          refine q_ifnullN (pc := 17) rfl ?_
          refine q_iconst (pc := 24) rfl (nI 0) (by decide) ?_
          refine q_istore_n (pc := 25) [_, _, _] rfl (Nat.le_of_ble_eq_true rfl) rfl ?_
          refine q_iload_n (pc := 26) rfl rfl ?_
          first | refine n_ifeq (pc := 27) rfl (by omega) (fun h27 => ?_) (fun h27 => ?_) | refine q_ifeq (pc := 27) rfl (fun h27 => ?_) (fun h27 => ?_)
          · first
            | (exfalso; omega (config := {splitDisjunctions := false}))
            | exact absurd rfl h27
            | skip
              refine q_aload_n (pc := 37) rfl rfl rfl ?_
              refine q_getf (pc := 38) rfl (by first | exact HR.X' H hl | exact HR.B H hl isB1 A.1 | exact HR.R H hl A.2.2.2.2.2.1.1 | exact HR.O H hl isB1 A.1 hp | exact HR.c H hl _ rfl) rfl rfl ?_
              refine q_aload_n (pc := 41) rfl rfl rfl ?_
              refine q_getf (pc := 42) rfl (by first | exact HR.X' H hl | exact HR.B H hl isB1 A.1 | exact HR.R H hl A.2.2.2.2.2.1.1 | exact HR.O H hl isB1 A.1 hp | exact HR.c H hl _ rfl) rfl rfl ?_
              refine q_callV (pc := 45) _ rfl rfl rfl (by first | exact HR.X' H hl | exact HR.B H hl isB1 A.1 | exact HR.R H hl A.2.2.2.2.2.1.1 | exact HR.O H hl isB1 A.1 hp | exact HR.c H hl _ rfl) rfl (Nat.le_of_ble_eq_true rfl) (by omega) _ rfl ?_
              refine c_find (by omega) hl KK H A (fun h7 h s1 H A k1 hW => ?_) (fun h7 h s1 H A k1 => ?_)
              · refine q_ifne (pc := 48) rfl (fun _ => ?_) (fun z => absurd z (by decide))
                refine q_aload_n (pc := 54) rfl rfl rfl ?_
                refine q_getf (pc := 55) rfl (by first | exact HR.X' H hl | exact HR.B H hl isB1 A.1 | exact HR.R H hl A.2.2.2.2.2.1.1 | exact HR.O H hl isB1 A.1 hp | exact HR.c H hl _ rfl) rfl rfl ?_
                refine q_aload_n (pc := 58) rfl rfl rfl ?_
                refine q_getf (pc := 59) rfl (by first | exact HR.X' H hl | exact HR.B H hl isB1 A.1 | exact HR.R H hl A.2.2.2.2.2.1.1 | exact HR.O H hl isB1 A.1 hp | exact HR.c H hl _ rfl) rfl rfl ?_
                refine q_aload_n (pc := 62) rfl rfl rfl ?_
                refine q_getf (pc := 63) rfl (by first | exact HR.X' H hl | exact HR.B H hl isB1 A.1 | exact HR.R H hl A.2.2.2.2.2.1.1 | exact HR.O H hl isB1 A.1 hp | exact HR.c H hl _ rfl) rfl rfl ?_
                refine q_callV (pc := 66) _ rfl rfl rfl (by first | exact HR.X' H hl | exact HR.B H hl isB1 A.1 | exact HR.R H hl A.2.2.2.2.2.1.1 | exact HR.O H hl isB1 A.1 hp | exact HR.c H hl _ rfl) rfl (Nat.le_of_ble_eq_true rfl) (by omega) _ rfl ?_
                refine c_send (by omega) hl K h7 H A hW ?_
                intro h s2 H A k2 e5 e6
                refine q_iload_n (pc := 69) rfl rfl ?_
                first | refine n_ifne (pc := 70) rfl (by omega) (fun h70 => ?_) (fun h70 => ?_) | refine q_ifne (pc := 70) rfl (fun h70 => ?_) (fun h70 => ?_)
                · have h70 : 0 < w := by omega
                  first
                  | (exfalso; omega (config := {splitDisjunctions := false}))
                  | exact absurd rfl h70
                  | skip
                    refine q_aload_n (pc := 83) rfl rfl rfl ?_
                    refine q_getf (pc := 84) rfl (by first | exact HR.X' H hl | exact HR.B H hl isB1 A.1 | exact HR.R H hl A.2.2.2.2.2.1.1 | exact HR.O H hl isB1 A.1 hp | exact HR.c H hl _ rfl) rfl rfl ?_
                    refine q_iload_n (pc := 87) rfl rfl ?_
                    refine q_bipush (pc := 88) rfl (nI 10) (by decide) ?_
                    first | refine n_isub (pc := 90) rfl (by omega) ?_ | refine q_isub (pc := 90) rfl ?_
                    refine q_callV (pc := 91) _ rfl rfl rfl (by first | exact HR.X' H hl | exact HR.B H hl isB1 A.1 | exact HR.R H hl A.2.2.2.2.2.1.1 | exact HR.O H hl isB1 A.1 hp | exact HR.c H hl _ rfl) rfl (Nat.le_of_ble_eq_true rfl) (by omega) _ rfl ?_
                    refine c_goalOf H hl (by omega) ?_
                    rw [e6 _ (by omega)]
                    refine q_iret (pc := 94) rfl (rfl) ?_
                    first
                    | (refine eqQ (v' := o_together C E β (nI w)) ?_ (kk _ _ H A (k1.tr k2))
                       unfold o_together
                       rw [z1.out, if_pos (by omega), if_neg (by omega), if_pos (by omega)])
                    | (refine eqQ (v' := o_together C E β (nI w)) ?_ (kk _ _ H A (k1.tr k2))
                       unfold o_together
                       rw [z1.out, if_pos (by omega), if_neg (by omega), if_neg (by omega)])
                · first
                  | (exfalso; omega (config := {splitDisjunctions := false}))
                  | exact absurd rfl h70
                  | skip
                    refine q_aload_n (pc := 73) rfl rfl rfl ?_
                    refine q_getf (pc := 74) rfl (by first | exact HR.X' H hl | exact HR.B H hl isB1 A.1 | exact HR.R H hl A.2.2.2.2.2.1.1 | exact HR.O H hl isB1 A.1 hp | exact HR.c H hl _ rfl) rfl rfl ?_
                    refine q_getf (pc := 77) rfl (by first | exact HR.X' H hl | exact HR.B H hl isB1 A.1 | exact HR.R H hl A.2.2.2.2.2.1.1 | exact HR.O H hl isB1 A.1 hp | exact HR.c H hl _ rfl) rfl rfl ?_
                    rw [e5]
                    refine q_goto (pc := 80) rfl ?_
                    refine q_iret (pc := 94) rfl (rfl) ?_
                    first
                    | (refine eqQ (v' := o_together C E β (nI w)) ?_ (kk _ _ H A (k1.tr k2))
                       unfold o_together
                       rw [z1.out, if_pos (by omega), if_neg (by omega), if_pos (by omega)])
                    | (refine eqQ (v' := o_together C E β (nI w)) ?_ (kk _ _ H A (k1.tr k2))
                       unfold o_together
                       rw [z1.out, if_pos (by omega), if_neg (by omega), if_neg (by omega)])
              · refine q_ifne (pc := 48) rfl (fun z => absurd z (by decide)) (fun _ => ?_)
                refine q_bipush (pc := 51) rfl (-3) (by decide) ?_
                refine q_iret (pc := 53) rfl (rfl) ?_
                refine eqQ (v' := o_together C E β (nI w)) ?_ (kk _ _ H A k1)
                unfold o_together
                rw [z1.out, if_pos (by omega), if_pos h7]
          · first
            | (exfalso; omega (config := {splitDisjunctions := false}))
            | exact absurd rfl h27
            | skip
              refine q_iload_n (pc := 30) rfl rfl ?_
              first | refine n_ifne (pc := 31) rfl (by omega) (fun h31 => ?_) (fun h31 => ?_) | refine q_ifne (pc := 31) rfl (fun h31 => ?_) (fun h31 => ?_)
              · first
                | (exfalso; omega (config := {splitDisjunctions := false}))
                | exact absurd rfl h31
                | skip
                  refine q_aload_n (pc := 37) rfl rfl rfl ?_
                  refine q_getf (pc := 38) rfl (by first | exact HR.X' H hl | exact HR.B H hl isB1 A.1 | exact HR.R H hl A.2.2.2.2.2.1.1 | exact HR.O H hl isB1 A.1 hp | exact HR.c H hl _ rfl) rfl rfl ?_
                  refine q_aload_n (pc := 41) rfl rfl rfl ?_
                  refine q_getf (pc := 42) rfl (by first | exact HR.X' H hl | exact HR.B H hl isB1 A.1 | exact HR.R H hl A.2.2.2.2.2.1.1 | exact HR.O H hl isB1 A.1 hp | exact HR.c H hl _ rfl) rfl rfl ?_
                  refine q_callV (pc := 45) _ rfl rfl rfl (by first | exact HR.X' H hl | exact HR.B H hl isB1 A.1 | exact HR.R H hl A.2.2.2.2.2.1.1 | exact HR.O H hl isB1 A.1 hp | exact HR.c H hl _ rfl) rfl (Nat.le_of_ble_eq_true rfl) (by omega) _ rfl ?_
                  refine c_find (by omega) hl KK H A (fun h7 h s1 H A k1 hW => ?_) (fun h7 h s1 H A k1 => ?_)
                  · refine q_ifne (pc := 48) rfl (fun _ => ?_) (fun z => absurd z (by decide))
                    refine q_aload_n (pc := 54) rfl rfl rfl ?_
                    refine q_getf (pc := 55) rfl (by first | exact HR.X' H hl | exact HR.B H hl isB1 A.1 | exact HR.R H hl A.2.2.2.2.2.1.1 | exact HR.O H hl isB1 A.1 hp | exact HR.c H hl _ rfl) rfl rfl ?_
                    refine q_aload_n (pc := 58) rfl rfl rfl ?_
                    refine q_getf (pc := 59) rfl (by first | exact HR.X' H hl | exact HR.B H hl isB1 A.1 | exact HR.R H hl A.2.2.2.2.2.1.1 | exact HR.O H hl isB1 A.1 hp | exact HR.c H hl _ rfl) rfl rfl ?_
                    refine q_aload_n (pc := 62) rfl rfl rfl ?_
                    refine q_getf (pc := 63) rfl (by first | exact HR.X' H hl | exact HR.B H hl isB1 A.1 | exact HR.R H hl A.2.2.2.2.2.1.1 | exact HR.O H hl isB1 A.1 hp | exact HR.c H hl _ rfl) rfl rfl ?_
                    refine q_callV (pc := 66) _ rfl rfl rfl (by first | exact HR.X' H hl | exact HR.B H hl isB1 A.1 | exact HR.R H hl A.2.2.2.2.2.1.1 | exact HR.O H hl isB1 A.1 hp | exact HR.c H hl _ rfl) rfl (Nat.le_of_ble_eq_true rfl) (by omega) _ rfl ?_
                    refine c_send (by omega) hl K h7 H A hW ?_
                    intro h s2 H A k2 e5 e6
                    refine q_iload_n (pc := 69) rfl rfl ?_
                    first | refine n_ifne (pc := 70) rfl (by omega) (fun h70 => ?_) (fun h70 => ?_) | refine q_ifne (pc := 70) rfl (fun h70 => ?_) (fun h70 => ?_)
                    · have h70 : 0 < w := by omega
                      first
                      | (exfalso; omega (config := {splitDisjunctions := false}))
                      | exact absurd rfl h70
                      | skip
                        refine q_aload_n (pc := 83) rfl rfl rfl ?_
                        refine q_getf (pc := 84) rfl (by first | exact HR.X' H hl | exact HR.B H hl isB1 A.1 | exact HR.R H hl A.2.2.2.2.2.1.1 | exact HR.O H hl isB1 A.1 hp | exact HR.c H hl _ rfl) rfl rfl ?_
                        refine q_iload_n (pc := 87) rfl rfl ?_
                        refine q_bipush (pc := 88) rfl (nI 10) (by decide) ?_
                        first | refine n_isub (pc := 90) rfl (by omega) ?_ | refine q_isub (pc := 90) rfl ?_
                        refine q_callV (pc := 91) _ rfl rfl rfl (by first | exact HR.X' H hl | exact HR.B H hl isB1 A.1 | exact HR.R H hl A.2.2.2.2.2.1.1 | exact HR.O H hl isB1 A.1 hp | exact HR.c H hl _ rfl) rfl (Nat.le_of_ble_eq_true rfl) (by omega) _ rfl ?_
                        refine c_goalOf H hl (by omega) ?_
                        rw [e6 _ (by omega)]
                        refine q_iret (pc := 94) rfl (rfl) ?_
                        first
                        | (refine eqQ (v' := o_together C E β (nI w)) ?_ (kk _ _ H A (k1.tr k2))
                           unfold o_together
                           rw [z1.out, if_pos (by omega), if_neg (by omega), if_pos (by omega)])
                        | (refine eqQ (v' := o_together C E β (nI w)) ?_ (kk _ _ H A (k1.tr k2))
                           unfold o_together
                           rw [z1.out, if_pos (by omega), if_neg (by omega), if_neg (by omega)])
                    · first
                      | (exfalso; omega (config := {splitDisjunctions := false}))
                      | exact absurd rfl h70
                      | skip
                        refine q_aload_n (pc := 73) rfl rfl rfl ?_
                        refine q_getf (pc := 74) rfl (by first | exact HR.X' H hl | exact HR.B H hl isB1 A.1 | exact HR.R H hl A.2.2.2.2.2.1.1 | exact HR.O H hl isB1 A.1 hp | exact HR.c H hl _ rfl) rfl rfl ?_
                        refine q_getf (pc := 77) rfl (by first | exact HR.X' H hl | exact HR.B H hl isB1 A.1 | exact HR.R H hl A.2.2.2.2.2.1.1 | exact HR.O H hl isB1 A.1 hp | exact HR.c H hl _ rfl) rfl rfl ?_
                        rw [e5]
                        refine q_goto (pc := 80) rfl ?_
                        refine q_iret (pc := 94) rfl (rfl) ?_
                        first
                        | (refine eqQ (v' := o_together C E β (nI w)) ?_ (kk _ _ H A (k1.tr k2))
                           unfold o_together
                           rw [z1.out, if_pos (by omega), if_neg (by omega), if_pos (by omega)])
                        | (refine eqQ (v' := o_together C E β (nI w)) ?_ (kk _ _ H A (k1.tr k2))
                           unfold o_together
                           rw [z1.out, if_pos (by omega), if_neg (by omega), if_neg (by omega)])
                  · refine q_ifne (pc := 48) rfl (fun z => absurd z (by decide)) (fun _ => ?_)
                    refine q_bipush (pc := 51) rfl (-3) (by decide) ?_
                    refine q_iret (pc := 53) rfl (rfl) ?_
                    refine eqQ (v' := o_together C E β (nI w)) ?_ (kk _ _ H A k1)
                    unfold o_together
                    rw [z1.out, if_pos (by omega), if_pos h7]
              · first
                | (exfalso; omega (config := {splitDisjunctions := false}))
                | exact absurd rfl h31
                | skip
                  refine q_bipush (pc := 34) rfl (-2) (by decide) ?_
                  refine q_iret (pc := 36) rfl (rfl) ?_
                  refine eqQ (v' := o_together C E β (nI w)) ?_ (kk _ _ H A sf.rf)
                  unfold o_together
                  rw [z1.out, if_neg (by omega)]
  ·
    refine wc.go [_, _, _] rfl ?_
    refine q_iload_n (pc := 0) rfl rfl ?_
    refine q_bipush (pc := 1) rfl (nI 10) (by decide) ?_
    refine q_icmplt (pc := 3) rfl (fun h3 => ?_) (fun h3 => ?_)
    · first
      | (exfalso; omega (config := {splitDisjunctions := false}))
      | skip
        refine q_iconst (pc := 24) rfl (nI 0) (by decide) ?_
        refine q_istore_n (pc := 25) [_, _, _] rfl (Nat.le_of_ble_eq_true rfl) rfl ?_
        refine q_iload_n (pc := 26) rfl rfl ?_
        refine q_ifeq (pc := 27) rfl (fun h27 => ?_) (fun h27 => ?_)
        · exact False.elim (g.elim (fun e => absurd e (by rw [h27]; decide)) (fun e => absurd e (by rw [h27]; decide)))
        · first
          | (exfalso; omega (config := {splitDisjunctions := false}))
          | exact absurd rfl h27
          | skip
            refine q_iload_n (pc := 30) rfl rfl ?_
            first | refine n_ifne (pc := 31) rfl (by omega) (fun h31 => ?_) (fun h31 => ?_) | refine q_ifne (pc := 31) rfl (fun h31 => ?_) (fun h31 => ?_)
            · exact absurd rfl h31
            · first
              | (exfalso; omega (config := {splitDisjunctions := false}))
              | exact absurd rfl h31
              | skip
                refine q_bipush (pc := 34) rfl (-2) (by decide) ?_
                refine q_iret (pc := 36) rfl (rfl) ?_
                refine eqQ ?_ (kk _ _ H A sf.rf)
                unfold o_together
                rw [z1.out, if_neg (by omega)]
    · first
      | (exfalso; omega (config := {splitDisjunctions := false}))
      | skip
        refine q_aload_n (pc := 6) rfl rfl rfl ?_
        refine q_getf (pc := 7) rfl (by first | exact HR.X' H hl | exact HR.B H hl isB1 A.1 | exact HR.R H hl A.2.2.2.2.2.1.1 | exact HR.O H hl isB1 A.1 hp | exact HR.c H hl _ rfl) rfl rfl ?_
        refine q_iload_n (pc := 10) rfl rfl ?_
        refine q_bipush (pc := 11) rfl (nI 10) (by decide) ?_
        refine q_isub (pc := 13) rfl ?_
        refine q_callV (pc := 14) _ rfl rfl rfl (by first | exact HR.X' H hl | exact HR.B H hl isB1 A.1 | exact HR.R H hl A.2.2.2.2.2.1.1 | exact HR.O H hl isB1 A.1 hp | exact HR.c H hl _ rfl) rfl (Nat.le_of_ble_eq_true rfl) (by omega) _ rfl ?_
        refine c_member H hl isB1 A.1 (fun p hp hpβ hxp => ?_) (fun gp => ?_) K4
        · exact (rg_no g ((x_back hxp).trans (nI_add _ _)) ⟨by omega, by decide⟩).elim
        · refine q_ifnullN (pc := 17) rfl ?_
          refine q_iconst (pc := 24) rfl (nI 0) (by decide) ?_
          refine q_istore_n (pc := 25) [_, _, _] rfl (Nat.le_of_ble_eq_true rfl) rfl ?_
          refine q_iload_n (pc := 26) rfl rfl ?_
          refine q_ifeq (pc := 27) rfl (fun h27 => ?_) (fun h27 => ?_)
          · exact False.elim (g.elim (fun e => absurd e (by rw [h27]; decide)) (fun e => absurd e (by rw [h27]; decide)))
          · first
            | (exfalso; omega (config := {splitDisjunctions := false}))
            | exact absurd rfl h27
            | skip
              refine q_iload_n (pc := 30) rfl rfl ?_
              first | refine n_ifne (pc := 31) rfl (by omega) (fun h31 => ?_) (fun h31 => ?_) | refine q_ifne (pc := 31) rfl (fun h31 => ?_) (fun h31 => ?_)
              · exact absurd rfl h31
              · first
                | (exfalso; omega (config := {splitDisjunctions := false}))
                | exact absurd rfl h31
                | skip
                  refine q_bipush (pc := 34) rfl (-2) (by decide) ?_
                  refine q_iret (pc := 36) rfl (rfl) ?_
                  refine eqQ ?_ (kk _ _ H A sf.rf)
                  unfold o_together
                  rw [z1.out, if_neg (by omega)]
end P39
