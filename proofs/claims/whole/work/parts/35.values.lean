/-! ===== the class's calls: tides thought, numbers told ===== -/
section P35
variable {d k pc a i j c p b t n m part q : Nat} {v : Int} {L L' : mx_L} {st r : List Value} {P : mx_Pm} {h : mx_H} {s : mx_St} {Q : Option Value → mx_H → Prop} {x y w z u : Int32} {β κ : Nat → Nat} {C : Nat → Nat → Int32} {E : Nat → Nat → Nat} {ik tz : Nat} {tp : Nat → Nat} {σ : Nat → Int32} {sz : Nat → Nat} {cl : Nat → Nat → Int32}
def bhN (C : Nat → Nat → Int32) (E : Nat → Nat → Nat) (β : Nat → Nat) (r : Nat) : Nat := popN (wbs (flob C E β r))
theorem bhN_le {r : Nat} : bhN C E β r ≤ 36 := cntf_le _ _
theorem c_behind {r : Nat} (hd : 15 ≤ d) (H : HR P h s) (hl : 51 ≤ P.1) (A : CA P s β κ ik tp tz C E σ sz cl) (K : AOK P.2.1 β κ ik tp tz σ sz) (hr : r ≤ 6) (kk : ∀ h' s', HR P h' s' → CA P s' β κ ik tp tz C E σ sz cl → sf s s' cS → Q (some (.int (nI (bhN C E β r)))) h') : wc d 96 [.ref 0, .int (nI r)] h Q := by
  have K4 := K.1.2.2.1
  have KK := K.1
  have hT := A.2.2.2.2.2.1
  have hSh := A.2.2.2.2.2.2
  have kSh := K.2.2.2.2.2.2.2
  refine wc.go [_, _] rfl ?_
  refine q_aload_n (pc := 0) rfl rfl rfl ?_
  refine q_getf (pc := 1) rfl (by first | exact HR.X' H hl | exact HR.B H hl isB9 hβ | exact HR.O H hl isB9 hβ hp | exact HR.B H hl isB1 A.1 | exact HR.R H hl A.2.2.2.2.2.1.1 | exact HR.O H hl isB1 A.1 hp | exact HR.c H hl _ rfl) rfl rfl ?_
  refine q_aload_n (pc := 4) rfl rfl rfl ?_
  refine q_getf (pc := 5) rfl (by first | exact HR.X' H hl | exact HR.B H hl isB9 hβ | exact HR.O H hl isB9 hβ hp | exact HR.B H hl isB1 A.1 | exact HR.R H hl A.2.2.2.2.2.1.1 | exact HR.O H hl isB1 A.1 hp | exact HR.c H hl _ rfl) rfl rfl ?_
  refine q_callV (pc := 8) _ rfl rfl rfl (by first | exact HR.X' H hl | exact HR.B H hl isB9 hβ | exact HR.O H hl isB9 hβ hp | exact HR.B H hl isB1 A.1 | exact HR.R H hl A.2.2.2.2.2.1.1 | exact HR.O H hl isB1 A.1 hp | exact HR.c H hl _ rfl) rfl (Nat.le_of_ble_eq_true rfl) (by omega) _ rfl ?_
  refine c_become (by omega) hl H isB9 isB1 (by decide) A.1 ?_
  intro h s1 H hβ k0
  obtain ⟨A, k1⟩ := th9 A k0 (fun i g => Or.inl (by omega))
  have hT := A.2.2.2.2.2.1
  refine q_aload_n (pc := 11) rfl rfl rfl ?_
  refine q_getf (pc := 12) rfl (by first | exact HR.X' H hl | exact HR.B H hl isB9 hβ | exact HR.O H hl isB9 hβ hp | exact HR.B H hl isB1 A.1 | exact HR.R H hl A.2.2.2.2.2.1.1 | exact HR.O H hl isB1 A.1 hp | exact HR.c H hl _ rfl) rfl rfl ?_
  refine q_aload_n (pc := 15) rfl rfl rfl ?_
  refine q_getf (pc := 16) rfl (by first | exact HR.X' H hl | exact HR.B H hl isB9 hβ | exact HR.O H hl isB9 hβ hp | exact HR.B H hl isB1 A.1 | exact HR.R H hl A.2.2.2.2.2.1.1 | exact HR.O H hl isB1 A.1 hp | exact HR.c H hl _ rfl) rfl rfl ?_
  refine q_iload_n (pc := 19) rfl rfl ?_
  refine q_callV (pc := 20) _ rfl rfl rfl (by first | exact HR.X' H hl | exact HR.B H hl isB9 hβ | exact HR.O H hl isB9 hβ hp | exact HR.B H hl isB1 A.1 | exact HR.R H hl A.2.2.2.2.2.1.1 | exact HR.O H hl isB1 A.1 hp | exact HR.c H hl _ rfl) rfl (Nat.le_of_ble_eq_true rfl) (by omega) _ rfl ?_
  refine c_flood (by omega) H hl isB9 hβ hT KK hr ?_
  intro h s2 H hβ hT k2
  obtain ⟨A, k3⟩ := th9 A k2 (fun i g => by omega)
  refine q_aload_n (pc := 23) rfl rfl rfl ?_
  refine q_getf (pc := 24) rfl (by first | exact HR.X' H hl | exact HR.B H hl isB9 hβ | exact HR.O H hl isB9 hβ hp | exact HR.B H hl isB1 A.1 | exact HR.R H hl A.2.2.2.2.2.1.1 | exact HR.O H hl isB1 A.1 hp | exact HR.c H hl _ rfl) rfl rfl ?_
  refine q_callV (pc := 27) _ rfl rfl rfl (by first | exact HR.X' H hl | exact HR.B H hl isB9 hβ | exact HR.O H hl isB9 hβ hp | exact HR.B H hl isB1 A.1 | exact HR.R H hl A.2.2.2.2.2.1.1 | exact HR.O H hl isB1 A.1 hp | exact HR.c H hl _ rfl) rfl (Nat.le_of_ble_eq_true rfl) (by omega) _ rfl ?_
  refine c_wrongCells (by omega) H hl isB9 hβ (bok_flo KK K.2.1).1 ?_
  refine q_iret (pc := 30) rfl (rfl) ?_
  exact kk _ _ H A (k1.tr k3)
def wrs (f : Nat → Nat) : Nat → Nat × Nat
  | 0 => (0, f 0)
  | n + 1 => if (wrs f n).2 < f (n + 1) then (n + 1, f (n + 1)) else wrs f n
theorem wrs_le (f : Nat → Nat) (n : Nat) : (wrs f n).1 ≤ n := by
  induction n with
  | zero => exact Nat.le_refl _
  | succ n ih =>
    unfold wrs
    split
    · exact Nat.le_refl _
    · omega
theorem wrs_2 (f : Nat → Nat) (n : Nat) : (wrs f n).2 = f (wrs f n).1 := by
  induction n with
  | zero => rfl
  | succ n ih =>
    unfold wrs
    split
    · rfl
    · exact ih
theorem c_worstL (hd : 16 ≤ d) (hl : 51 ≤ P.1) (K : AOK P.2.1 β κ ik tp tz σ sz) {s0 : mx_St} (kk : ∀ h' s', HR P h' s' → CA P s' β κ ik tp tz C E σ sz cl → sf s0 s' cS → Q (some (.int (nI (wrs (bhN C E β) 6).1))) h') (n i : Nat) (hi : i + n = 6) (h : mx_H) (s : mx_St) (H : HR P h s) (A : CA P s β κ ik tp tz C E σ sz cl) (hs : sf s0 s cS) (z4 : Option Value) : wq d 95 10 [some (.ref 0), some (.int (nI (wrs (bhN C E β) i).1)), some (.int (nI (wrs (bhN C E β) i).2)), some (.int (nI (i + 1))), z4] [] h Q := by
  have b1 := wrs_le (bhN C E β) i
  have b2 := wrs_2 (bhN C E β) i
  have b3 := bhN_le (C := C) (E := E) (β := β) (r := (wrs (bhN C E β) i).1)
  have b4 := bhN_le (C := C) (E := E) (β := β) (r := i + 1)
  match n, hi with
  | 0, hi =>
    obtain rfl : i = 6 := by omega
    refine q_iload_n (pc := 10) rfl rfl ?_
    refine q_bipush (pc := 11) rfl (nI 6) (by decide) ?_
    first | refine n_icmpgt (pc := 13) rfl (by omega) (by omega) (fun h13 => ?_) (fun h13 => ?_) | refine q_icmpgt (pc := 13) rfl (fun h13 => ?_) (fun h13 => ?_)
    · refine q_iload_n (pc := 40) rfl rfl ?_
      refine q_iret (pc := 41) rfl (rfl) ?_
      exact kk _ _ H A hs
    · first | (exfalso; omega) | exact absurd h13 (nI_pos (by omega)) | exact absurd (nI_pos' (by omega)) h13
  | n + 1, hi =>
    refine q_iload_n (pc := 10) rfl rfl ?_
    refine q_bipush (pc := 11) rfl (nI 6) (by decide) ?_
    first | refine n_icmpgt (pc := 13) rfl (by omega) (by omega) (fun h13 => ?_) (fun h13 => ?_) | refine q_icmpgt (pc := 13) rfl (fun h13 => ?_) (fun h13 => ?_)
    · first | (exfalso; omega) | exact absurd h13 (nI_pos (by omega)) | exact absurd (nI_pos' (by omega)) h13
    · refine q_aload_n (pc := 16) rfl rfl rfl ?_
      refine q_iload_n (pc := 17) rfl rfl ?_
      refine q_callV (pc := 18) _ rfl rfl rfl (by first | exact HR.X' H hl | exact HR.B H hl isB9 hβ | exact HR.O H hl isB9 hβ hp | exact HR.B H hl isB1 A.1 | exact HR.R H hl A.2.2.2.2.2.1.1 | exact HR.O H hl isB1 A.1 hp | exact HR.c H hl _ rfl) rfl (Nat.le_of_ble_eq_true rfl) (by omega) _ rfl ?_
      refine c_behind (by omega) H hl A K (by omega) ?_
      intro h s1 H A k1
      refine q_istore (pc := 21) [_, _, _, _, _] rfl (Nat.le_of_ble_eq_true rfl) rfl ?_
      refine q_iload (pc := 23) rfl rfl ?_
      refine q_iload_n (pc := 25) rfl rfl ?_
      first | refine n_icmple (pc := 26) rfl (by omega) (by omega) (fun h26 => ?_) (fun h26 => ?_) | refine q_icmple (pc := 26) rfl (fun h26 => ?_) (fun h26 => ?_)
      · first
        | (exfalso; omega (config := {splitDisjunctions := false}))
        | skip
          first | refine n_iinc (pc := 34) rfl [_, _, _, _, _] 1 (by decide) rfl rfl ?_ | refine q_iinc (pc := 34) [_, _, _, _, _] (1) rfl rfl (by decide) rfl ?_
          refine q_goto (pc := 37) rfl ?_
          have ih := c_worstL hd hl K kk n (i + 1) (by omega) h s1 H A (hs.tr k1) (some (.int (nI (bhN C E β (i + 1)))))
          unfold wrs at ih
          first
          | (rw [if_pos (by omega)] at ih
             exact ih)
          | (rw [if_neg (by omega)] at ih
             exact ih)
      · first
        | (exfalso; omega (config := {splitDisjunctions := false}))
        | skip
          refine q_iload (pc := 29) rfl rfl ?_
          refine q_istore_n (pc := 31) [_, _, _, _, _] rfl (Nat.le_of_ble_eq_true rfl) rfl ?_
          refine q_iload_n (pc := 32) rfl rfl ?_
          refine q_istore_n (pc := 33) [_, _, _, _, _] rfl (Nat.le_of_ble_eq_true rfl) rfl ?_
          first | refine n_iinc (pc := 34) rfl [_, _, _, _, _] 1 (by decide) rfl rfl ?_ | refine q_iinc (pc := 34) [_, _, _, _, _] (1) rfl rfl (by decide) rfl ?_
          refine q_goto (pc := 37) rfl ?_
          have ih := c_worstL hd hl K kk n (i + 1) (by omega) h s1 H A (hs.tr k1) (some (.int (nI (bhN C E β (i + 1)))))
          unfold wrs at ih
          first
          | (rw [if_pos (by omega)] at ih
             exact ih)
          | (rw [if_neg (by omega)] at ih
             exact ih)
termination_by n
theorem c_worst (hd : 16 ≤ d) (H : HR P h s) (hl : 51 ≤ P.1) (A : CA P s β κ ik tp tz C E σ sz cl) (K : AOK P.2.1 β κ ik tp tz σ sz) (kk : ∀ h' s', HR P h' s' → CA P s' β κ ik tp tz C E σ sz cl → sf s s' cS → Q (some (.int (nI (wrs (bhN C E β) 6).1))) h') : wc d 95 [.ref 0] h Q := by
  refine wc.go [_, _, _, _, _] rfl ?_
  refine q_iconst (pc := 0) rfl (nI 0) (by decide) ?_
  refine q_istore_n (pc := 1) [_, _, _, _, _] rfl (Nat.le_of_ble_eq_true rfl) rfl ?_
  refine q_aload_n (pc := 2) rfl rfl rfl ?_
  refine q_iconst (pc := 3) rfl (nI 0) (by decide) ?_
  refine q_callV (pc := 4) _ rfl rfl rfl (by first | exact HR.X' H hl | exact HR.B H hl isB9 hβ | exact HR.O H hl isB9 hβ hp | exact HR.B H hl isB1 A.1 | exact HR.R H hl A.2.2.2.2.2.1.1 | exact HR.O H hl isB1 A.1 hp | exact HR.c H hl _ rfl) rfl (Nat.le_of_ble_eq_true rfl) (by omega) _ rfl ?_
  refine c_behind (r := 0) (by omega) H hl A K (by omega) ?_
  intro h s1 H A k1
  refine q_istore_n (pc := 7) [_, _, _, _, _] rfl (Nat.le_of_ble_eq_true rfl) rfl ?_
  refine q_iconst (pc := 8) rfl (nI 1) (by decide) ?_
  refine q_istore_n (pc := 9) [_, _, _, _, _] rfl (Nat.le_of_ble_eq_true rfl) rfl ?_
  exact c_worstL hd hl K kk 6 0 (by omega) h s1 H A k1 _
def rch (x : Int32) : Nat := (x * nI 1103515245 + nI 12345).toBitVec.toNat / 512 % 7
theorem nI_tb (y : Int32) : nI y.toBitVec.toNat = y := by
  apply Int32.toBitVec_inj.mp
  apply BitVec.eq_of_toNat_eq
  exact pk_tn (BitVec.isLt _)
theorem ush9 (y : Int32) : (y.toUInt32 >>> ((nI 9).toUInt32 &&& Int32.toUInt32 31)).toInt32 = nI (y.toBitVec.toNat / 512) := by
  rw [← nI_tb ((y.toUInt32 >>> ((nI 9).toUInt32 &&& Int32.toUInt32 31)).toInt32), pk_ushr y (nI 9) 9 (by decide)]
theorem rch_le {x : Int32} : rch x ≤ 6 := by unfold rch; omega
theorem rch_lt {x : Int32} : (x * nI 1103515245 + nI 12345).toBitVec.toNat / 512 < 2 ^ 31 := by
  have := (x * nI 1103515245 + nI 12345).toBitVec.isLt
  omega
theorem c_reach (hq : Q (some (.int (nI (rch x)))) h) : wc d 114 [.int x] h Q := by
  have g1 := rch_lt (x := x)
  refine wc.go [_, _] rfl ?_
  refine q_iload_n (pc := 0) rfl rfl ?_
  refine q_ldcW (pc := 1) rfl (nI 1103515245) (by decide) ?_
  refine q_imul (pc := 4) rfl ?_
  refine q_sipush (pc := 5) rfl (nI 12345) (by decide) ?_
  refine q_iadd (pc := 8) rfl ?_
  refine q_istore_n (pc := 9) [_, _] rfl (Nat.le_of_ble_eq_true rfl) rfl ?_
  refine q_iload_n (pc := 10) rfl rfl ?_
  refine q_bipush (pc := 11) rfl (nI 9) (by decide) ?_
  refine q_iushr (pc := 13) rfl ?_
  rw [ush9]
  refine q_bipush (pc := 14) rfl (nI 7) (by decide) ?_
  first | refine n_irem (pc := 16) rfl (by omega) (by omega) (by omega) ?_ | refine q_irem (pc := 16) rfl (by decide) ?_
  refine q_iret (pc := 17) rfl (rfl) ?_
  unfold rch at hq
  exact hq
def o_drawn (C : Nat → Nat → Int32) (E : Nat → Nat → Nat) (β : Nat → Nat) (x : Int32) : Int32 := nI (bhN C E β (rch x))
theorem c_drawn (hd : 20 ≤ d) (H : HR P h s) (hl : 51 ≤ P.1) (A : CA P s β κ ik tp tz C E σ sz cl) (K : AOK P.2.1 β κ ik tp tz σ sz) (kk : ∀ h' s', HR P h' s' → CA P s' β κ ik tp tz C E σ sz cl → sf s s' cS → Q (some (.int (o_drawn C E β x))) h') : wc d 113 [.ref 0, .int x] h Q := by
  have K4 := K.1.2.2.1
  have KK := K.1
  have hT := A.2.2.2.2.2.1
  have hSh := A.2.2.2.2.2.2
  have kSh := K.2.2.2.2.2.2.2
  refine wc.go [_, _] rfl ?_
  refine q_aload_n (pc := 0) rfl rfl rfl ?_
  refine q_iload_n (pc := 1) rfl rfl ?_
  refine q_callS (pc := 2) _ (by decide) rfl rfl rfl rfl (Nat.le_of_ble_eq_true rfl) (by omega) _ rfl ?_
  refine c_reach ?_
  refine q_callV (pc := 5) _ rfl rfl rfl (by exact HR.X' H hl) rfl (Nat.le_of_ble_eq_true rfl) (by omega) _ rfl ?_
  refine c_behind (by omega) H hl A K rch_le ?_
  intro h s1 H A k1
  refine q_iret (pc := 8) rfl (rfl) ?_
  exact kk _ _ H A k1
theorem c_commonL {G : Nat} (hq : Q (some (.int (nI G))) h) (n i g l : Nat) (hi : i + n = 36) (hg : g < 2 ^ 31) (hl : l ≤ n) (hG : Nat.gcd g l = G) (x y : Int32) (z5 : Option Value) : wq d 103 7 [some (.int x), some (.int y), some (.int (nI g)), some (.int (nI l)), some (.int (nI i)), z5] [] h Q := by
  match n, hi, hl with
  | 0, hi, hl =>
    obtain rfl : l = 0 := by omega
    rw [Nat.gcd_zero_right] at hG
    subst hG
    refine q_iload (pc := 7) rfl rfl ?_
    refine q_bipush (pc := 9) rfl (nI 36) (by decide) ?_
    first | refine n_icmpge (pc := 11) rfl (by omega) (by omega) (fun h11 => ?_) (fun h11 => ?_) | refine q_icmpge (pc := 11) rfl (fun h11 => ?_) (fun h11 => ?_)
    · refine q_iload_n (pc := 34) rfl rfl ?_
      refine q_iret (pc := 35) rfl (rfl) ?_
      exact hq
    · first | (exfalso; omega) | exact absurd h11 (nI_pos (by omega)) | exact absurd (nI_pos' (by omega)) h11
  | n + 1, hi, hl =>
    refine q_iload (pc := 7) rfl rfl ?_
    refine q_bipush (pc := 9) rfl (nI 36) (by decide) ?_
    first | refine n_icmpge (pc := 11) rfl (by omega) (by omega) (fun h11 => ?_) (fun h11 => ?_) | refine q_icmpge (pc := 11) rfl (fun h11 => ?_) (fun h11 => ?_)
    · first | (exfalso; omega) | exact absurd h11 (nI_pos (by omega)) | exact absurd (nI_pos' (by omega)) h11
    · refine q_iload_n (pc := 14) rfl rfl ?_
      first | refine n_ifeq (pc := 15) rfl (by omega) (fun h15 => ?_) (fun h15 => ?_) | refine q_ifeq (pc := 15) rfl (fun h15 => ?_) (fun h15 => ?_)
      · first
        | (exfalso; omega (config := {splitDisjunctions := false}))
        | exact absurd rfl h15
        | skip
          refine q_iload_n (pc := 34) rfl rfl ?_
          refine q_iret (pc := 35) rfl (rfl) ?_
          subst h15
          rw [Nat.gcd_zero_right] at hG
          subst hG
          exact hq
      · first
        | (exfalso; omega (config := {splitDisjunctions := false}))
        | exact absurd rfl h15
        | skip
          refine q_iload_n (pc := 18) rfl rfl ?_
          refine q_iload_n (pc := 19) rfl rfl ?_
          first | refine n_irem (pc := 20) rfl (by omega) (by omega) (by omega) ?_ | refine q_irem (pc := 20) rfl (by decide) ?_
          refine q_istore (pc := 21) [_, _, _, _, _, _] rfl (Nat.le_of_ble_eq_true rfl) rfl ?_
          refine q_iload_n (pc := 23) rfl rfl ?_
          refine q_istore_n (pc := 24) [_, _, _, _, _, _] rfl (Nat.le_of_ble_eq_true rfl) rfl ?_
          refine q_iload (pc := 25) rfl rfl ?_
          refine q_istore_n (pc := 27) [_, _, _, _, _, _] rfl (Nat.le_of_ble_eq_true rfl) rfl ?_
          first | refine n_iinc (pc := 28) rfl [_, _, _, _, _, _] 1 (by decide) rfl rfl ?_ | refine q_iinc (pc := 28) [_, _, _, _, _, _] (1) rfl rfl (by decide) rfl ?_
          refine q_goto (pc := 31) rfl ?_
          have m1 := Nat.mod_lt g (show 0 < l by omega)
          exact c_commonL hq n (i + 1) l (g % l) (by omega) (by omega) (by omega) (by rw [Nat.gcd_comm, ← Nat.gcd_rec, Nat.gcd_comm]; exact hG) _ _ _
termination_by n
theorem c_common {i j : Nat} (hi : i < 2 ^ 31) (hj : j ≤ 36) (hq : Q (some (.int (nI (Nat.gcd i j)))) h) : wc d 103 [.int (nI i), .int (nI j)] h Q := by
  refine wc.go [_, _, _, _, _, _] rfl ?_
  refine q_iload_n (pc := 0) rfl rfl ?_
  refine q_istore_n (pc := 1) [_, _, _, _, _, _] rfl (Nat.le_of_ble_eq_true rfl) rfl ?_
  refine q_iload_n (pc := 2) rfl rfl ?_
  refine q_istore_n (pc := 3) [_, _, _, _, _, _] rfl (Nat.le_of_ble_eq_true rfl) rfl ?_
  refine q_iconst (pc := 4) rfl (nI 0) (by decide) ?_
  refine q_istore (pc := 5) [_, _, _, _, _, _] rfl (Nat.le_of_ble_eq_true rfl) rfl ?_
  exact c_commonL hq 36 0 i j (by omega) hi hj rfl _ _ _
def frN (i j : Nat) (x : Int32) : Int64 := if rg 2 x = 0 then lN (i / Nat.gcd i j) else if rg 2 x = 1 then lN (j / Nat.gcd i j) else -4611686018427387904
theorem lN_of_nI {i : Nat} (hi : i < 2 ^ 31) : (nI i).toInt64 = lN i := by
  apply Int64.toInt_inj.mp
  rw [pk_lT (by omega), Int32.toInt_toInt64, nI_toInt hi]
theorem c_fraction {i j : Nat} (hd : 1 ≤ d) (hi : i ≤ 36) (hj : j ≤ 36) (h0 : 0 < j) (hq : Q (some (.long (frN i j x))) h) : wc d 102 [.int (nI i), .int (nI j), .int x] h Q := by
  have g0 := Nat.gcd_pos_of_pos_right i h0
  have g1 := Nat.gcd_le_right i h0
  have d1 := Nat.div_le_self i (Nat.gcd i j)
  have d2 := Nat.div_le_self j (Nat.gcd i j)
  unfold frN at hq
  generalize hG : Nat.gcd i j = G at *
  rcases rgc 2 (by decide) x with ⟨w, hw, rfl, z1⟩ | ⟨g, z1⟩
  · rw [z1.out] at hq
    rcases (show w = 0 ∨ w = 1 by omega) with rfl | rfl
    · rw [if_pos rfl] at hq
      refine wc.go [_, _, _, _] rfl ?_
      refine q_iload_n (pc := 0) rfl rfl ?_
      refine q_iload_n (pc := 1) rfl rfl ?_
      refine q_callS (pc := 2) _ (by decide) rfl rfl rfl rfl (Nat.le_of_ble_eq_true rfl) (by omega) _ rfl ?_
      refine c_common (by omega) (by omega) ?_
      rw [hG]
      refine q_istore_n (pc := 5) [_, _, _, _] rfl (Nat.le_of_ble_eq_true rfl) rfl ?_
      refine q_iload_n (pc := 6) rfl rfl ?_
      first | refine n_ifeq (pc := 7) rfl (by omega) (fun h7 => ?_) (fun h7 => ?_) | refine q_ifeq (pc := 7) rfl (fun h7 => ?_) (fun h7 => ?_)
      · first | (exfalso; omega) | exact absurd h7 (nI_pos (by omega)) | exact absurd (nI_pos' (by omega)) h7
      · refine q_iload_n (pc := 10) rfl rfl ?_
        refine q_iflt (pc := 11) rfl (fun h11 => ?_) (fun h11 => ?_)
        · first | (exfalso; omega) | exact absurd h11 (nI_pos (by omega)) | exact absurd (nI_pos' (by omega)) h11
        · refine q_iload_n (pc := 14) rfl rfl ?_
          refine q_iconst (pc := 15) rfl (nI 1) (by decide) ?_
          first | refine n_icmple (pc := 16) rfl (by omega) (by omega) (fun h16 => ?_) (fun h16 => ?_) | refine q_icmple (pc := 16) rfl (fun h16 => ?_) (fun h16 => ?_)
          · refine q_iload_n (pc := 23) rfl rfl ?_
            first | refine n_ifne (pc := 24) rfl (by omega) (fun h24 => ?_) (fun h24 => ?_) | refine q_ifne (pc := 24) rfl (fun h24 => ?_) (fun h24 => ?_)
            · first | (exfalso; omega) | exact absurd h24 (nI_pos (by omega)) | exact absurd (nI_pos' (by omega)) h24
            · refine q_iload_n (pc := 27) rfl rfl ?_
              refine q_goto (pc := 28) rfl ?_
              refine q_iload_n (pc := 32) rfl rfl ?_
              first | refine n_idiv (pc := 33) rfl (by omega) (by omega) (by omega) ?_ | refine q_idiv (pc := 33) rfl (by decide) ?_
              refine q_i2l (pc := 34) rfl ?_
              rw [lN_of_nI (by omega)]
              refine q_lret (pc := 35) rfl rfl ?_
              exact hq
          · first | (exfalso; omega) | exact absurd h16 (nI_pos (by omega)) | exact absurd (nI_pos' (by omega)) h16
    · rw [if_neg (by decide), if_pos rfl] at hq
      refine wc.go [_, _, _, _] rfl ?_
      refine q_iload_n (pc := 0) rfl rfl ?_
      refine q_iload_n (pc := 1) rfl rfl ?_
      refine q_callS (pc := 2) _ (by decide) rfl rfl rfl rfl (Nat.le_of_ble_eq_true rfl) (by omega) _ rfl ?_
      refine c_common (by omega) (by omega) ?_
      rw [hG]
      refine q_istore_n (pc := 5) [_, _, _, _] rfl (Nat.le_of_ble_eq_true rfl) rfl ?_
      refine q_iload_n (pc := 6) rfl rfl ?_
      first | refine n_ifeq (pc := 7) rfl (by omega) (fun h7 => ?_) (fun h7 => ?_) | refine q_ifeq (pc := 7) rfl (fun h7 => ?_) (fun h7 => ?_)
      · first | (exfalso; omega) | exact absurd h7 (nI_pos (by omega)) | exact absurd (nI_pos' (by omega)) h7
      · refine q_iload_n (pc := 10) rfl rfl ?_
        refine q_iflt (pc := 11) rfl (fun h11 => ?_) (fun h11 => ?_)
        · first | (exfalso; omega) | exact absurd h11 (nI_pos (by omega)) | exact absurd (nI_pos' (by omega)) h11
        · refine q_iload_n (pc := 14) rfl rfl ?_
          refine q_iconst (pc := 15) rfl (nI 1) (by decide) ?_
          first | refine n_icmple (pc := 16) rfl (by omega) (by omega) (fun h16 => ?_) (fun h16 => ?_) | refine q_icmple (pc := 16) rfl (fun h16 => ?_) (fun h16 => ?_)
          · refine q_iload_n (pc := 23) rfl rfl ?_
            first | refine n_ifne (pc := 24) rfl (by omega) (fun h24 => ?_) (fun h24 => ?_) | refine q_ifne (pc := 24) rfl (fun h24 => ?_) (fun h24 => ?_)
            · refine q_iload_n (pc := 31) rfl rfl ?_
              refine q_iload_n (pc := 32) rfl rfl ?_
              first | refine n_idiv (pc := 33) rfl (by omega) (by omega) (by omega) ?_ | refine q_idiv (pc := 33) rfl (by decide) ?_
              refine q_i2l (pc := 34) rfl ?_
              rw [lN_of_nI (by omega)]
              refine q_lret (pc := 35) rfl rfl ?_
              exact hq
            · first | (exfalso; omega) | exact absurd h24 (nI_pos (by omega)) | exact absurd (nI_pos' (by omega)) h24
          · first | (exfalso; omega) | exact absurd h16 (nI_pos (by omega)) | exact absurd (nI_pos' (by omega)) h16
  · rw [z1.out, if_neg (by decide), if_neg (by decide)] at hq
    refine wc.go [_, _, _, _] rfl ?_
    refine q_iload_n (pc := 0) rfl rfl ?_
    refine q_iload_n (pc := 1) rfl rfl ?_
    refine q_callS (pc := 2) _ (by decide) rfl rfl rfl rfl (Nat.le_of_ble_eq_true rfl) (by omega) _ rfl ?_
    refine c_common (by omega) (by omega) ?_
    rw [hG]
    refine q_istore_n (pc := 5) [_, _, _, _] rfl (Nat.le_of_ble_eq_true rfl) rfl ?_
    refine q_iload_n (pc := 6) rfl rfl ?_
    first | refine n_ifeq (pc := 7) rfl (by omega) (fun h7 => ?_) (fun h7 => ?_) | refine q_ifeq (pc := 7) rfl (fun h7 => ?_) (fun h7 => ?_)
    · first | (exfalso; omega) | exact absurd h7 (nI_pos (by omega)) | exact absurd (nI_pos' (by omega)) h7
    · refine q_iload_n (pc := 10) rfl rfl ?_
      refine q_iflt (pc := 11) rfl (fun h11 => ?_) (fun h11 => ?_)
      · first
        | (exfalso; omega (config := {splitDisjunctions := false}))
        | skip
          refine q_ldc2 (pc := 19) rfl (-4611686018427387904) (by decide) ?_
          refine q_lret (pc := 22) rfl rfl ?_
          exact hq
      · first
        | (exfalso; omega (config := {splitDisjunctions := false}))
        | skip
          refine q_iload_n (pc := 14) rfl rfl ?_
          refine q_iconst (pc := 15) rfl (nI 1) (by decide) ?_
          refine q_icmple (pc := 16) rfl (fun h16 => ?_) (fun h16 => ?_)
          · exact (z_out (m := 2) g h11 h16 (by decide)).elim
          · first
            | (exfalso; omega (config := {splitDisjunctions := false}))
            | skip
              refine q_ldc2 (pc := 19) rfl (-4611686018427387904) (by decide) ?_
              refine q_lret (pc := 22) rfl rfl ?_
              exact hq
def chc (C : Nat → Nat → Int32) (E : Nat → Nat → Nat) (β : Nat → Nat) (x : Int32) (k : Nat) : Nat → Bool := fun i => decide (k ≤ bhN C E β (rch (x + nI i)))
def o_chance (C : Nat → Nat → Int32) (E : Nat → Nat → Nat) (β : Nat → Nat) (x y z w : Int32) : Int64 := if rg 21 y < 21 ∧ ¬ rg 21 y = 0 ∧ rg 37 z < 37 then frN (cntf (chc C E β x (rg 37 z)) (rg 21 y)) (rg 21 y) w else -4611686018427387904
theorem c_chanceL {N k0 : Nat} (hd : 20 ≤ d) (hl : 51 ≤ P.1) (K : AOK P.2.1 β κ ik tp tz σ sz) (hN : N ≤ 20) (h0 : 0 < N) (hk0 : k0 ≤ 36) {s0 : mx_St} (kk : ∀ h' s', HR P h' s' → CA P s' β κ ik tp tz C E σ sz cl → sf s0 s' cS → Q (some (.long (frN (cntf (chc C E β x k0) N) N w))) h') (n i : Nat) (hi : i + n = N) (h : mx_H) (s : mx_St) (H : HR P h s) (A : CA P s β κ ik tp tz C E σ sz cl) (hs : sf s0 s cS) : wq d 115 31 [some (.ref 0), some (.int x), some (.int (nI N)), some (.int (nI k0)), some (.int w), some (.int (nI (cntf (chc C E β x k0) i))), some (.int (nI i))] [] h Q := by
  have b1 := cntf_le (chc C E β x k0) i
  match n, hi with
  | 0, hi =>
    obtain rfl : i = N := by omega
    refine q_iload (pc := 31) rfl rfl ?_
    refine q_iload_n (pc := 33) rfl rfl ?_
    first | refine n_icmpge (pc := 34) rfl (by omega) (by omega) (fun h34 => ?_) (fun h34 => ?_) | refine q_icmpge (pc := 34) rfl (fun h34 => ?_) (fun h34 => ?_)
    · refine q_iload (pc := 68) rfl rfl ?_
      refine q_iload_n (pc := 70) rfl rfl ?_
      refine q_iload (pc := 71) rfl rfl ?_
      refine q_callS (pc := 73) _ (by decide) rfl rfl rfl rfl (Nat.le_of_ble_eq_true rfl) (by omega) _ rfl ?_
      refine c_fraction (by omega) (by omega) (by omega) h0 ?_
      refine q_lret (pc := 76) rfl rfl ?_
      exact kk _ _ H A hs
    · first | (exfalso; omega) | exact absurd h34 (nI_pos (by omega)) | exact absurd (nI_pos' (by omega)) h34
  | n + 1, hi =>
    have b4 := bhN_le (C := C) (E := E) (β := β) (r := rch (x + nI i))
    refine q_iload (pc := 31) rfl rfl ?_
    refine q_iload_n (pc := 33) rfl rfl ?_
    first | refine n_icmpge (pc := 34) rfl (by omega) (by omega) (fun h34 => ?_) (fun h34 => ?_) | refine q_icmpge (pc := 34) rfl (fun h34 => ?_) (fun h34 => ?_)
    · first | (exfalso; omega) | exact absurd h34 (nI_pos (by omega)) | exact absurd (nI_pos' (by omega)) h34
    · refine q_iload (pc := 37) rfl rfl ?_
      refine q_aload_n (pc := 39) rfl rfl rfl ?_
      refine q_iload_n (pc := 40) rfl rfl ?_
      refine q_iload (pc := 41) rfl rfl ?_
      refine q_iadd (pc := 43) rfl ?_
      refine q_callS (pc := 44) _ (by decide) rfl rfl rfl rfl (Nat.le_of_ble_eq_true rfl) (by omega) _ rfl ?_
      refine c_reach ?_
      refine q_callV (pc := 47) _ rfl rfl rfl (by exact HR.X' H hl) rfl (Nat.le_of_ble_eq_true rfl) (by omega) _ rfl ?_
      refine c_behind (by omega) H hl A K rch_le ?_
      intro h s1 H A k1
      refine q_iload_n (pc := 50) rfl rfl ?_
      first | refine n_icmplt (pc := 51) rfl (by omega) (by omega) (fun h51 => ?_) (fun h51 => ?_) | refine q_icmplt (pc := 51) rfl (fun h51 => ?_) (fun h51 => ?_)
      · first
        | (exfalso; omega (config := {splitDisjunctions := false}))
        | skip
          refine q_iconst (pc := 58) rfl (nI 0) (by decide) ?_
          first | refine n_iadd (pc := 59) rfl ?_ | refine q_iadd (pc := 59) rfl ?_
          refine q_istore (pc := 60) [_, _, _, _, _, _, _] rfl (Nat.le_of_ble_eq_true rfl) rfl ?_
          first | refine n_iinc (pc := 62) rfl [_, _, _, _, _, _, _] 1 (by decide) rfl rfl ?_ | refine q_iinc (pc := 62) [_, _, _, _, _, _, _] (1) rfl rfl (by decide) rfl ?_
          refine q_goto (pc := 65) rfl ?_
          have ih := c_chanceL hd hl K hN h0 hk0 kk n (i + 1) (by omega) h s1 H A (hs.tr k1)
          rw [cntf] at ih
          first
          | (rw [show chc C E β x k0 i = true from decide_eq_true (by omega)] at ih
             exact ih)
          | (rw [show chc C E β x k0 i = false from decide_eq_false (by omega)] at ih
             exact ih)
      · first
        | (exfalso; omega (config := {splitDisjunctions := false}))
        | skip
          refine q_iconst (pc := 54) rfl (nI 1) (by decide) ?_
          refine q_goto (pc := 55) rfl ?_
          first | refine n_iadd (pc := 59) rfl ?_ | refine q_iadd (pc := 59) rfl ?_
          refine q_istore (pc := 60) [_, _, _, _, _, _, _] rfl (Nat.le_of_ble_eq_true rfl) rfl ?_
          first | refine n_iinc (pc := 62) rfl [_, _, _, _, _, _, _] 1 (by decide) rfl rfl ?_ | refine q_iinc (pc := 62) [_, _, _, _, _, _, _] (1) rfl rfl (by decide) rfl ?_
          refine q_goto (pc := 65) rfl ?_
          have ih := c_chanceL hd hl K hN h0 hk0 kk n (i + 1) (by omega) h s1 H A (hs.tr k1)
          rw [cntf] at ih
          first
          | (rw [show chc C E β x k0 i = true from decide_eq_true (by omega)] at ih
             exact ih)
          | (rw [show chc C E β x k0 i = false from decide_eq_false (by omega)] at ih
             exact ih)
termination_by n
theorem c_chance (hd : 20 ≤ d) (H : HR P h s) (hl : 51 ≤ P.1) (A : CA P s β κ ik tp tz C E σ sz cl) (K : AOK P.2.1 β κ ik tp tz σ sz) (kk : ∀ h' s', HR P h' s' → CA P s' β κ ik tp tz C E σ sz cl → sf s s' cS → Q (some (.long (o_chance C E β x y z w))) h') : wc d 115 [.ref 0, .int x, .int y, .int z, .int w] h Q := by
  have K4 := K.1.2.2.1
  have KK := K.1
  have hT := A.2.2.2.2.2.1
  have hSh := A.2.2.2.2.2.2
  have kSh := K.2.2.2.2.2.2.2
  rcases rgc 21 (by decide) y with ⟨m0, hm0, rfl, z1⟩ | ⟨g, z1⟩
  · rcases rgc 37 (by decide) z with ⟨k0, hk0, rfl, z2⟩ | ⟨g, z2⟩
    ·
      refine wc.go [_, _, _, _, _, _, _] rfl ?_
      refine q_iload_n (pc := 0) rfl rfl ?_
      refine q_iconst (pc := 1) rfl (nI 1) (by decide) ?_
      first | refine n_icmplt (pc := 2) rfl (by omega) (by omega) (fun h2 => ?_) (fun h2 => ?_) | refine q_icmplt (pc := 2) rfl (fun h2 => ?_) (fun h2 => ?_)
      · first
        | (exfalso; omega (config := {splitDisjunctions := false}))
        | skip
          refine q_ldc2 (pc := 21) rfl (-4611686018427387904) (by decide) ?_
          refine q_lret (pc := 24) rfl rfl ?_
          refine eqL ?_ (kk _ _ H A sf.rf)
          unfold o_chance
          rw [z1.out, if_neg (by omega)]
      · first
        | (exfalso; omega (config := {splitDisjunctions := false}))
        | skip
          refine q_iload_n (pc := 5) rfl rfl ?_
          refine q_bipush (pc := 6) rfl (nI 20) (by decide) ?_
          first | refine n_icmpgt (pc := 8) rfl (by omega) (by omega) (fun h8 => ?_) (fun h8 => ?_) | refine q_icmpgt (pc := 8) rfl (fun h8 => ?_) (fun h8 => ?_)
          · first | (exfalso; omega) | exact absurd h8 (nI_pos (by omega)) | exact absurd (nI_pos' (by omega)) h8
          · refine q_iload_n (pc := 11) rfl rfl ?_
            refine q_iflt (pc := 12) rfl (fun h12 => ?_) (fun h12 => ?_)
            · first | (exfalso; omega) | exact absurd h12 (nI_pos (by omega)) | exact absurd (nI_pos' (by omega)) h12
            · refine q_iload_n (pc := 15) rfl rfl ?_
              refine q_bipush (pc := 16) rfl (nI 36) (by decide) ?_
              first | refine n_icmple (pc := 18) rfl (by omega) (by omega) (fun h18 => ?_) (fun h18 => ?_) | refine q_icmple (pc := 18) rfl (fun h18 => ?_) (fun h18 => ?_)
              · refine q_iconst (pc := 25) rfl (nI 0) (by decide) ?_
                refine q_istore (pc := 26) [_, _, _, _, _, _, _] rfl (Nat.le_of_ble_eq_true rfl) rfl ?_
                refine q_iconst (pc := 28) rfl (nI 0) (by decide) ?_
                refine q_istore (pc := 29) [_, _, _, _, _, _, _] rfl (Nat.le_of_ble_eq_true rfl) rfl ?_
                have e1 : o_chance C E β x (nI m0) (nI k0) w = frN (cntf (chc C E β x k0) m0) m0 w := by
                  unfold o_chance
                  rw [z1.out, z2.out, if_pos (by omega)]
                rw [e1] at kk
                exact c_chanceL hd hl K (by omega) (by omega) (by omega) kk m0 0 (by omega) h s H A sf.rf
              · first | (exfalso; omega) | exact absurd h18 (nI_pos (by omega)) | exact absurd (nI_pos' (by omega)) h18
    ·
      refine wc.go [_, _, _, _, _, _, _] rfl ?_
      refine q_iload_n (pc := 0) rfl rfl ?_
      refine q_iconst (pc := 1) rfl (nI 1) (by decide) ?_
      first | refine n_icmplt (pc := 2) rfl (by omega) (by omega) (fun h2 => ?_) (fun h2 => ?_) | refine q_icmplt (pc := 2) rfl (fun h2 => ?_) (fun h2 => ?_)
      · first
        | (exfalso; omega (config := {splitDisjunctions := false}))
        | skip
          refine q_ldc2 (pc := 21) rfl (-4611686018427387904) (by decide) ?_
          refine q_lret (pc := 24) rfl rfl ?_
          first
          | (refine eqL ?_ (kk _ _ H A sf.rf)
             unfold o_chance
             rw [z1.out, if_neg (by omega)])
          | (refine eqL ?_ (kk _ _ H A sf.rf)
             unfold o_chance
             rw [z2.out, if_neg (by omega)])
      · first
        | (exfalso; omega (config := {splitDisjunctions := false}))
        | skip
          refine q_iload_n (pc := 5) rfl rfl ?_
          refine q_bipush (pc := 6) rfl (nI 20) (by decide) ?_
          first | refine n_icmpgt (pc := 8) rfl (by omega) (by omega) (fun h8 => ?_) (fun h8 => ?_) | refine q_icmpgt (pc := 8) rfl (fun h8 => ?_) (fun h8 => ?_)
          · first | (exfalso; omega) | exact absurd h8 (nI_pos (by omega)) | exact absurd (nI_pos' (by omega)) h8
          · refine q_iload_n (pc := 11) rfl rfl ?_
            refine q_iflt (pc := 12) rfl (fun h12 => ?_) (fun h12 => ?_)
            · first
              | (exfalso; omega (config := {splitDisjunctions := false}))
              | skip
                refine q_ldc2 (pc := 21) rfl (-4611686018427387904) (by decide) ?_
                refine q_lret (pc := 24) rfl rfl ?_
                first
                | (refine eqL ?_ (kk _ _ H A sf.rf)
                   unfold o_chance
                   rw [z1.out, if_neg (by omega)])
                | (refine eqL ?_ (kk _ _ H A sf.rf)
                   unfold o_chance
                   rw [z2.out, if_neg (by omega)])
            · first
              | (exfalso; omega (config := {splitDisjunctions := false}))
              | skip
                refine q_iload_n (pc := 15) rfl rfl ?_
                refine q_bipush (pc := 16) rfl (nI 36) (by decide) ?_
                refine q_icmple (pc := 18) rfl (fun h18 => ?_) (fun h18 => ?_)
                · exact (z_out (m := 37) g h12 h18 (by decide)).elim
                · first
                  | (exfalso; omega (config := {splitDisjunctions := false}))
                  | skip
                    refine q_ldc2 (pc := 21) rfl (-4611686018427387904) (by decide) ?_
                    refine q_lret (pc := 24) rfl rfl ?_
                    first
                    | (refine eqL ?_ (kk _ _ H A sf.rf)
                       unfold o_chance
                       rw [z1.out, if_neg (by omega)])
                    | (refine eqL ?_ (kk _ _ H A sf.rf)
                       unfold o_chance
                       rw [z2.out, if_neg (by omega)])
  ·
    refine wc.go [_, _, _, _, _, _, _] rfl ?_
    refine q_iload_n (pc := 0) rfl rfl ?_
    refine q_iconst (pc := 1) rfl (nI 1) (by decide) ?_
    refine q_icmplt (pc := 2) rfl (fun h2 => ?_) (fun h2 => ?_)
    · first
      | (exfalso; omega (config := {splitDisjunctions := false}))
      | skip
        refine q_ldc2 (pc := 21) rfl (-4611686018427387904) (by decide) ?_
        refine q_lret (pc := 24) rfl rfl ?_
        refine eqL ?_ (kk _ _ H A sf.rf)
        unfold o_chance
        rw [z1.out, if_neg (by omega)]
    · first
      | (exfalso; omega (config := {splitDisjunctions := false}))
      | skip
        refine q_iload_n (pc := 5) rfl rfl ?_
        refine q_bipush (pc := 6) rfl (nI 20) (by decide) ?_
        refine q_icmpgt (pc := 8) rfl (fun h8 => ?_) (fun h8 => ?_)
        · first
          | (exfalso; omega (config := {splitDisjunctions := false}))
          | skip
            refine q_ldc2 (pc := 21) rfl (-4611686018427387904) (by decide) ?_
            refine q_lret (pc := 24) rfl rfl ?_
            refine eqL ?_ (kk _ _ H A sf.rf)
            unfold o_chance
            rw [z1.out, if_neg (by omega)]
        · exact (g.elim (fun e => h2 (Int32.lt_trans e (by decide))) (fun e => absurd (Int32.lt_of_lt_of_le (show nI 20 < nI 21 by decide) e) h8)).elim
def shN (β : Nat → Nat) (r : Nat) : Nat → Bool := fun k => wrn β (r * 6 + k)
def o_share (β : Nat → Nat) (x y : Int32) : Int64 := if rg 6 x < 6 ∧ ¬ popN (wbs β) = 0 then frN (cntf (shN β (rg 6 x)) 6) (popN (wbs β)) y else -4611686018427387904
theorem c_shareL {r : Nat} (hd : 4 ≤ d) (hl : 51 ≤ P.1) (H : HR P h s) (A : CA P s β κ ik tp tz C E σ sz cl) (K : AOK P.2.1 β κ ik tp tz σ sz) (hr : r < 6) (h0 : 0 < popN (wbs β)) (kk : Q (some (.long (frN (cntf (shN β r) 6) (popN (wbs β)) y))) h) (n i : Nat) (hi : i + n = 6) : wq d 101 32 [some (.ref 0), some (.int (nI r)), some (.int y), some (.int (nI (popN (wbs β)))), some (.int (nI (cntf (shN β r) i))), some (.int (nI i))] [] h Q := by
  have b1 := cntf_le (shN β r) i
  have b2 : popN (wbs β) ≤ 36 := cntf_le _ _
  match n, hi with
  | 0, hi =>
    obtain rfl : i = 6 := by omega
    refine q_iload (pc := 32) rfl rfl ?_
    refine q_bipush (pc := 34) rfl (nI 6) (by decide) ?_
    first | refine n_icmpge (pc := 36) rfl (by omega) (by omega) (fun h36 => ?_) (fun h36 => ?_) | refine q_icmpge (pc := 36) rfl (fun h36 => ?_) (fun h36 => ?_)
    · refine q_iload (pc := 65) rfl rfl ?_
      refine q_iload_n (pc := 67) rfl rfl ?_
      refine q_iload_n (pc := 68) rfl rfl ?_
      refine q_callS (pc := 69) _ (by decide) rfl rfl rfl rfl (Nat.le_of_ble_eq_true rfl) (by omega) _ rfl ?_
      refine c_fraction (by omega) (by omega) (by omega) h0 ?_
      refine q_lret (pc := 72) rfl rfl ?_
      exact kk
    · first | (exfalso; omega) | exact absurd h36 (nI_pos (by omega)) | exact absurd (nI_pos' (by omega)) h36
  | n + 1, hi =>
    refine q_iload (pc := 32) rfl rfl ?_
    refine q_bipush (pc := 34) rfl (nI 6) (by decide) ?_
    first | refine n_icmpge (pc := 36) rfl (by omega) (by omega) (fun h36 => ?_) (fun h36 => ?_) | refine q_icmpge (pc := 36) rfl (fun h36 => ?_) (fun h36 => ?_)
    · first | (exfalso; omega) | exact absurd h36 (nI_pos (by omega)) | exact absurd (nI_pos' (by omega)) h36
    · refine q_aload_n (pc := 39) rfl rfl rfl ?_
      refine q_getf (pc := 40) rfl (by first | exact HR.X' H hl | exact HR.B H hl isB1 A.1 | exact HR.R H hl A.2.2.2.2.2.1.1 | exact HR.O H hl isB1 A.1 hp | exact HR.c H hl _ rfl) rfl rfl ?_
      refine q_iload_n (pc := 43) rfl rfl ?_
      refine q_bipush (pc := 44) rfl (nI 6) (by decide) ?_
      first | refine n_imul (pc := 46) rfl ?_ | refine q_imul (pc := 46) rfl ?_
      refine q_iload (pc := 47) rfl rfl ?_
      first | refine n_iadd (pc := 49) rfl ?_ | refine q_iadd (pc := 49) rfl ?_
      refine q_callV (pc := 50) _ rfl rfl rfl (by first | exact HR.X' H hl | exact HR.B H hl isB1 A.1 | exact HR.R H hl A.2.2.2.2.2.1.1 | exact HR.O H hl isB1 A.1 hp | exact HR.c H hl _ rfl) rfl (Nat.le_of_ble_eq_true rfl) (by omega) _ rfl ?_
      refine c_isWrong (by omega) H hl isB1 A.1 (by omega) (fun hw => ?_) (fun hw => ?_) K.1.1
      · refine q_ifeq (pc := 53) rfl (fun z => absurd z (by decide)) (fun _ => ?_)
        first | refine n_iinc (pc := 56) rfl [_, _, _, _, _, _] 1 (by decide) rfl rfl ?_ | refine q_iinc (pc := 56) [_, _, _, _, _, _] (1) rfl rfl (by decide) rfl ?_
        first | refine n_iinc (pc := 59) rfl [_, _, _, _, _, _] 1 (by decide) rfl rfl ?_ | refine q_iinc (pc := 59) [_, _, _, _, _, _] (1) rfl rfl (by decide) rfl ?_
        refine q_goto (pc := 62) rfl ?_
        have ih := c_shareL hd hl H A K hr h0 kk n (i + 1) (by omega)
        rw [cntf] at ih
        first
        | (rw [show shN β r i = true from hw] at ih
           exact ih)
        | (rw [show shN β r i = false from hw] at ih
           exact ih)
      · refine q_ifeq (pc := 53) rfl (fun _ => ?_) (fun z => absurd (by decide) z)
        first | refine n_iinc (pc := 59) rfl [_, _, _, _, _, _] 1 (by decide) rfl rfl ?_ | refine q_iinc (pc := 59) [_, _, _, _, _, _] (1) rfl rfl (by decide) rfl ?_
        refine q_goto (pc := 62) rfl ?_
        have ih := c_shareL hd hl H A K hr h0 kk n (i + 1) (by omega)
        rw [cntf] at ih
        first
        | (rw [show shN β r i = true from hw] at ih
           exact ih)
        | (rw [show shN β r i = false from hw] at ih
           exact ih)
termination_by n
theorem c_share (hd : 20 ≤ d) (H : HR P h s) (hl : 51 ≤ P.1) (A : CA P s β κ ik tp tz C E σ sz cl) (K : AOK P.2.1 β κ ik tp tz σ sz) (kk : ∀ h' s', HR P h' s' → CA P s' β κ ik tp tz C E σ sz cl → sf s s' cS → Q (some (.long (o_share β x y))) h') : wc d 101 [.ref 0, .int x, .int y] h Q := by
  have K4 := K.1.2.2.1
  have KK := K.1
  have hT := A.2.2.2.2.2.1
  have hSh := A.2.2.2.2.2.2
  have kSh := K.2.2.2.2.2.2.2
  rcases rgc 6 (by decide) x with ⟨r, hr, rfl, z1⟩ | ⟨g, z1⟩
  ·
    refine wc.go [_, _, _, _, _, _] rfl ?_
    refine q_aload_n (pc := 0) rfl rfl rfl ?_
    refine q_getf (pc := 1) rfl (by first | exact HR.X' H hl | exact HR.B H hl isB1 A.1 | exact HR.R H hl A.2.2.2.2.2.1.1 | exact HR.O H hl isB1 A.1 hp | exact HR.c H hl _ rfl) rfl rfl ?_
    refine q_callV (pc := 4) _ rfl rfl rfl (by first | exact HR.X' H hl | exact HR.B H hl isB1 A.1 | exact HR.R H hl A.2.2.2.2.2.1.1 | exact HR.O H hl isB1 A.1 hp | exact HR.c H hl _ rfl) rfl (Nat.le_of_ble_eq_true rfl) (by omega) _ rfl ?_
    have b2 : popN (wbs β) ≤ 36 := cntf_le _ _
    refine c_wrongCells (by omega) H hl isB1 A.1 KK.1 ?_
    refine q_istore_n (pc := 7) [_, _, _, _, _, _] rfl (Nat.le_of_ble_eq_true rfl) rfl ?_
    refine q_iload_n (pc := 8) rfl rfl ?_
    refine q_iflt (pc := 9) rfl (fun h9 => ?_) (fun h9 => ?_)
    · first | (exfalso; omega) | exact absurd h9 (nI_pos (by omega)) | exact absurd (nI_pos' (by omega)) h9
    · refine q_iload_n (pc := 12) rfl rfl ?_
      refine q_bipush (pc := 13) rfl (nI 6) (by decide) ?_
      first | refine n_icmpge (pc := 15) rfl (by omega) (by omega) (fun h15 => ?_) (fun h15 => ?_) | refine q_icmpge (pc := 15) rfl (fun h15 => ?_) (fun h15 => ?_)
      · first | (exfalso; omega) | exact absurd h15 (nI_pos (by omega)) | exact absurd (nI_pos' (by omega)) h15
      · refine q_iload_n (pc := 18) rfl rfl ?_
        first | refine n_ifne (pc := 19) rfl (by omega) (fun h19 => ?_) (fun h19 => ?_) | refine q_ifne (pc := 19) rfl (fun h19 => ?_) (fun h19 => ?_)
        · first
          | (exfalso; omega (config := {splitDisjunctions := false}))
          | exact absurd rfl h19
          | skip
            refine q_iconst (pc := 26) rfl (nI 0) (by decide) ?_
            refine q_istore (pc := 27) [_, _, _, _, _, _] rfl (Nat.le_of_ble_eq_true rfl) rfl ?_
            refine q_iconst (pc := 29) rfl (nI 0) (by decide) ?_
            refine q_istore (pc := 30) [_, _, _, _, _, _] rfl (Nat.le_of_ble_eq_true rfl) rfl ?_
            have e1 : o_share β (nI r) y = frN (cntf (shN β r) 6) (popN (wbs β)) y := by
              unfold o_share
              rw [z1.out, if_pos (by omega)]
            rw [e1] at kk
            exact c_shareL (by omega) hl H A K hr (by omega) (kk _ _ H A sf.rf) 6 0 (by omega)
        · first
          | (exfalso; omega (config := {splitDisjunctions := false}))
          | exact absurd rfl h19
          | skip
            refine q_ldc2 (pc := 22) rfl (-4611686018427387904) (by decide) ?_
            refine q_lret (pc := 25) rfl rfl ?_
            refine eqL ?_ (kk _ _ H A sf.rf)
            unfold o_share
            rw [z1.out, if_neg (by omega)]
  ·
    refine wc.go [_, _, _, _, _, _] rfl ?_
    refine q_aload_n (pc := 0) rfl rfl rfl ?_
    refine q_getf (pc := 1) rfl (by first | exact HR.X' H hl | exact HR.B H hl isB1 A.1 | exact HR.R H hl A.2.2.2.2.2.1.1 | exact HR.O H hl isB1 A.1 hp | exact HR.c H hl _ rfl) rfl rfl ?_
    refine q_callV (pc := 4) _ rfl rfl rfl (by first | exact HR.X' H hl | exact HR.B H hl isB1 A.1 | exact HR.R H hl A.2.2.2.2.2.1.1 | exact HR.O H hl isB1 A.1 hp | exact HR.c H hl _ rfl) rfl (Nat.le_of_ble_eq_true rfl) (by omega) _ rfl ?_
    refine c_wrongCells (by omega) H hl isB1 A.1 KK.1 ?_
    refine q_istore_n (pc := 7) [_, _, _, _, _, _] rfl (Nat.le_of_ble_eq_true rfl) rfl ?_
    refine q_iload_n (pc := 8) rfl rfl ?_
    refine q_iflt (pc := 9) rfl (fun h9 => ?_) (fun h9 => ?_)
    · first
      | (exfalso; omega (config := {splitDisjunctions := false}))
      | skip
        refine q_ldc2 (pc := 22) rfl (-4611686018427387904) (by decide) ?_
        refine q_lret (pc := 25) rfl rfl ?_
        refine eqL ?_ (kk _ _ H A sf.rf)
        unfold o_share
        rw [z1.out, if_neg (by omega)]
    · first
      | (exfalso; omega (config := {splitDisjunctions := false}))
      | skip
        refine q_iload_n (pc := 12) rfl rfl ?_
        refine q_bipush (pc := 13) rfl (nI 6) (by decide) ?_
        refine q_icmpge (pc := 15) rfl (fun h15 => ?_) (fun h15 => ?_)
        · first
          | (exfalso; omega (config := {splitDisjunctions := false}))
          | skip
            refine q_ldc2 (pc := 22) rfl (-4611686018427387904) (by decide) ?_
            refine q_lret (pc := 25) rfl rfl ?_
            refine eqL ?_ (kk _ _ H A sf.rf)
            unfold o_share
            rw [z1.out, if_neg (by omega)]
        · exact (g.elim h9 h15).elim
def nrs (f : Nat → Nat) : Nat → Nat × Nat
  | 0 => (9, 0)
  | n + 1 => if (nrs f n).1 = 9 ∨ f n < (nrs f n).2 then (n, f n) else nrs f n
def oc9 (q v : Nat) : Int32 := if q = 9 then -1 else nI v
theorem nrs_b (f : Nat → Nat) (N : Nat) (hN : N ≤ 9) (hf : ∀ i, i < N → f i ≤ 200) : ∀ n, n ≤ N → ((nrs f n).1 = 9 ∨ (nrs f n).1 < n) ∧ (nrs f n).2 ≤ 200 := by
  intro n
  induction n with
  | zero => intro _; exact ⟨Or.inl rfl, Nat.zero_le _⟩
  | succ n ih =>
    intro hn
    have h1 := ih (by omega)
    have h2 := hf n (by omega)
    unfold nrs
    split
    · exact ⟨Or.inr (by show n < n + 1; omega), h2⟩
    · exact ⟨by omega, h1.2⟩
theorem oc9_m {q v : Nat} (hv : v < 2 ^ 31) : oc9 q v = -1 ↔ q = 9 := by
  unfold oc9
  constructor
  · intro e
    split at e
    · assumption
    · exact absurd e (nI_m1 hv)
  · intro e
    rw [if_pos e]
def o_nearest (C : Nat → Nat → Int32) (E : Nat → Nat → Nat) (β : Nat → Nat) (x y : Int32) : Int32 := if rg 36 x < 36 ∧ rg 2 y < 2 then (if rg 2 y = 0 then oc9 (nrs (fun p => mnN C E β p (rg 36 x)) (β 88)).1 (nrs (fun p => mnN C E β p (rg 36 x)) (β 88)).1 else oc9 (nrs (fun p => mnN C E β p (rg 36 x)) (β 88)).1 (nrs (fun p => mnN C E β p (rg 36 x)) (β 88)).2) else -2
theorem c_nearL2 {c0 w : Nat} (hd : 8 ≤ d) (hl : 51 ≤ P.1) (K : AOK P.2.1 β κ ik tp tz σ sz) (hc : c0 < 36) (hw : w < 2) {s0 : mx_St} (F : Nat → Nat) (hF : ∀ p, mnN C E β p c0 = F p) (kk : ∀ h' s', HR P h' s' → CA P s' β κ ik tp tz C E σ sz cl → sf s0 s' cS → Q (some (.int (if w = 0 then oc9 (nrs F (β 88)).1 (nrs F (β 88)).1 else oc9 (nrs F (β 88)).1 (nrs F (β 88)).2))) h') (n i : Nat) (hi : i + n = 4) (r : Nat × Nat) (hr : r = nrs F (min i (β 88))) (h : mx_H) (s : mx_St) (H : HR P h s) (A : CA P s β κ ik tp tz C E σ sz cl) (hs : sf s0 s cS) (z6 z7 : Option Value) : wq d 100 27 [some (.ref 0), some (.int (nI c0)), some (.int (nI w)), some (.int (oc9 r.1 r.1)), some (.int (oc9 r.1 r.2)), some (.int (nI i)), z6, z7] [] h Q := by
  have K4 := K.1.2.2.1
  have bF : ∀ i, i < 4 → F i ≤ 200 := fun i hi => by
    rw [← hF i]
    have := mnN_le (C := C) (E := E) K.1 hi hc
    omega
  obtain ⟨b1, b2⟩ := nrs_b F 4 (by decide) bF (min i (β 88)) (by omega)
  rw [← hr] at b1 b2
  match n, hi with
  | 0, hi =>
    rw [show min i (β 88) = β 88 by omega] at hr
    rw [← hr] at kk
    refine q_iload (pc := 27) rfl rfl ?_
    refine q_iconst (pc := 29) rfl (nI 4) (by decide) ?_
    first | refine n_icmpge (pc := 30) rfl (by omega) (by omega) (fun h30 => ?_) (fun h30 => ?_) | refine q_icmpge (pc := 30) rfl (fun h30 => ?_) (fun h30 => ?_)
    · refine q_iload_n (pc := 90) rfl rfl ?_
      first | refine n_ifne (pc := 91) rfl (by omega) (fun h91 => ?_) (fun h91 => ?_) | refine q_ifne (pc := 91) rfl (fun h91 => ?_) (fun h91 => ?_)
      · first
        | (exfalso; omega (config := {splitDisjunctions := false}))
        | exact absurd rfl h91
        | skip
          refine q_iload (pc := 98) rfl rfl ?_
          refine q_iret (pc := 100) rfl (rfl) ?_
          first
          | (have e := kk _ _ H A hs
             rw [if_pos (by omega)] at e
             exact e)
          | (have e := kk _ _ H A hs
             rw [if_neg (by omega)] at e
             exact e)
      · first
        | (exfalso; omega (config := {splitDisjunctions := false}))
        | exact absurd rfl h91
        | skip
          refine q_iload_n (pc := 94) rfl rfl ?_
          refine q_goto (pc := 95) rfl ?_
          refine q_iret (pc := 100) rfl (rfl) ?_
          first
          | (have e := kk _ _ H A hs
             rw [if_pos (by omega)] at e
             exact e)
          | (have e := kk _ _ H A hs
             rw [if_neg (by omega)] at e
             exact e)
    · first | (exfalso; omega) | exact absurd h30 (nI_pos (by omega)) | exact absurd (nI_pos' (by omega)) h30
  | n + 1, hi =>
    refine q_iload (pc := 27) rfl rfl ?_
    refine q_iconst (pc := 29) rfl (nI 4) (by decide) ?_
    first | refine n_icmpge (pc := 30) rfl (by omega) (by omega) (fun h30 => ?_) (fun h30 => ?_) | refine q_icmpge (pc := 30) rfl (fun h30 => ?_) (fun h30 => ?_)
    · first | (exfalso; omega) | exact absurd h30 (nI_pos (by omega)) | exact absurd (nI_pos' (by omega)) h30
    · refine q_aload_n (pc := 33) rfl rfl rfl ?_
      refine q_getf (pc := 34) rfl (by first | exact HR.X' H hl | exact HR.B H hl isB1 A.1 | exact HR.R H hl A.2.2.2.2.2.1.1 | exact HR.O H hl isB1 A.1 hp | exact HR.c H hl _ rfl) rfl rfl ?_
      refine q_iload (pc := 37) rfl rfl ?_
      refine q_callV (pc := 39) _ rfl rfl rfl (by first | exact HR.X' H hl | exact HR.B H hl isB1 A.1 | exact HR.R H hl A.2.2.2.2.2.1.1 | exact HR.O H hl isB1 A.1 hp | exact HR.c H hl _ rfl) rfl (Nat.le_of_ble_eq_true rfl) (by omega) _ rfl ?_
      refine c_member H hl isB1 A.1 (fun p hp hpβ hxp => ?_) (fun gp => ?_) K4
      · obtain rfl := x_eq hxp (by omega) (by omega)
        refine q_astore (pc := 42) [_, _, _, _, _, _, _, _] rfl rfl (Nat.le_of_ble_eq_true rfl) rfl ?_
        refine q_aload (pc := 44) rfl rfl rfl ?_
        refine q_ifnull (pc := 46) rfl ?_
        refine q_aload_n (pc := 49) rfl rfl rfl ?_
        refine q_getf (pc := 50) rfl (by first | exact HR.X' H hl | exact HR.B H hl isB1 A.1 | exact HR.R H hl A.2.2.2.2.2.1.1 | exact HR.O H hl isB1 A.1 hp | exact HR.c H hl _ rfl) rfl rfl ?_
        refine q_aload_n (pc := 53) rfl rfl rfl ?_
        refine q_getf (pc := 54) rfl (by first | exact HR.X' H hl | exact HR.B H hl isB1 A.1 | exact HR.R H hl A.2.2.2.2.2.1.1 | exact HR.O H hl isB1 A.1 hp | exact HR.c H hl _ rfl) rfl rfl ?_
        refine q_aload (pc := 57) rfl rfl rfl ?_
        refine q_iload_n (pc := 59) rfl rfl ?_
        refine q_callV (pc := 60) _ rfl rfl rfl (by first | exact HR.X' H hl | exact HR.B H hl isB1 A.1 | exact HR.R H hl A.2.2.2.2.2.1.1 | exact HR.O H hl isB1 A.1 hp | exact HR.c H hl _ rfl) rfl (Nat.le_of_ble_eq_true rfl) (by omega) _ rfl ?_
        refine c_minutesOf (by omega) H hl isB1 A.1 A.2.2.2.2.2.1 K.1 hp hc ?_
        intro h s1 H k0
        obtain ⟨A, k1⟩ := th9 A k0 (fun i g => Or.inr (by omega))
        rw [hF]
        refine q_istore (pc := 63) [_, _, _, _, _, _, _, _] rfl (Nat.le_of_ble_eq_true rfl) rfl ?_
        refine q_iload_n (pc := 65) rfl rfl ?_
        refine q_iconst (pc := 66) rfl (-1) (by decide) ?_
        refine q_icmpeq (pc := 67) rfl (fun h67 => ?_) (fun h67 => ?_)
        · have h67 : (nrs F i).1 = 9 := by
            rw [← show r = nrs F i by rw [hr, show min i (β 88) = i by omega]]
            exact (oc9_m (by omega)).mp h67
          first
          | (exfalso; omega (config := {splitDisjunctions := false}))
          | exact absurd rfl h67
          | skip
            refine q_iload (pc := 77) rfl rfl ?_
            refine q_istore_n (pc := 79) [_, _, _, _, _, _, _, _] rfl (Nat.le_of_ble_eq_true rfl) rfl ?_
            refine q_iload (pc := 80) rfl rfl ?_
            refine q_istore (pc := 82) [_, _, _, _, _, _, _, _] rfl (Nat.le_of_ble_eq_true rfl) rfl ?_
            first | refine n_iinc (pc := 84) rfl [_, _, _, _, _, _, _, _] 1 (by decide) rfl rfl ?_ | refine q_iinc (pc := 84) [_, _, _, _, _, _, _, _] (1) rfl rfl (by decide) rfl ?_
            refine q_goto (pc := 87) rfl ?_
            first
            | exact c_nearL2 hd hl K hc hw F hF kk n (i + 1) (by omega) r (by rw [hr]; congr 1; omega) h s H A hs _ _
            | (rw [show nI r.2 = oc9 r.1 r.2 from (if_neg h67').symm]
               refine c_nearL2 hd hl K hc hw F hF kk n (i + 1) (by omega) r ?_ h s1 H A (hs.tr k1) _ _
               rw [show min (i + 1) (β 88) = i + 1 by omega, nrs, if_neg (fun e => e.elim h67 (fun e2 => h74 e2))]
               rw [hr]
               congr 1
               omega)
            | (have ih := c_nearL2 hd hl K hc hw F hF kk n (i + 1) (by omega) (i, F i) (by rw [show min (i + 1) (β 88) = i + 1 by omega, nrs, if_pos (by first | exact Or.inl h67 | exact Or.inr h74)]) h s1 H A (hs.tr k1) (some (.ref (1 + 4 + i))) (some (.int (nI (F i))))
               rw [show oc9 (i, F i).1 (i, F i).1 = nI i from if_neg (by show ¬ i = 9; omega), show oc9 (i, F i).1 (i, F i).2 = nI (F i) from if_neg (by show ¬ i = 9; omega)] at ih
               exact ih)
        · have h67' : ¬ r.1 = 9 := fun e => h67 ((oc9_m (by omega)).mpr e)
          have h67 : ¬ (nrs F i).1 = 9 := by
            rw [← show r = nrs F i by rw [hr, show min i (β 88) = i by omega]]
            exact h67'
          rw [show oc9 r.1 r.2 = nI r.2 from if_neg h67']
          first
          | (exfalso; omega (config := {splitDisjunctions := false}))
          | exact absurd rfl h67
          | skip
            refine q_iload (pc := 70) rfl rfl ?_
            refine q_iload (pc := 72) rfl rfl ?_
            refine q_icmpge (pc := 74) rfl (fun h74 => ?_) (fun h74 => ?_)
            · have h74 : ¬ F i < (nrs F i).2 := by
                rw [← show r = nrs F i by rw [hr, show min i (β 88) = i by omega]]
                exact Nat.not_lt.mpr (x_le h74 (by omega) (by have := bF i (by omega); omega))
              first
              | (exfalso; omega (config := {splitDisjunctions := false}))
              | skip
                first | refine n_iinc (pc := 84) rfl [_, _, _, _, _, _, _, _] 1 (by decide) rfl rfl ?_ | refine q_iinc (pc := 84) [_, _, _, _, _, _, _, _] (1) rfl rfl (by decide) rfl ?_
                refine q_goto (pc := 87) rfl ?_
                first
                | exact c_nearL2 hd hl K hc hw F hF kk n (i + 1) (by omega) r (by rw [hr]; congr 1; omega) h s H A hs _ _
                | (rw [show nI r.2 = oc9 r.1 r.2 from (if_neg h67').symm]
                   refine c_nearL2 hd hl K hc hw F hF kk n (i + 1) (by omega) r ?_ h s1 H A (hs.tr k1) _ _
                   rw [show min (i + 1) (β 88) = i + 1 by omega, nrs, if_neg (fun e => e.elim h67 (fun e2 => h74 e2))]
                   rw [hr]
                   congr 1
                   omega)
                | (have ih := c_nearL2 hd hl K hc hw F hF kk n (i + 1) (by omega) (i, F i) (by rw [show min (i + 1) (β 88) = i + 1 by omega, nrs, if_pos (by first | exact Or.inl h67 | exact Or.inr h74)]) h s1 H A (hs.tr k1) (some (.ref (1 + 4 + i))) (some (.int (nI (F i))))
                   rw [show oc9 (i, F i).1 (i, F i).1 = nI i from if_neg (by show ¬ i = 9; omega), show oc9 (i, F i).1 (i, F i).2 = nI (F i) from if_neg (by show ¬ i = 9; omega)] at ih
                   exact ih)
            · have h74 : F i < (nrs F i).2 := by
                rw [← show r = nrs F i by rw [hr, show min i (β 88) = i by omega]]
                exact x_nle h74 (by omega) (by have := bF i (by omega); omega)
              first
              | (exfalso; omega (config := {splitDisjunctions := false}))
              | skip
                refine q_iload (pc := 77) rfl rfl ?_
                refine q_istore_n (pc := 79) [_, _, _, _, _, _, _, _] rfl (Nat.le_of_ble_eq_true rfl) rfl ?_
                refine q_iload (pc := 80) rfl rfl ?_
                refine q_istore (pc := 82) [_, _, _, _, _, _, _, _] rfl (Nat.le_of_ble_eq_true rfl) rfl ?_
                first | refine n_iinc (pc := 84) rfl [_, _, _, _, _, _, _, _] 1 (by decide) rfl rfl ?_ | refine q_iinc (pc := 84) [_, _, _, _, _, _, _, _] (1) rfl rfl (by decide) rfl ?_
                refine q_goto (pc := 87) rfl ?_
                first
                | exact c_nearL2 hd hl K hc hw F hF kk n (i + 1) (by omega) r (by rw [hr]; congr 1; omega) h s H A hs _ _
                | (rw [show nI r.2 = oc9 r.1 r.2 from (if_neg h67').symm]
                   refine c_nearL2 hd hl K hc hw F hF kk n (i + 1) (by omega) r ?_ h s1 H A (hs.tr k1) _ _
                   rw [show min (i + 1) (β 88) = i + 1 by omega, nrs, if_neg (fun e => e.elim h67 (fun e2 => h74 e2))]
                   rw [hr]
                   congr 1
                   omega)
                | (have ih := c_nearL2 hd hl K hc hw F hF kk n (i + 1) (by omega) (i, F i) (by rw [show min (i + 1) (β 88) = i + 1 by omega, nrs, if_pos (by first | exact Or.inl h67 | exact Or.inr h74)]) h s1 H A (hs.tr k1) (some (.ref (1 + 4 + i))) (some (.int (nI (F i))))
                   rw [show oc9 (i, F i).1 (i, F i).1 = nI i from if_neg (by show ¬ i = 9; omega), show oc9 (i, F i).1 (i, F i).2 = nI (F i) from if_neg (by show ¬ i = 9; omega)] at ih
                   exact ih)
      · have gp : β 88 ≤ i := gp.elim (fun e => absurd e (nI_pos (by omega))) (fun e => x_le e (by omega) (by omega))
        refine q_astore (pc := 42) [_, _, _, _, _, _, _, _] rfl rfl (Nat.le_of_ble_eq_true rfl) rfl ?_
        refine q_aload (pc := 44) rfl rfl rfl ?_
        refine q_ifnullN (pc := 46) rfl ?_
        first | refine n_iinc (pc := 84) rfl [_, _, _, _, _, _, _, _] 1 (by decide) rfl rfl ?_ | refine q_iinc (pc := 84) [_, _, _, _, _, _, _, _] (1) rfl rfl (by decide) rfl ?_
        refine q_goto (pc := 87) rfl ?_
        first
        | exact c_nearL2 hd hl K hc hw F hF kk n (i + 1) (by omega) r (by rw [hr]; congr 1; omega) h s H A hs _ _
        | (rw [show nI r.2 = oc9 r.1 r.2 from (if_neg h67').symm]
           refine c_nearL2 hd hl K hc hw F hF kk n (i + 1) (by omega) r ?_ h s1 H A (hs.tr k1) _ _
           rw [show min (i + 1) (β 88) = i + 1 by omega, nrs, if_neg (fun e => e.elim h67 (fun e2 => h74 e2))]
           rw [hr]
           congr 1
           omega)
        | (have ih := c_nearL2 hd hl K hc hw F hF kk n (i + 1) (by omega) (i, F i) (by rw [show min (i + 1) (β 88) = i + 1 by omega, nrs, if_pos (by first | exact Or.inl h67 | exact Or.inr h74)]) h s1 H A (hs.tr k1) (some (.ref (1 + 4 + i))) (some (.int (nI (F i))))
           rw [show oc9 (i, F i).1 (i, F i).1 = nI i from if_neg (by show ¬ i = 9; omega), show oc9 (i, F i).1 (i, F i).2 = nI (F i) from if_neg (by show ¬ i = 9; omega)] at ih
           exact ih)
termination_by n
theorem c_nearestC (hd : 20 ≤ d) (H : HR P h s) (hl : 51 ≤ P.1) (A : CA P s β κ ik tp tz C E σ sz cl) (K : AOK P.2.1 β κ ik tp tz σ sz) (kk : ∀ h' s', HR P h' s' → CA P s' β κ ik tp tz C E σ sz cl → sf s s' cS → Q (some (.int (o_nearest C E β x y))) h') : wc d 100 [.ref 0, .int x, .int y] h Q := by
  have K4 := K.1.2.2.1
  have KK := K.1
  have hT := A.2.2.2.2.2.1
  have hSh := A.2.2.2.2.2.2
  have kSh := K.2.2.2.2.2.2.2
  rcases rgc 2 (by decide) y with ⟨w, hw, rfl, z1⟩ | ⟨g, z1⟩
  ·
    refine wc.go [_, _, _, _, _, _, _, _] rfl ?_
    refine q_iload_n (pc := 0) rfl rfl ?_
    refine q_callS (pc := 1) _ (by decide) rfl rfl rfl rfl (Nat.le_of_ble_eq_true rfl) (by omega) _ rfl ?_
    refine c_isCell (fun c0 hc0 hx0 => ?_) (fun gc => ?_)
    · subst hx0
      have zc : Hd (rg 36 (nI c0) = c0) := rg_in hc0 (by decide)
      refine q_ifeq (pc := 4) rfl (fun z => absurd z (by decide)) (fun _ => ?_)
      refine q_iload_n (pc := 7) rfl rfl ?_
      refine q_iflt (pc := 8) rfl (fun h8 => ?_) (fun h8 => ?_)
      · first | (exfalso; omega) | exact absurd h8 (nI_pos (by omega)) | exact absurd (nI_pos' (by omega)) h8
      · refine q_iload_n (pc := 11) rfl rfl ?_
        refine q_iconst (pc := 12) rfl (nI 1) (by decide) ?_
        first | refine n_icmple (pc := 13) rfl (by omega) (by omega) (fun h13 => ?_) (fun h13 => ?_) | refine q_icmple (pc := 13) rfl (fun h13 => ?_) (fun h13 => ?_)
        · refine q_iconst (pc := 19) rfl (-1) (by decide) ?_
          refine q_istore_n (pc := 20) [_, _, _, _, _, _, _, _] rfl (Nat.le_of_ble_eq_true rfl) rfl ?_
          refine q_iconst (pc := 21) rfl (-1) (by decide) ?_
          refine q_istore (pc := 22) [_, _, _, _, _, _, _, _] rfl (Nat.le_of_ble_eq_true rfl) rfl ?_
          refine q_iconst (pc := 24) rfl (nI 0) (by decide) ?_
          refine q_istore (pc := 25) [_, _, _, _, _, _, _, _] rfl (Nat.le_of_ble_eq_true rfl) rfl ?_
          have e1 : o_nearest C E β (nI c0) (nI w) = if w = 0 then oc9 (nrs (fun p => mnN C E β p c0) (β 88)).1 (nrs (fun p => mnN C E β p c0) (β 88)).1 else oc9 (nrs (fun p => mnN C E β p c0) (β 88)).1 (nrs (fun p => mnN C E β p c0) (β 88)).2 := by
            unfold o_nearest
            rw [zc.out, z1.out, if_pos (by omega)]
          rw [e1] at kk
          exact c_nearL2 (by omega) hl K hc0 hw _ (fun p => rfl) kk 4 0 (by omega) (9, 0) (by rw [Nat.zero_min]; rfl) h s H A sf.rf _ _
        · first | (exfalso; omega) | exact absurd h13 (nI_pos (by omega)) | exact absurd (nI_pos' (by omega)) h13
    · have zc : Hd (rg 36 x = 36) := rg_out gc
      refine q_ifeq (pc := 4) rfl (fun _ => ?_) (fun z => absurd (by decide) z)
      refine q_bipush (pc := 16) rfl (-2) (by decide) ?_
      refine q_iret (pc := 18) rfl (rfl) ?_
      refine eqQ ?_ (kk _ _ H A sf.rf)
      unfold o_nearest
      rw [zc.out, if_neg (by omega)]
  ·
    refine wc.go [_, _, _, _, _, _, _, _] rfl ?_
    refine q_iload_n (pc := 0) rfl rfl ?_
    refine q_callS (pc := 1) _ (by decide) rfl rfl rfl rfl (Nat.le_of_ble_eq_true rfl) (by omega) _ rfl ?_
    refine c_isCell (fun c0 hc0 hx0 => ?_) (fun gc => ?_)
    · subst hx0
      have zc : Hd (rg 36 (nI c0) = c0) := rg_in hc0 (by decide)
      refine q_ifeq (pc := 4) rfl (fun z => absurd z (by decide)) (fun _ => ?_)
      refine q_iload_n (pc := 7) rfl rfl ?_
      refine q_iflt (pc := 8) rfl (fun h8 => ?_) (fun h8 => ?_)
      · first
        | (exfalso; omega (config := {splitDisjunctions := false}))
        | skip
          refine q_bipush (pc := 16) rfl (-2) (by decide) ?_
          refine q_iret (pc := 18) rfl (rfl) ?_
          refine eqQ ?_ (kk _ _ H A sf.rf)
          unfold o_nearest
          rw [z1.out, if_neg (by omega)]
      · first
        | (exfalso; omega (config := {splitDisjunctions := false}))
        | skip
          refine q_iload_n (pc := 11) rfl rfl ?_
          refine q_iconst (pc := 12) rfl (nI 1) (by decide) ?_
          refine q_icmple (pc := 13) rfl (fun h13 => ?_) (fun h13 => ?_)
          · exact (z_out (m := 2) g h8 h13 (by decide)).elim
          · first
            | (exfalso; omega (config := {splitDisjunctions := false}))
            | skip
              refine q_bipush (pc := 16) rfl (-2) (by decide) ?_
              refine q_iret (pc := 18) rfl (rfl) ?_
              refine eqQ ?_ (kk _ _ H A sf.rf)
              unfold o_nearest
              rw [z1.out, if_neg (by omega)]
    · have zc : Hd (rg 36 x = 36) := rg_out gc
      refine q_ifeq (pc := 4) rfl (fun _ => ?_) (fun z => absurd (by decide) z)
      refine q_bipush (pc := 16) rfl (-2) (by decide) ?_
      refine q_iret (pc := 18) rfl (rfl) ?_
      refine eqQ ?_ (kk _ _ H A sf.rf)
      unfold o_nearest
      rw [z1.out, if_neg (by omega)]
end P35
