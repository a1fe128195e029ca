/-! ===== the class's calls: heaps, wrong, shore ===== -/
section P37
variable {d k pc a i j c p b t n m part q : Nat} {v : Int} {L L' : mx_L} {st r : List Value} {P : mx_Pm} {h : mx_H} {s : mx_St} {Q : Option Value → mx_H → Prop} {x y w z u : Int32} {β κ : Nat → Nat} {C : Nat → Nat → Int32} {E : Nat → Nat → Nat} {ik tz : Nat} {tp : Nat → Nat} {σ : Nat → Int32} {sz : Nat → Nat} {cl : Nat → Nat → Int32}
theorem lsh_k : ∀ k, k < 7 → ((nI k).toInt64 &&& 63).toBitVec.smod 64 = BitVec.ofNat 64 k := by decide +kernel
theorem lN_shl {x k : Nat} (hk : k < 7) : lN x <<< ((nI k).toInt64 &&& 63) = lN (x * 2 ^ k) := by
  apply Int64.toBitVec_inj.mp
  apply BitVec.eq_of_toNat_eq
  show ((lN x).toBitVec <<< (((nI k).toInt64 &&& 63).toBitVec.smod 64)).toNat = (BitVec.ofNat 64 (x * 2 ^ k)).toNat
  rw [lsh_k k hk]
  show (BitVec.ofNat 64 x <<< (BitVec.ofNat 64 k)).toNat = _
  rw [BitVec.shiftLeft_eq', BitVec.toNat_shiftLeft, BitVec.toNat_ofNat, BitVec.toNat_ofNat, BitVec.toNat_ofNat, Nat.mod_eq_of_lt (show k < 2 ^ 64 by omega), Nat.shiftLeft_eq, Nat.mod_mul_mod]
theorem lN_xor1 {x : Nat} (hx : x < 2 ^ 64) : lN x ^^^ (-1) = lN (2 ^ 64 - (x + 1)) := by
  apply Int64.toBitVec_inj.mp
  show BitVec.ofNat 64 x ^^^ BitVec.allOnes 64 = BitVec.ofNat 64 (2 ^ 64 - (x + 1))
  rw [BitVec.xor_allOnes]
  apply BitVec.eq_of_toNat_eq
  rw [BitVec.toNat_not, BitVec.toNat_ofNat, BitVec.toNat_ofNat, Nat.mod_eq_of_lt hx, Nat.mod_eq_of_lt (by omega)]
  omega
theorem n_lshl (hc : mx_tb k pc = some (.lshl, a, v)) (hj : j < 7) (kk : wq d k (pc + 1) L (.long (lN (i * 2 ^ j)) :: r) h Q) : wq d k pc L (.int (nI j) :: .long (lN i) :: r) h Q := q_lshl hc (by rw [lN_shl hj]; exact kk)
theorem n_lxor1 (hc : mx_tb k pc = some (.lxor, a, v)) (hi : i < 2 ^ 64) (kk : wq d k (pc + 1) L (.long (lN (2 ^ 64 - (i + 1))) :: r) h Q) : wq d k pc L (.long (-1) :: .long (lN i) :: r) h Q := q_lxor hc (by rw [lN_xor1 hi]; exact kk)
theorem n_lcmpeq {x y : Nat} (hc : mx_tb k pc = some (.lcmp, a, v)) (kk : wq d k (pc + 1) L (.int (lg_cmp (lN x) (lN y)) :: r) h Q) : wq d k pc L (.long (lN y) :: .long (lN x) :: r) h Q := q_lcmp hc kk
theorem lg_cmp0 {x y : Int64} : lg_cmp x y = 0 ↔ x = y := by
  unfold lg_cmp
  constructor
  · intro e
    split at e
    · exact absurd e (by decide)
    · split at e
      · assumption
      · exact absurd e (by decide)
  · intro e
    subst e
    rw [if_neg (Int64.lt_irrefl), if_pos rfl]
/-- the cells and those beside them -/
def wbN (x : Nat) : Nat := x ||| ((x &&& (2 ^ 64 - 34905131041)) * 2 ^ 1 ||| (x &&& (2 ^ 64 - 1090785346)) / 2 ^ 1) ||| x * 2 ^ 6 ||| x / 2 ^ 6
def hpI (w : Nat) : Nat → Nat → Nat
  | 0, x => x
  | n + 1, x => hpI w n (w &&& wbN x)
def hp0 (w c : Nat) : Nat := if w.testBit c = true then 2 ^ c else 0
def hpN (w c : Nat) : Nat := hpI w 36 (hp0 w c)
theorem hpI_fix {w x : Nat} (e : w &&& wbN x = x) : ∀ n, hpI w n x = x := by
  intro n
  induction n with
  | zero => rfl
  | succ n ih => rw [hpI, e, ih]
theorem hpI_lt {w x : Nat} (hw : w < 2 ^ 36) (hx : x < 2 ^ 36) : ∀ n, hpI w n x < 2 ^ 36 := by
  intro n
  induction n generalizing x with
  | zero => exact hx
  | succ n ih =>
    rw [hpI]
    exact ih (Nat.lt_of_le_of_lt Nat.and_le_left hw)
theorem hp0_lt {w c : Nat} (hc : c < 36) : hp0 w c < 2 ^ 36 := by
  unfold hp0
  split
  · exact Nat.pow_lt_pow_right (by decide) hc
  · decide
theorem hpN_lt {w c : Nat} (hw : w < 2 ^ 36) (hc : c < 36) : hpN w c < 2 ^ 36 := hpI_lt hw (hp0_lt hc) 36
theorem c_withB {x : Nat} (hx : x < 2 ^ 36) (hq : Q (some (.long (lN (wbN x)))) h) : wc d 94 [.long (lN x)] h Q := by
  have m1 : x &&& (2 ^ 64 - 34905131041) ≤ x := Nat.and_le_left
  have m2 : x &&& (2 ^ 64 - 1090785346) ≤ x := Nat.and_le_left
  refine wc.go [_, _, _, _] rfl ?_
  refine q_lload_n (pc := 0) rfl rfl ?_
  refine n_ldc2 (pc := 1) rfl (2 ^ 64 - 34905131041) (by decide) ?_
  first | refine n_land (pc := 4) rfl ?_ | refine q_land (pc := 4) rfl ?_
  refine q_iconst (pc := 5) rfl (nI 1) (by decide) ?_
  refine n_lshl (pc := 6) rfl (by decide) ?_
  refine q_lload_n (pc := 7) rfl rfl ?_
  refine n_ldc2 (pc := 8) rfl (2 ^ 64 - 1090785346) (by decide) ?_
  first | refine n_land (pc := 11) rfl ?_ | refine q_land (pc := 11) rfl ?_
  refine q_iconst (pc := 12) rfl (nI 1) (by decide) ?_
  refine n_lushr (pc := 13) rfl (by omega) (by decide) ?_
  first | refine n_lor (pc := 14) rfl ?_ | refine q_lor (pc := 14) rfl ?_
  refine q_lstore_n (pc := 15) [_, _, _, _] rfl (Nat.le_of_ble_eq_true rfl) rfl ?_
  refine q_lload_n (pc := 16) rfl rfl ?_
  refine q_lload_n (pc := 17) rfl rfl ?_
  first | refine n_lor (pc := 18) rfl ?_ | refine q_lor (pc := 18) rfl ?_
  refine q_lload_n (pc := 19) rfl rfl ?_
  refine q_bipush (pc := 20) rfl (nI 6) (by decide) ?_
  refine n_lshl (pc := 22) rfl (by decide) ?_
  first | refine n_lor (pc := 23) rfl ?_ | refine q_lor (pc := 23) rfl ?_
  refine q_lload_n (pc := 24) rfl rfl ?_
  refine q_bipush (pc := 25) rfl (nI 6) (by decide) ?_
  refine n_lushr (pc := 27) rfl (by omega) (by decide) ?_
  first | refine n_lor (pc := 28) rfl ?_ | refine q_lor (pc := 28) rfl ?_
  refine q_lret (pc := 29) rfl rfl ?_
  exact hq
theorem c_heapL {w : Nat} (hd : 2 ≤ d) (hw : w < 2 ^ 36) {R : Nat} (hq : Q (some (.long (lN R))) h) (n i x : Nat) (hi : i + n = 36) (hx : x < 2 ^ 36) (hr : hpI w n x = R) (z2 : Int32) (z6 : Option Value) : wq d 93 20 [some (.long (lN w)), none, some (.int z2), some (.long (lN x)), none, some (.int (nI i)), z6, none] [] h Q := by
  have a1 : w &&& wbN x ≤ w := Nat.and_le_left
  match n, hi, hr with
  | 0, hi, hr =>
    have hr : x = R := hr
    subst hr
    refine q_iload (pc := 20) rfl rfl ?_
    refine q_bipush (pc := 22) rfl (nI 36) (by decide) ?_
    first | refine n_icmpge (pc := 24) rfl (by omega) (by omega) (fun h24 => ?_) (fun h24 => ?_) | refine q_icmpge (pc := 24) rfl (fun h24 => ?_) (fun h24 => ?_)
    · refine q_lload_n (pc := 54) rfl rfl ?_
      refine q_lret (pc := 55) rfl rfl ?_
      exact hq
    · first | (exfalso; omega) | exact absurd h24 (nI_pos (by omega)) | exact absurd (nI_pos' (by omega)) h24
  | n + 1, hi, hr =>
    refine q_iload (pc := 20) rfl rfl ?_
    refine q_bipush (pc := 22) rfl (nI 36) (by decide) ?_
    first | refine n_icmpge (pc := 24) rfl (by omega) (by omega) (fun h24 => ?_) (fun h24 => ?_) | refine q_icmpge (pc := 24) rfl (fun h24 => ?_) (fun h24 => ?_)
    · first | (exfalso; omega) | exact absurd h24 (nI_pos (by omega)) | exact absurd (nI_pos' (by omega)) h24
    · refine q_lload_n (pc := 27) rfl rfl ?_
      refine q_lload_n (pc := 28) rfl rfl ?_
      refine q_callS (pc := 29) _ (by decide) rfl rfl rfl rfl (Nat.le_of_ble_eq_true rfl) (by omega) _ rfl ?_
      refine c_withB hx ?_
      first | refine n_land (pc := 32) rfl ?_ | refine q_land (pc := 32) rfl ?_
      refine q_lstore (pc := 33) [_, _, _, _, _, _, _, _] rfl (Nat.le_of_ble_eq_true rfl) rfl ?_
      refine q_lload (pc := 35) rfl rfl ?_
      refine q_lload_n (pc := 37) rfl rfl ?_
      refine q_lcmp (pc := 38) rfl ?_
      refine q_ifne (pc := 39) rfl (fun h39 => ?_) (fun h39 => ?_)
      · 
        first
        | (exfalso; omega (config := {splitDisjunctions := false}))
        | exact absurd rfl h39
        | skip
          refine q_lload (pc := 45) rfl rfl ?_
          refine q_lstore_n (pc := 47) [_, _, _, _, _, _, _, _] rfl (Nat.le_of_ble_eq_true rfl) rfl ?_
          first | refine n_iinc (pc := 48) rfl [_, _, _, _, _, _, _, _] 1 (by decide) rfl rfl ?_ | refine q_iinc (pc := 48) [_, _, _, _, _, _, _, _] (1) rfl rfl (by decide) rfl ?_
          refine q_goto (pc := 51) rfl ?_
          exact c_heapL hd hw hq n (i + 1) (w &&& wbN x) (by omega) (by omega) hr z2 _
      · have h39 := lN_inj (by omega) (by omega) (lg_cmp0.mp h39)
        rw [hpI_fix h39] at hr
        subst hr
        first
        | (exfalso; omega (config := {splitDisjunctions := false}))
        | exact absurd rfl h39
        | skip
          refine q_goto (pc := 42) rfl ?_
          refine q_lload_n (pc := 54) rfl rfl ?_
          refine q_lret (pc := 55) rfl rfl ?_
          exact hq
termination_by n
theorem c_heapWith {w c : Nat} (hd : 2 ≤ d) (hw : w < 2 ^ 36) (hc : c < 36) (hq : Q (some (.long (lN (hpN w c)))) h) : wc d 93 [.long (lN w), .int (nI c)] h Q := by
  have hp := hp0_lt (w := w) hc
  refine wc.go [_, _, _, _, _, _, _, _] rfl ?_
  refine q_lload_n (pc := 0) rfl rfl ?_
  refine q_iload_n (pc := 1) rfl rfl ?_
  refine q_callS (pc := 2) _ (by decide) rfl rfl rfl rfl (Nat.le_of_ble_eq_true rfl) (by omega) _ rfl ?_
  refine c_hasT (by omega) (by omega) (by assumption) (fun g2 => ?_) (fun g2 => ?_)
  · refine q_ifeq (pc := 5) rfl (fun z => absurd z (by decide)) (fun _ => ?_)
    refine q_iload_n (pc := 8) rfl rfl ?_
    refine q_callS (pc := 9) _ (by decide) rfl rfl rfl rfl (Nat.le_of_ble_eq_true rfl) (by omega) _ rfl ?_
    refine c_bitN (by omega) ?_
    refine q_goto (pc := 12) rfl ?_
    refine q_lstore_n (pc := 16) [_, _, _, _, _, _, _, _] rfl (Nat.le_of_ble_eq_true rfl) rfl ?_
    refine q_iconst (pc := 17) rfl (nI 0) (by decide) ?_
    refine q_istore (pc := 18) [_, _, _, _, _, _, _, _] rfl (Nat.le_of_ble_eq_true rfl) rfl ?_
    first
    | (exact c_heapL hd hw hq 36 0 (2 ^ c) (by omega) (by unfold hp0 at hp; rw [if_pos g2] at hp; exact hp) (by unfold hpN hp0; rw [if_pos g2]) _ _)
    | (exact c_heapL hd hw hq 36 0 0 (by omega) (by decide) (by unfold hpN hp0; rw [if_neg (by rw [g2]; decide)]) _ _)
  · refine q_ifeq (pc := 5) rfl (fun _ => ?_) (fun z => absurd (by decide) z)
    refine q_lconst (pc := 15) rfl (lN 0) (by decide) ?_
    refine q_lstore_n (pc := 16) [_, _, _, _, _, _, _, _] rfl (Nat.le_of_ble_eq_true rfl) rfl ?_
    refine q_iconst (pc := 17) rfl (nI 0) (by decide) ?_
    refine q_istore (pc := 18) [_, _, _, _, _, _, _, _] rfl (Nat.le_of_ble_eq_true rfl) rfl ?_
    first
    | (exact c_heapL hd hw hq 36 0 (2 ^ c) (by omega) (by unfold hp0 at hp; rw [if_pos g2] at hp; exact hp) (by unfold hpN hp0; rw [if_pos g2]) _ _)
    | (exact c_heapL hd hw hq 36 0 0 (by omega) (by decide) (by unfold hpN hp0; rw [if_neg (by rw [g2]; decide)]) _ _)
/-- the heaps up to a cell: those seen, how many, the greatest -/
def hsF (w : Nat) : Nat → Nat × Nat × Nat
  | 0 => (0, 0, 0)
  | c + 1 => if w.testBit c = true ∧ (hsF w c).1.testBit c = false then ((hsF w c).1 ||| hpN w c, (hsF w c).2.1 + 1, max (hsF w c).2.2 (popN (hpN w c))) else hsF w c
theorem hsF_b (w c : Nat) : (hsF w c).2.1 ≤ c ∧ (hsF w c).2.2 ≤ 36 := by
  induction c with
  | zero => exact ⟨Nat.le_refl _, Nat.zero_le _⟩
  | succ c ih =>
    have h1 : popN (hpN w c) ≤ 36 := cntf_le _ _
    unfold hsF
    split
    · exact ⟨by show _ + 1 ≤ _; omega, by show max _ _ ≤ _; omega⟩
    · omega
def rstOk (w rest seen : Nat) : Prop := rest < 2 ^ 36 ∧ ∀ i, i < 36 → rest.testBit i = (w.testBit i && !seen.testBit i)
theorem rst_s {w rest seen x : Nat} (r : rstOk w rest seen) (hx : x < 2 ^ 36) : rstOk w (rest &&& (2 ^ 64 - (x + 1))) (seen ||| x) := by
  refine ⟨Nat.lt_of_le_of_lt Nat.and_le_left r.1, fun i hi => ?_⟩
  rw [Nat.testBit_and, r.2 i hi, Nat.testBit_two_pow_sub_succ (by omega), Nat.testBit_or, decide_eq_true (show i < 64 by omega)]
  cases w.testBit i <;> cases seen.testBit i <;> cases x.testBit i <;> rfl
theorem c_heapsL {w : Nat} (hd : 4 ≤ d) (hw : w < 2 ^ 36) (hq : Q (some (.int (nI (hsF w 36).2.1))) h) (n i rest : Nat) (hi : i + n = 36) (hr : rstOk w rest (hsF w i).1) : wq d 91 7 [some (.long (lN w)), none, some (.int (nI (hsF w i).2.1)), some (.long (lN rest)), none, some (.int (nI i))] [] h Q := by
  match n, hi with
  | 0, hi =>
    obtain rfl : i = 36 := by omega
    refine q_iload (pc := 7) rfl rfl ?_
    refine q_bipush (pc := 9) rfl (nI 36) (by decide) ?_
    first | refine n_icmpge (pc := 11) rfl (by omega) (by omega) (fun h11 => ?_) (fun h11 => ?_) | refine q_icmpge (pc := 11) rfl (fun h11 => ?_) (fun h11 => ?_)
    · refine q_iload_n (pc := 45) rfl rfl ?_
      refine q_iret (pc := 46) rfl (rfl) ?_
      exact hq
    · first | (exfalso; omega) | exact absurd h11 (nI_pos (by omega)) | exact absurd (nI_pos' (by omega)) h11
  | n + 1, hi =>
    have hr1 := hr.1
    have hr2 := hr.2 i (by omega)
    have hlt := hpN_lt (c := i) hw (by omega)
    refine q_iload (pc := 7) rfl rfl ?_
    refine q_bipush (pc := 9) rfl (nI 36) (by decide) ?_
    first | refine n_icmpge (pc := 11) rfl (by omega) (by omega) (fun h11 => ?_) (fun h11 => ?_) | refine q_icmpge (pc := 11) rfl (fun h11 => ?_) (fun h11 => ?_)
    · first | (exfalso; omega) | exact absurd h11 (nI_pos (by omega)) | exact absurd (nI_pos' (by omega)) h11
    · refine q_lload_n (pc := 14) rfl rfl ?_
      refine q_iload (pc := 15) rfl rfl ?_
      refine q_callS (pc := 17) _ (by decide) rfl rfl rfl rfl (Nat.le_of_ble_eq_true rfl) (by omega) _ rfl ?_
      refine c_hasT (by omega) (by omega) (by assumption) (fun g17 => ?_) (fun g17 => ?_)
      · refine q_ifeq (pc := 20) rfl (fun z => absurd z (by decide)) (fun _ => ?_)
        refine q_lload_n (pc := 23) rfl rfl ?_
        refine q_lload_n (pc := 24) rfl rfl ?_
        refine q_iload (pc := 25) rfl rfl ?_
        refine q_callS (pc := 27) _ (by decide) rfl rfl rfl rfl (Nat.le_of_ble_eq_true rfl) (by omega) _ rfl ?_
        refine c_heapWith (by omega) hw (by omega) ?_
        refine q_ldc2 (pc := 30) rfl (-1) (by decide) ?_
        refine n_lxor1 (pc := 33) rfl (by omega) ?_
        first | refine n_land (pc := 34) rfl ?_ | refine q_land (pc := 34) rfl ?_
        refine q_lstore_n (pc := 35) [_, _, _, _, _, _] rfl (Nat.le_of_ble_eq_true rfl) rfl ?_
        first | refine n_iinc (pc := 36) rfl [_, _, _, _, _, _] 1 (by decide) rfl rfl ?_ | refine q_iinc (pc := 36) [_, _, _, _, _, _] (1) rfl rfl (by decide) rfl ?_
        first | refine n_iinc (pc := 39) rfl [_, _, _, _, _, _] 1 (by decide) rfl rfl ?_ | refine q_iinc (pc := 39) [_, _, _, _, _, _] (1) rfl rfl (by decide) rfl ?_
        refine q_goto (pc := 42) rfl ?_
        first
        | (have e : hsF w (i + 1) = ((hsF w i).1 ||| hpN w i, (hsF w i).2.1 + 1, max (hsF w i).2.2 (popN (hpN w i))) := by
             rw [hsF, if_pos]
             rw [g17] at hr2
             cases e1 : w.testBit i <;> cases e2 : (hsF w i).1.testBit i <;> rw [e1, e2] at hr2 <;> first | exact ⟨rfl, rfl⟩ | exact absurd hr2 (by decide)
           have ih := c_heapsL hd hw hq n (i + 1) (rest &&& (2 ^ 64 - (hpN w i + 1))) (by omega) (by rw [e]; exact rst_s hr hlt)
           rw [e] at ih
           exact ih)
        | (have e : hsF w (i + 1) = hsF w i := by
             rw [hsF, if_neg]
             rintro ⟨e1, e2⟩
             rw [g17, e1, e2] at hr2
             exact absurd hr2 (by decide)
           have ih := c_heapsL hd hw hq n (i + 1) rest (by omega) (by rw [e]; exact hr)
           rw [e] at ih
           exact ih)
      · refine q_ifeq (pc := 20) rfl (fun _ => ?_) (fun z => absurd (by decide) z)
        first | refine n_iinc (pc := 39) rfl [_, _, _, _, _, _] 1 (by decide) rfl rfl ?_ | refine q_iinc (pc := 39) [_, _, _, _, _, _] (1) rfl rfl (by decide) rfl ?_
        refine q_goto (pc := 42) rfl ?_
        first
        | (have e : hsF w (i + 1) = ((hsF w i).1 ||| hpN w i, (hsF w i).2.1 + 1, max (hsF w i).2.2 (popN (hpN w i))) := by
             rw [hsF, if_pos]
             rw [g17] at hr2
             cases e1 : w.testBit i <;> cases e2 : (hsF w i).1.testBit i <;> rw [e1, e2] at hr2 <;> first | exact ⟨rfl, rfl⟩ | exact absurd hr2 (by decide)
           have ih := c_heapsL hd hw hq n (i + 1) (rest &&& (2 ^ 64 - (hpN w i + 1))) (by omega) (by rw [e]; exact rst_s hr hlt)
           rw [e] at ih
           exact ih)
        | (have e : hsF w (i + 1) = hsF w i := by
             rw [hsF, if_neg]
             rintro ⟨e1, e2⟩
             rw [g17, e1, e2] at hr2
             exact absurd hr2 (by decide)
           have ih := c_heapsL hd hw hq n (i + 1) rest (by omega) (by rw [e]; exact hr)
           rw [e] at ih
           exact ih)
termination_by n
theorem c_heaps {w : Nat} (hd : 4 ≤ d) (hw : w < 2 ^ 36) (hq : Q (some (.int (nI (hsF w 36).2.1))) h) : wc d 91 [.long (lN w)] h Q := by
  refine wc.go [_, _, _, _, _, _] rfl ?_
  refine q_iconst (pc := 0) rfl (nI 0) (by decide) ?_
  refine q_istore_n (pc := 1) [_, _, _, _, _, _] rfl (Nat.le_of_ble_eq_true rfl) rfl ?_
  refine q_lload_n (pc := 2) rfl rfl ?_
  refine q_lstore_n (pc := 3) [_, _, _, _, _, _] rfl (Nat.le_of_ble_eq_true rfl) rfl ?_
  refine q_iconst (pc := 4) rfl (nI 0) (by decide) ?_
  refine q_istore (pc := 5) [_, _, _, _, _, _] rfl (Nat.le_of_ble_eq_true rfl) rfl ?_
  exact c_heapsL hd hw hq 36 0 w (by omega) ⟨hw, fun i hi => by rw [show (hsF w 0).1 = 0 from rfl, Nat.zero_testBit]; cases w.testBit i <;> rfl⟩
theorem c_greatL {w : Nat} (hd : 4 ≤ d) (hw : w < 2 ^ 36) (hq : Q (some (.int (nI (hsF w 36).2.2))) h) (n i rest : Nat) (hi : i + n = 36) (hr : rstOk w rest (hsF w i).1) (z6 : Option Value) : wq d 92 7 [some (.long (lN w)), none, some (.int (nI (hsF w i).2.2)), some (.long (lN rest)), none, some (.int (nI i)), z6, none] [] h Q := by
  have hb := (hsF_b w i).2
  have hp36 : popN (hpN w i) ≤ 36 := cntf_le _ _
  match n, hi with
  | 0, hi =>
    obtain rfl : i = 36 := by omega
    refine q_iload (pc := 7) rfl rfl ?_
    refine q_bipush (pc := 9) rfl (nI 36) (by decide) ?_
    first | refine n_icmpge (pc := 11) rfl (by omega) (by omega) (fun h11 => ?_) (fun h11 => ?_) | refine q_icmpge (pc := 11) rfl (fun h11 => ?_) (fun h11 => ?_)
    · refine q_iload_n (pc := 56) rfl rfl ?_
      refine q_iret (pc := 57) rfl (rfl) ?_
      exact hq
    · first | (exfalso; omega) | exact absurd h11 (nI_pos (by omega)) | exact absurd (nI_pos' (by omega)) h11
  | n + 1, hi =>
    have hr1 := hr.1
    have hr2 := hr.2 i (by omega)
    have hlt := hpN_lt (c := i) hw (by omega)
    refine q_iload (pc := 7) rfl rfl ?_
    refine q_bipush (pc := 9) rfl (nI 36) (by decide) ?_
    first | refine n_icmpge (pc := 11) rfl (by omega) (by omega) (fun h11 => ?_) (fun h11 => ?_) | refine q_icmpge (pc := 11) rfl (fun h11 => ?_) (fun h11 => ?_)
    · first | (exfalso; omega) | exact absurd h11 (nI_pos (by omega)) | exact absurd (nI_pos' (by omega)) h11
    · refine q_lload_n (pc := 14) rfl rfl ?_
      refine q_iload (pc := 15) rfl rfl ?_
      refine q_callS (pc := 17) _ (by decide) rfl rfl rfl rfl (Nat.le_of_ble_eq_true rfl) (by omega) _ rfl ?_
      refine c_hasT (by omega) (by omega) (by assumption) (fun g17 => ?_) (fun g17 => ?_)
      · refine q_ifeq (pc := 20) rfl (fun z => absurd z (by decide)) (fun _ => ?_)
        refine q_lload_n (pc := 23) rfl rfl ?_
        refine q_iload (pc := 24) rfl rfl ?_
        refine q_callS (pc := 26) _ (by decide) rfl rfl rfl rfl (Nat.le_of_ble_eq_true rfl) (by omega) _ rfl ?_
        refine c_heapWith (by omega) hw (by omega) ?_
        refine q_lstore (pc := 29) [_, _, _, _, _, _, _, _] rfl (Nat.le_of_ble_eq_true rfl) rfl ?_
        refine q_lload_n (pc := 31) rfl rfl ?_
        refine q_lload (pc := 32) rfl rfl ?_
        refine q_ldc2 (pc := 34) rfl (-1) (by decide) ?_
        refine n_lxor1 (pc := 37) rfl (by omega) ?_
        first | refine n_land (pc := 38) rfl ?_ | refine q_land (pc := 38) rfl ?_
        refine q_lstore_n (pc := 39) [_, _, _, _, _, _, _, _] rfl (Nat.le_of_ble_eq_true rfl) rfl ?_
        refine q_iload_n (pc := 40) rfl rfl ?_
        refine q_lload (pc := 41) rfl rfl ?_
        refine q_callS (pc := 43) _ (by decide) rfl rfl rfl rfl (Nat.le_of_ble_eq_true rfl) (by omega) _ rfl ?_
        refine j_bitCount hlt ?_
        first | refine n_max (pc := 46) rfl rfl (by omega) (by omega) ?_ | refine q_max (pc := 46) rfl rfl ?_
        refine q_istore_n (pc := 49) [_, _, _, _, _, _, _, _] rfl (Nat.le_of_ble_eq_true rfl) rfl ?_
        first | refine n_iinc (pc := 50) rfl [_, _, _, _, _, _, _, _] 1 (by decide) rfl rfl ?_ | refine q_iinc (pc := 50) [_, _, _, _, _, _, _, _] (1) rfl rfl (by decide) rfl ?_
        refine q_goto (pc := 53) rfl ?_
        first
        | (have e : hsF w (i + 1) = ((hsF w i).1 ||| hpN w i, (hsF w i).2.1 + 1, max (hsF w i).2.2 (popN (hpN w i))) := by
             rw [hsF, if_pos]
             rw [g17] at hr2
             cases e1 : w.testBit i <;> cases e2 : (hsF w i).1.testBit i <;> rw [e1, e2] at hr2 <;> first | exact ⟨rfl, rfl⟩ | exact absurd hr2 (by decide)
           have ih := c_greatL hd hw hq n (i + 1) (rest &&& (2 ^ 64 - (hpN w i + 1))) (by omega) (by rw [e]; exact rst_s hr hlt) (some (.long (lN (hpN w i))))
           rw [e] at ih
           exact ih)
        | (have e : hsF w (i + 1) = hsF w i := by
             rw [hsF, if_neg]
             rintro ⟨e1, e2⟩
             rw [g17, e1, e2] at hr2
             exact absurd hr2 (by decide)
           have ih := c_greatL hd hw hq n (i + 1) rest (by omega) (by rw [e]; exact hr) z6
           rw [e] at ih
           exact ih)
      · refine q_ifeq (pc := 20) rfl (fun _ => ?_) (fun z => absurd (by decide) z)
        first | refine n_iinc (pc := 50) rfl [_, _, _, _, _, _, _, _] 1 (by decide) rfl rfl ?_ | refine q_iinc (pc := 50) [_, _, _, _, _, _, _, _] (1) rfl rfl (by decide) rfl ?_
        refine q_goto (pc := 53) rfl ?_
        first
        | (have e : hsF w (i + 1) = ((hsF w i).1 ||| hpN w i, (hsF w i).2.1 + 1, max (hsF w i).2.2 (popN (hpN w i))) := by
             rw [hsF, if_pos]
             rw [g17] at hr2
             cases e1 : w.testBit i <;> cases e2 : (hsF w i).1.testBit i <;> rw [e1, e2] at hr2 <;> first | exact ⟨rfl, rfl⟩ | exact absurd hr2 (by decide)
           have ih := c_greatL hd hw hq n (i + 1) (rest &&& (2 ^ 64 - (hpN w i + 1))) (by omega) (by rw [e]; exact rst_s hr hlt) (some (.long (lN (hpN w i))))
           rw [e] at ih
           exact ih)
        | (have e : hsF w (i + 1) = hsF w i := by
             rw [hsF, if_neg]
             rintro ⟨e1, e2⟩
             rw [g17, e1, e2] at hr2
             exact absurd hr2 (by decide)
           have ih := c_greatL hd hw hq n (i + 1) rest (by omega) (by rw [e]; exact hr) z6
           rw [e] at ih
           exact ih)
termination_by n
theorem c_great {w : Nat} (hd : 4 ≤ d) (hw : w < 2 ^ 36) (hq : Q (some (.int (nI (hsF w 36).2.2))) h) : wc d 92 [.long (lN w)] h Q := by
  refine wc.go [_, _, _, _, _, _, _, _] rfl ?_
  refine q_iconst (pc := 0) rfl (nI 0) (by decide) ?_
  refine q_istore_n (pc := 1) [_, _, _, _, _, _, _, _] rfl (Nat.le_of_ble_eq_true rfl) rfl ?_
  refine q_lload_n (pc := 2) rfl rfl ?_
  refine q_lstore_n (pc := 3) [_, _, _, _, _, _, _, _] rfl (Nat.le_of_ble_eq_true rfl) rfl ?_
  refine q_iconst (pc := 4) rfl (nI 0) (by decide) ?_
  refine q_istore (pc := 5) [_, _, _, _, _, _, _, _] rfl (Nat.le_of_ble_eq_true rfl) rfl ?_
  exact c_greatL hd hw hq 36 0 w (by omega) ⟨hw, fun i hi => by rw [show (hsF w 0).1 = 0 from rfl, Nat.zero_testBit]; cases w.testBit i <;> rfl⟩ _
theorem wbs_lt : wbs β < 2 ^ 36 := bset_lt _ _
def o_wrong (C : Nat → Nat → Int32) (E : Nat → Nat → Nat) (β : Nat → Nat) (x : Int32) : Int64 := if rg 60 x = 0 then lN (wbs β) else if 10 ≤ rg 60 x ∧ rg 60 x < 46 then lN (hpN (wbs β) (rg 60 x - 10)) else if 50 ≤ rg 60 x ∧ rg 60 x < 50 + β 88 then lN (bset (tru C E β (rg 60 x - 50)) 36) else -4611686018427387904
theorem x_back {j : Nat} {y : Int32} (e : x - y = nI j) : x = nI j + y := by rw [← e, Int32.sub_add_cancel]
theorem c_wrong (hd : 20 ≤ d) (H : HR P h s) (hl : 51 ≤ P.1) (A : CA P s β κ ik tp tz C E σ sz cl) (K : AOK P.2.1 β κ ik tp tz σ sz) (kk : ∀ h' s', HR P h' s' → CA P s' β κ ik tp tz C E σ sz cl → sf s s' cS → Q (some (.long (o_wrong C E β x))) h') : wc d 89 [.ref 0, .int x] h Q := by
  have K4 := K.1.2.2.1
  have KK := K.1
  have hT := A.2.2.2.2.2.1
  have hSh := A.2.2.2.2.2.2
  have kSh := K.2.2.2.2.2.2.2
  rcases rgc 60 (by decide) x with ⟨w, hw, rfl, z1⟩ | ⟨g, z1⟩
  ·
    refine wc.go [_, _, _] rfl ?_
    refine q_iload_n (pc := 0) rfl rfl ?_
    first | refine n_ifne (pc := 1) rfl (by omega) (fun h1 => ?_) (fun h1 => ?_) | refine q_ifne (pc := 1) rfl (fun h1 => ?_) (fun h1 => ?_)
    · first
      | (exfalso; omega (config := {splitDisjunctions := false}))
      | exact absurd rfl h1
      | skip
        refine q_iload_n (pc := 12) rfl rfl ?_
        refine q_bipush (pc := 13) rfl (nI 10) (by decide) ?_
        first | refine n_icmplt (pc := 15) rfl (by omega) (by omega) (fun h15 => ?_) (fun h15 => ?_) | refine q_icmplt (pc := 15) rfl (fun h15 => ?_) (fun h15 => ?_)
        · first
          | (exfalso; omega (config := {splitDisjunctions := false}))
          | skip
            refine q_iload_n (pc := 43) rfl rfl ?_
            refine q_bipush (pc := 44) rfl (nI 50) (by decide) ?_
            first | refine n_icmplt (pc := 46) rfl (by omega) (by omega) (fun h46 => ?_) (fun h46 => ?_) | refine q_icmplt (pc := 46) rfl (fun h46 => ?_) (fun h46 => ?_)
            · first
              | (exfalso; omega (config := {splitDisjunctions := false}))
              | skip
                refine q_null (pc := 63) rfl ?_
                refine q_astore_n (pc := 64) [_, _, _] rfl rfl (Nat.le_of_ble_eq_true rfl) rfl ?_
                refine q_aload_n (pc := 65) rfl rfl rfl ?_
                refine q_ifnonnullN (pc := 66) rfl ?_
                refine q_ldc2 (pc := 69) rfl (-4611686018427387904) (by decide) ?_
                refine q_goto (pc := 72) rfl ?_
                refine q_lret (pc := 87) rfl rfl ?_
                first
                | (refine eqL (v' := o_wrong C E β (nI w)) ?_ (kk _ _ H A k1)
                   unfold o_wrong
                   rw [z1.out, if_neg (by omega), if_neg (by omega), if_pos (by omega)])
                | (refine eqL (v' := o_wrong C E β (nI w)) ?_ (kk _ _ H A sf.rf)
                   unfold o_wrong
                   rw [z1.out, if_neg (by omega), if_neg (by omega), if_neg (by omega)])
            · first
              | (exfalso; omega (config := {splitDisjunctions := false}))
              | skip
                refine q_aload_n (pc := 49) rfl rfl rfl ?_
                refine q_getf (pc := 50) rfl (by first | exact HR.X' H hl | exact HR.B H hl isB1 A.1 | exact HR.R H hl A.2.2.2.2.2.1.1 | exact HR.O H hl isB1 A.1 hp | exact HR.c H hl _ rfl) rfl rfl ?_
                refine q_iload_n (pc := 53) rfl rfl ?_
                refine q_bipush (pc := 54) rfl (nI 50) (by decide) ?_
                first | refine n_isub (pc := 56) rfl (by omega) ?_ | refine q_isub (pc := 56) rfl ?_
                refine q_callV (pc := 57) _ rfl rfl rfl (by first | exact HR.X' H hl | exact HR.B H hl isB1 A.1 | exact HR.R H hl A.2.2.2.2.2.1.1 | exact HR.O H hl isB1 A.1 hp | exact HR.c H hl _ rfl) rfl (Nat.le_of_ble_eq_true rfl) (by omega) _ rfl ?_
                refine c_member H hl isB1 A.1 (fun p hp hpβ hxp => ?_) (fun gp => ?_) K4
                · obtain rfl := x_eq hxp (by omega) (by omega)
                  refine q_goto (pc := 60) rfl ?_
                  refine q_astore_n (pc := 64) [_, _, _] rfl rfl (Nat.le_of_ble_eq_true rfl) rfl ?_
                  refine q_aload_n (pc := 65) rfl rfl rfl ?_
                  refine q_ifnonnull (pc := 66) rfl ?_
                  refine q_aload_n (pc := 75) rfl rfl rfl ?_
                  refine q_getf (pc := 76) rfl (by first | exact HR.X' H hl | exact HR.B H hl isB1 A.1 | exact HR.R H hl A.2.2.2.2.2.1.1 | exact HR.O H hl isB1 A.1 hp | exact HR.c H hl _ rfl) rfl rfl ?_
                  refine q_aload_n (pc := 79) rfl rfl rfl ?_
                  refine q_getf (pc := 80) rfl (by first | exact HR.X' H hl | exact HR.B H hl isB1 A.1 | exact HR.R H hl A.2.2.2.2.2.1.1 | exact HR.O H hl isB1 A.1 hp | exact HR.c H hl _ rfl) rfl rfl ?_
                  refine q_aload_n (pc := 83) rfl rfl rfl ?_
                  refine q_callV (pc := 84) _ rfl rfl rfl (by first | exact HR.X' H hl | exact HR.B H hl isB1 A.1 | exact HR.R H hl A.2.2.2.2.2.1.1 | exact HR.O H hl isB1 A.1 hp | exact HR.c H hl _ rfl) rfl (Nat.le_of_ble_eq_true rfl) (by omega) _ rfl ?_
                  refine c_true (by omega) H hl isB1 A.1 hT KK hp ?_
                  intro h s1 H hβ hT k0
                  obtain ⟨A, k1⟩ := th9 A k0 (fun i g => by omega)
                  refine q_lret (pc := 87) rfl rfl ?_
                  first
                  | (refine eqL (v' := o_wrong C E β (nI w)) ?_ (kk _ _ H A k1)
                     unfold o_wrong
                     rw [z1.out, if_neg (by omega), if_neg (by omega), if_pos (by omega)])
                  | (refine eqL (v' := o_wrong C E β (nI w)) ?_ (kk _ _ H A sf.rf)
                     unfold o_wrong
                     rw [z1.out, if_neg (by omega), if_neg (by omega), if_neg (by omega)])
                · have gp : β 88 ≤ w - 50 := gp.elim (fun e => absurd e (nI_pos (by omega))) (fun e => x_le e (by omega) (by omega))
                  refine q_goto (pc := 60) rfl ?_
                  refine q_astore_n (pc := 64) [_, _, _] rfl rfl (Nat.le_of_ble_eq_true rfl) rfl ?_
                  refine q_aload_n (pc := 65) rfl rfl rfl ?_
                  refine q_ifnonnullN (pc := 66) rfl ?_
                  refine q_ldc2 (pc := 69) rfl (-4611686018427387904) (by decide) ?_
                  refine q_goto (pc := 72) rfl ?_
                  refine q_lret (pc := 87) rfl rfl ?_
                  first
                  | (refine eqL (v' := o_wrong C E β (nI w)) ?_ (kk _ _ H A k1)
                     unfold o_wrong
                     rw [z1.out, if_neg (by omega), if_neg (by omega), if_pos (by omega)])
                  | (refine eqL (v' := o_wrong C E β (nI w)) ?_ (kk _ _ H A sf.rf)
                     unfold o_wrong
                     rw [z1.out, if_neg (by omega), if_neg (by omega), if_neg (by omega)])
        · first
          | (exfalso; omega (config := {splitDisjunctions := false}))
          | skip
            refine q_iload_n (pc := 18) rfl rfl ?_
            refine q_bipush (pc := 19) rfl (nI 10) (by decide) ?_
            first | refine n_isub (pc := 21) rfl (by omega) ?_ | refine q_isub (pc := 21) rfl ?_
            refine q_callS (pc := 22) _ (by decide) rfl rfl rfl rfl (Nat.le_of_ble_eq_true rfl) (by omega) _ rfl ?_
            refine c_isCell (fun c0 hc0 hx0 => ?_) (fun gc => ?_)
            · have hx0 := x_eq hx0 (by omega) (by omega)
              subst hx0
              refine q_ifeq (pc := 25) rfl (fun z => absurd z (by decide)) (fun _ => ?_)
              refine q_aload_n (pc := 28) rfl rfl rfl ?_
              refine q_getf (pc := 29) rfl (by first | exact HR.X' H hl | exact HR.B H hl isB1 A.1 | exact HR.R H hl A.2.2.2.2.2.1.1 | exact HR.O H hl isB1 A.1 hp | exact HR.c H hl _ rfl) rfl rfl ?_
              refine q_callV (pc := 32) _ rfl rfl rfl (by first | exact HR.X' H hl | exact HR.B H hl isB1 A.1 | exact HR.R H hl A.2.2.2.2.2.1.1 | exact HR.O H hl isB1 A.1 hp | exact HR.c H hl _ rfl) rfl (Nat.le_of_ble_eq_true rfl) (by omega) _ rfl ?_
              refine c_wbits (by omega) H hl isB1 A.1 KK.1 ?_
              refine q_iload_n (pc := 35) rfl rfl ?_
              refine q_bipush (pc := 36) rfl (nI 10) (by decide) ?_
              first | refine n_isub (pc := 38) rfl (by omega) ?_ | refine q_isub (pc := 38) rfl ?_
              refine q_callS (pc := 39) _ (by decide) rfl rfl rfl rfl (Nat.le_of_ble_eq_true rfl) (by omega) _ rfl ?_
              refine c_heapWith (by omega) wbs_lt (by omega) ?_
              refine q_lret (pc := 42) rfl rfl ?_
              refine eqL (v' := o_wrong C E β (nI w)) ?_ (kk _ _ H A sf.rf)
              unfold o_wrong
              rw [z1.out, if_neg (by omega), if_pos (by omega)]
            · have gc : 36 ≤ w - 10 := gc.elim (fun e => absurd e (nI_pos (by omega))) (fun e => x_le e (by omega) (by omega))
              refine q_ifeq (pc := 25) rfl (fun _ => ?_) (fun z => absurd (by decide) z)
              refine q_iload_n (pc := 43) rfl rfl ?_
              refine q_bipush (pc := 44) rfl (nI 50) (by decide) ?_
              first | refine n_icmplt (pc := 46) rfl (by omega) (by omega) (fun h46 => ?_) (fun h46 => ?_) | refine q_icmplt (pc := 46) rfl (fun h46 => ?_) (fun h46 => ?_)
              · first
                | (exfalso; omega (config := {splitDisjunctions := false}))
                | skip
                  refine q_null (pc := 63) rfl ?_
                  refine q_astore_n (pc := 64) [_, _, _] rfl rfl (Nat.le_of_ble_eq_true rfl) rfl ?_
                  refine q_aload_n (pc := 65) rfl rfl rfl ?_
                  refine q_ifnonnullN (pc := 66) rfl ?_
                  refine q_ldc2 (pc := 69) rfl (-4611686018427387904) (by decide) ?_
                  refine q_goto (pc := 72) rfl ?_
                  refine q_lret (pc := 87) rfl rfl ?_
                  first
                  | (refine eqL (v' := o_wrong C E β (nI w)) ?_ (kk _ _ H A k1)
                     unfold o_wrong
                     rw [z1.out, if_neg (by omega), if_neg (by omega), if_pos (by omega)])
                  | (refine eqL (v' := o_wrong C E β (nI w)) ?_ (kk _ _ H A sf.rf)
                     unfold o_wrong
                     rw [z1.out, if_neg (by omega), if_neg (by omega), if_neg (by omega)])
              · first
                | (exfalso; omega (config := {splitDisjunctions := false}))
                | skip
                  refine q_aload_n (pc := 49) rfl rfl rfl ?_
                  refine q_getf (pc := 50) rfl (by first | exact HR.X' H hl | exact HR.B H hl isB1 A.1 | exact HR.R H hl A.2.2.2.2.2.1.1 | exact HR.O H hl isB1 A.1 hp | exact HR.c H hl _ rfl) rfl rfl ?_
                  refine q_iload_n (pc := 53) rfl rfl ?_
                  refine q_bipush (pc := 54) rfl (nI 50) (by decide) ?_
                  first | refine n_isub (pc := 56) rfl (by omega) ?_ | refine q_isub (pc := 56) rfl ?_
                  refine q_callV (pc := 57) _ rfl rfl rfl (by first | exact HR.X' H hl | exact HR.B H hl isB1 A.1 | exact HR.R H hl A.2.2.2.2.2.1.1 | exact HR.O H hl isB1 A.1 hp | exact HR.c H hl _ rfl) rfl (Nat.le_of_ble_eq_true rfl) (by omega) _ rfl ?_
                  refine c_member H hl isB1 A.1 (fun p hp hpβ hxp => ?_) (fun gp => ?_) K4
                  · obtain rfl := x_eq hxp (by omega) (by omega)
                    refine q_goto (pc := 60) rfl ?_
                    refine q_astore_n (pc := 64) [_, _, _] rfl rfl (Nat.le_of_ble_eq_true rfl) rfl ?_
                    refine q_aload_n (pc := 65) rfl rfl rfl ?_
                    refine q_ifnonnull (pc := 66) rfl ?_
                    refine q_aload_n (pc := 75) rfl rfl rfl ?_
                    refine q_getf (pc := 76) rfl (by first | exact HR.X' H hl | exact HR.B H hl isB1 A.1 | exact HR.R H hl A.2.2.2.2.2.1.1 | exact HR.O H hl isB1 A.1 hp | exact HR.c H hl _ rfl) rfl rfl ?_
                    refine q_aload_n (pc := 79) rfl rfl rfl ?_
                    refine q_getf (pc := 80) rfl (by first | exact HR.X' H hl | exact HR.B H hl isB1 A.1 | exact HR.R H hl A.2.2.2.2.2.1.1 | exact HR.O H hl isB1 A.1 hp | exact HR.c H hl _ rfl) rfl rfl ?_
                    refine q_aload_n (pc := 83) rfl rfl rfl ?_
                    refine q_callV (pc := 84) _ rfl rfl rfl (by first | exact HR.X' H hl | exact HR.B H hl isB1 A.1 | exact HR.R H hl A.2.2.2.2.2.1.1 | exact HR.O H hl isB1 A.1 hp | exact HR.c H hl _ rfl) rfl (Nat.le_of_ble_eq_true rfl) (by omega) _ rfl ?_
                    refine c_true (by omega) H hl isB1 A.1 hT KK hp ?_
                    intro h s1 H hβ hT k0
                    obtain ⟨A, k1⟩ := th9 A k0 (fun i g => by omega)
                    refine q_lret (pc := 87) rfl rfl ?_
                    first
                    | (refine eqL (v' := o_wrong C E β (nI w)) ?_ (kk _ _ H A k1)
                       unfold o_wrong
                       rw [z1.out, if_neg (by omega), if_neg (by omega), if_pos (by omega)])
                    | (refine eqL (v' := o_wrong C E β (nI w)) ?_ (kk _ _ H A sf.rf)
                       unfold o_wrong
                       rw [z1.out, if_neg (by omega), if_neg (by omega), if_neg (by omega)])
                  · have gp : β 88 ≤ w - 50 := gp.elim (fun e => absurd e (nI_pos (by omega))) (fun e => x_le e (by omega) (by omega))
                    refine q_goto (pc := 60) rfl ?_
                    refine q_astore_n (pc := 64) [_, _, _] rfl rfl (Nat.le_of_ble_eq_true rfl) rfl ?_
                    refine q_aload_n (pc := 65) rfl rfl rfl ?_
                    refine q_ifnonnullN (pc := 66) rfl ?_
                    refine q_ldc2 (pc := 69) rfl (-4611686018427387904) (by decide) ?_
                    refine q_goto (pc := 72) rfl ?_
                    refine q_lret (pc := 87) rfl rfl ?_
                    first
                    | (refine eqL (v' := o_wrong C E β (nI w)) ?_ (kk _ _ H A k1)
                       unfold o_wrong
                       rw [z1.out, if_neg (by omega), if_neg (by omega), if_pos (by omega)])
                    | (refine eqL (v' := o_wrong C E β (nI w)) ?_ (kk _ _ H A sf.rf)
                       unfold o_wrong
                       rw [z1.out, if_neg (by omega), if_neg (by omega), if_neg (by omega)])
    · first
      | (exfalso; omega (config := {splitDisjunctions := false}))
      | exact absurd rfl h1
      | skip
        refine q_aload_n (pc := 4) rfl rfl rfl ?_
        refine q_getf (pc := 5) rfl (by first | exact HR.X' H hl | exact HR.B H hl isB1 A.1 | exact HR.R H hl A.2.2.2.2.2.1.1 | exact HR.O H hl isB1 A.1 hp | exact HR.c H hl _ rfl) rfl rfl ?_
        refine q_callV (pc := 8) _ rfl rfl rfl (by first | exact HR.X' H hl | exact HR.B H hl isB1 A.1 | exact HR.R H hl A.2.2.2.2.2.1.1 | exact HR.O H hl isB1 A.1 hp | exact HR.c H hl _ rfl) rfl (Nat.le_of_ble_eq_true rfl) (by omega) _ rfl ?_
        refine c_wbits (by omega) H hl isB1 A.1 KK.1 ?_
        refine q_lret (pc := 11) rfl rfl ?_
        refine eqL (v' := o_wrong C E β (nI w)) ?_ (kk _ _ H A sf.rf)
        unfold o_wrong
        rw [z1.out, if_pos h1]
  ·
    refine wc.go [_, _, _] rfl ?_
    refine q_iload_n (pc := 0) rfl rfl ?_
    first | refine n_ifne (pc := 1) rfl (by omega) (fun h1 => ?_) (fun h1 => ?_) | refine q_ifne (pc := 1) rfl (fun h1 => ?_) (fun h1 => ?_)
    · first
      | (exfalso; omega (config := {splitDisjunctions := false}))
      | exact absurd rfl h1
      | skip
        refine q_iload_n (pc := 12) rfl rfl ?_
        refine q_bipush (pc := 13) rfl (nI 10) (by decide) ?_
        refine q_icmplt (pc := 15) rfl (fun h15 => ?_) (fun h15 => ?_)
        · first
          | (exfalso; omega (config := {splitDisjunctions := false}))
          | skip
            refine q_iload_n (pc := 43) rfl rfl ?_
            refine q_bipush (pc := 44) rfl (nI 50) (by decide) ?_
            refine q_icmplt (pc := 46) rfl (fun h46 => ?_) (fun h46 => ?_)
            · first
              | (exfalso; omega (config := {splitDisjunctions := false}))
              | skip
                refine q_null (pc := 63) rfl ?_
                refine q_astore_n (pc := 64) [_, _, _] rfl rfl (Nat.le_of_ble_eq_true rfl) rfl ?_
                refine q_aload_n (pc := 65) rfl rfl rfl ?_
                refine q_ifnonnullN (pc := 66) rfl ?_
                refine q_ldc2 (pc := 69) rfl (-4611686018427387904) (by decide) ?_
                refine q_goto (pc := 72) rfl ?_
                refine q_lret (pc := 87) rfl rfl ?_
                refine eqL ?_ (kk _ _ H A sf.rf)
                unfold o_wrong
                rw [z1.out, if_neg (by omega), if_neg (by omega), if_neg (by omega)]
            · first
              | (exfalso; omega (config := {splitDisjunctions := false}))
              | skip
                refine q_aload_n (pc := 49) rfl rfl rfl ?_
                refine q_getf (pc := 50) rfl (by first | exact HR.X' H hl | exact HR.B H hl isB1 A.1 | exact HR.R H hl A.2.2.2.2.2.1.1 | exact HR.O H hl isB1 A.1 hp | exact HR.c H hl _ rfl) rfl rfl ?_
                refine q_iload_n (pc := 53) rfl rfl ?_
                refine q_bipush (pc := 54) rfl (nI 50) (by decide) ?_
                refine q_isub (pc := 56) rfl ?_
                refine q_callV (pc := 57) _ rfl rfl rfl (by first | exact HR.X' H hl | exact HR.B H hl isB1 A.1 | exact HR.R H hl A.2.2.2.2.2.1.1 | exact HR.O H hl isB1 A.1 hp | exact HR.c H hl _ rfl) rfl (Nat.le_of_ble_eq_true rfl) (by omega) _ rfl ?_
                refine c_member H hl isB1 A.1 (fun p hp hpβ hxp => ?_) (fun gp => ?_) K4
                · exact (rg_no g ((x_back hxp).trans (nI_add _ _)) ⟨by omega, by decide⟩).elim
                · refine q_goto (pc := 60) rfl ?_
                  refine q_astore_n (pc := 64) [_, _, _] rfl rfl (Nat.le_of_ble_eq_true rfl) rfl ?_
                  refine q_aload_n (pc := 65) rfl rfl rfl ?_
                  refine q_ifnonnullN (pc := 66) rfl ?_
                  refine q_ldc2 (pc := 69) rfl (-4611686018427387904) (by decide) ?_
                  refine q_goto (pc := 72) rfl ?_
                  refine q_lret (pc := 87) rfl rfl ?_
                  refine eqL ?_ (kk _ _ H A sf.rf)
                  unfold o_wrong
                  rw [z1.out, if_neg (by omega), if_neg (by omega), if_neg (by omega)]
        · first
          | (exfalso; omega (config := {splitDisjunctions := false}))
          | skip
            refine q_iload_n (pc := 18) rfl rfl ?_
            refine q_bipush (pc := 19) rfl (nI 10) (by decide) ?_
            refine q_isub (pc := 21) rfl ?_
            refine q_callS (pc := 22) _ (by decide) rfl rfl rfl rfl (Nat.le_of_ble_eq_true rfl) (by omega) _ rfl ?_
            refine c_isCell (fun c0 hc0 hx0 => ?_) (fun gc => ?_)
            · exact (rg_no g ((x_back hx0).trans (nI_add _ _)) ⟨by omega, by decide⟩).elim
            · refine q_ifeq (pc := 25) rfl (fun _ => ?_) (fun z => absurd (by decide) z)
              refine q_iload_n (pc := 43) rfl rfl ?_
              refine q_bipush (pc := 44) rfl (nI 50) (by decide) ?_
              refine q_icmplt (pc := 46) rfl (fun h46 => ?_) (fun h46 => ?_)
              · first
                | (exfalso; omega (config := {splitDisjunctions := false}))
                | skip
                  refine q_null (pc := 63) rfl ?_
                  refine q_astore_n (pc := 64) [_, _, _] rfl rfl (Nat.le_of_ble_eq_true rfl) rfl ?_
                  refine q_aload_n (pc := 65) rfl rfl rfl ?_
                  refine q_ifnonnullN (pc := 66) rfl ?_
                  refine q_ldc2 (pc := 69) rfl (-4611686018427387904) (by decide) ?_
                  refine q_goto (pc := 72) rfl ?_
                  refine q_lret (pc := 87) rfl rfl ?_
                  refine eqL ?_ (kk _ _ H A sf.rf)
                  unfold o_wrong
                  rw [z1.out, if_neg (by omega), if_neg (by omega), if_neg (by omega)]
              · first
                | (exfalso; omega (config := {splitDisjunctions := false}))
                | skip
                  refine q_aload_n (pc := 49) rfl rfl rfl ?_
                  refine q_getf (pc := 50) rfl (by first | exact HR.X' H hl | exact HR.B H hl isB1 A.1 | exact HR.R H hl A.2.2.2.2.2.1.1 | exact HR.O H hl isB1 A.1 hp | exact HR.c H hl _ rfl) rfl rfl ?_
                  refine q_iload_n (pc := 53) rfl rfl ?_
                  refine q_bipush (pc := 54) rfl (nI 50) (by decide) ?_
                  refine q_isub (pc := 56) rfl ?_
                  refine q_callV (pc := 57) _ rfl rfl rfl (by first | exact HR.X' H hl | exact HR.B H hl isB1 A.1 | exact HR.R H hl A.2.2.2.2.2.1.1 | exact HR.O H hl isB1 A.1 hp | exact HR.c H hl _ rfl) rfl (Nat.le_of_ble_eq_true rfl) (by omega) _ rfl ?_
                  refine c_member H hl isB1 A.1 (fun p hp hpβ hxp => ?_) (fun gp => ?_) K4
                  · exact (rg_no g ((x_back hxp).trans (nI_add _ _)) ⟨by omega, by decide⟩).elim
                  · refine q_goto (pc := 60) rfl ?_
                    refine q_astore_n (pc := 64) [_, _, _] rfl rfl (Nat.le_of_ble_eq_true rfl) rfl ?_
                    refine q_aload_n (pc := 65) rfl rfl rfl ?_
                    refine q_ifnonnullN (pc := 66) rfl ?_
                    refine q_ldc2 (pc := 69) rfl (-4611686018427387904) (by decide) ?_
                    refine q_goto (pc := 72) rfl ?_
                    refine q_lret (pc := 87) rfl rfl ?_
                    refine eqL ?_ (kk _ _ H A sf.rf)
                    unfold o_wrong
                    rw [z1.out, if_neg (by omega), if_neg (by omega), if_neg (by omega)]
    · exact False.elim (g.elim (fun e => absurd e (by rw [h1]; decide)) (fun e => absurd e (by rw [h1]; decide)))
def o_shore (C : Nat → Nat → Int32) (E : Nat → Nat → Nat) (β : Nat → Nat) (x : Int32) : Int32 := if rg 6 x = 0 then nI (popN (wbs β)) else if rg 6 x = 1 then nI (hsF (wbs β) 36).2.1 else if rg 6 x = 2 then nI (hsF (wbs β) 36).2.2 else if rg 6 x = 3 then nI (wrs (bhN C E β) 6).1 else if rg 6 x = 4 then nI (bhN C E β (wrs (bhN C E β) 6).1) else if rg 6 x = 5 then oc (fsw β) else -2
theorem c_shore (hd : 20 ≤ d) (H : HR P h s) (hl : 51 ≤ P.1) (A : CA P s β κ ik tp tz C E σ sz cl) (K : AOK P.2.1 β κ ik tp tz σ sz) (kk : ∀ h' s', HR P h' s' → CA P s' β κ ik tp tz C E σ sz cl → sf s s' cS → Q (some (.int (o_shore C E β x))) h') : wc d 90 [.ref 0, .int x] h Q := by
  have K4 := K.1.2.2.1
  have KK := K.1
  have hT := A.2.2.2.2.2.1
  have hSh := A.2.2.2.2.2.2
  have kSh := K.2.2.2.2.2.2.2
  refine wc.go [_, _] rfl ?_
  refine q_iload_n (pc := 0) rfl rfl ?_
  rcases rgc 6 (by decide) x with ⟨w, hw, rfl, z1⟩ | ⟨g, z1⟩
  rcases p6 hw with rfl | rfl | rfl | rfl | rfl | rfl
  · refine q_tsw (pc := 1) (t := 40) rfl (by decide) ?_
    refine q_aload_n (pc := 40) rfl rfl rfl ?_
    refine q_getf (pc := 41) rfl (by first | exact HR.X' H hl | exact HR.B H hl isB1 A.1 | exact HR.R H hl A.2.2.2.2.2.1.1 | exact HR.O H hl isB1 A.1 hp | exact HR.c H hl _ rfl) rfl rfl ?_
    refine q_callV (pc := 44) _ rfl rfl rfl (by first | exact HR.X' H hl | exact HR.B H hl isB1 A.1 | exact HR.R H hl A.2.2.2.2.2.1.1 | exact HR.O H hl isB1 A.1 hp | exact HR.c H hl _ rfl) rfl (Nat.le_of_ble_eq_true rfl) (by omega) _ rfl ?_
    refine c_wrongCells (by omega) H hl isB1 A.1 KK.1 ?_
    refine q_iret (pc := 47) rfl (rfl) ?_
    refine eqQ ?_ (kk _ _ H A sf.rf)
    unfold o_shore
    rw [z1.out]
    rfl
  · refine q_tsw (pc := 1) (t := 48) rfl (by decide) ?_
    refine q_aload_n (pc := 48) rfl rfl rfl ?_
    refine q_getf (pc := 49) rfl (by first | exact HR.X' H hl | exact HR.B H hl isB1 A.1 | exact HR.R H hl A.2.2.2.2.2.1.1 | exact HR.O H hl isB1 A.1 hp | exact HR.c H hl _ rfl) rfl rfl ?_
    refine q_callV (pc := 52) _ rfl rfl rfl (by first | exact HR.X' H hl | exact HR.B H hl isB1 A.1 | exact HR.R H hl A.2.2.2.2.2.1.1 | exact HR.O H hl isB1 A.1 hp | exact HR.c H hl _ rfl) rfl (Nat.le_of_ble_eq_true rfl) (by omega) _ rfl ?_
    refine c_wbits (by omega) H hl isB1 A.1 KK.1 ?_
    refine q_callS (pc := 55) _ (by decide) rfl rfl rfl rfl (Nat.le_of_ble_eq_true rfl) (by omega) _ rfl ?_
    refine c_heaps (by omega) wbs_lt ?_
    refine q_iret (pc := 58) rfl (rfl) ?_
    refine eqQ ?_ (kk _ _ H A sf.rf)
    unfold o_shore
    rw [z1.out]
    rfl
  · refine q_tsw (pc := 1) (t := 59) rfl (by decide) ?_
    refine q_aload_n (pc := 59) rfl rfl rfl ?_
    refine q_getf (pc := 60) rfl (by first | exact HR.X' H hl | exact HR.B H hl isB1 A.1 | exact HR.R H hl A.2.2.2.2.2.1.1 | exact HR.O H hl isB1 A.1 hp | exact HR.c H hl _ rfl) rfl rfl ?_
    refine q_callV (pc := 63) _ rfl rfl rfl (by first | exact HR.X' H hl | exact HR.B H hl isB1 A.1 | exact HR.R H hl A.2.2.2.2.2.1.1 | exact HR.O H hl isB1 A.1 hp | exact HR.c H hl _ rfl) rfl (Nat.le_of_ble_eq_true rfl) (by omega) _ rfl ?_
    refine c_wbits (by omega) H hl isB1 A.1 KK.1 ?_
    refine q_callS (pc := 66) _ (by decide) rfl rfl rfl rfl (Nat.le_of_ble_eq_true rfl) (by omega) _ rfl ?_
    refine c_great (by omega) wbs_lt ?_
    refine q_iret (pc := 69) rfl (rfl) ?_
    refine eqQ ?_ (kk _ _ H A sf.rf)
    unfold o_shore
    rw [z1.out]
    rfl
  · refine q_tsw (pc := 1) (t := 70) rfl (by decide) ?_
    refine q_aload_n (pc := 70) rfl rfl rfl ?_
    refine q_callV (pc := 71) _ rfl rfl rfl (by first | exact HR.X' H hl | exact HR.B H hl isB1 A.1 | exact HR.R H hl A.2.2.2.2.2.1.1 | exact HR.O H hl isB1 A.1 hp | exact HR.c H hl _ rfl) rfl (Nat.le_of_ble_eq_true rfl) (by omega) _ rfl ?_
    refine c_worst (by omega) H hl A K ?_
    intro h s1 H A k1
    refine q_iret (pc := 74) rfl (rfl) ?_
    refine eqQ ?_ (kk _ _ H A k1)
    unfold o_shore
    rw [z1.out]
    rfl
  · refine q_tsw (pc := 1) (t := 75) rfl (by decide) ?_
    refine q_aload_n (pc := 75) rfl rfl rfl ?_
    refine q_aload_n (pc := 76) rfl rfl rfl ?_
    refine q_callV (pc := 77) _ rfl rfl rfl (by first | exact HR.X' H hl | exact HR.B H hl isB1 A.1 | exact HR.R H hl A.2.2.2.2.2.1.1 | exact HR.O H hl isB1 A.1 hp | exact HR.c H hl _ rfl) rfl (Nat.le_of_ble_eq_true rfl) (by omega) _ rfl ?_
    refine c_worst (by omega) H hl A K ?_
    intro h s1 H A k1
    refine q_callV (pc := 80) _ rfl rfl rfl (by first | exact HR.X' H hl | exact HR.B H hl isB1 A.1 | exact HR.R H hl A.2.2.2.2.2.1.1 | exact HR.O H hl isB1 A.1 hp | exact HR.c H hl _ rfl) rfl (Nat.le_of_ble_eq_true rfl) (by omega) _ rfl ?_
    refine c_behind (by omega) H hl A K (wrs_le _ _) ?_
    intro h s2 H A k2
    refine q_iret (pc := 83) rfl (rfl) ?_
    refine eqQ ?_ (kk _ _ H A (k1.tr k2))
    unfold o_shore
    rw [z1.out]
    rfl
  · refine q_tsw (pc := 1) (t := 84) rfl (by decide) ?_
    refine q_aload_n (pc := 84) rfl rfl rfl ?_
    refine q_getf (pc := 85) rfl (by first | exact HR.X' H hl | exact HR.B H hl isB1 A.1 | exact HR.R H hl A.2.2.2.2.2.1.1 | exact HR.O H hl isB1 A.1 hp | exact HR.c H hl _ rfl) rfl rfl ?_
    refine q_callV (pc := 88) _ rfl rfl rfl (by first | exact HR.X' H hl | exact HR.B H hl isB1 A.1 | exact HR.R H hl A.2.2.2.2.2.1.1 | exact HR.O H hl isB1 A.1 hp | exact HR.c H hl _ rfl) rfl (Nat.le_of_ble_eq_true rfl) (by omega) _ rfl ?_
    refine c_firstWrong H hl isB1 A.1 KK.1 ?_
    refine q_iret (pc := 91) rfl (rfl) ?_
    refine eqQ ?_ (kk _ _ H A sf.rf)
    unfold o_shore
    rw [z1.out]
    rfl
  · refine q_tsw (pc := 1) (t := 92) rfl ((tsw_d g (by decide) (by decide)).trans rfl) ?_
    refine q_bipush (pc := 92) rfl (-2) (by decide) ?_
    refine q_iret (pc := 94) rfl (rfl) ?_
    refine eqQ ?_ (kk _ _ H A sf.rf)
    unfold o_shore
    rw [z1.out]
    rfl
end P37
