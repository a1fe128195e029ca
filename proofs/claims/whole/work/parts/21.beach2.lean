/-! ===== the beach, more ===== -/
theorem nI_m1 {m : Nat} (h : m < 2 ^ 31) : ¬ nI m = -1 := fun e => by
  have := nI_pos h
  rw [e] at this
  exact this (by decide)
theorem isB_ne {b b2 : Nat} (h1 : isB b) (h2 : isB b2) (hn : b ≠ b2) : b + 8 ≤ b2 ∨ b2 + 8 ≤ b := by unfold isB at h1 h2; omega
/-- of a beach, so far: the marks, the plans, so many of the staff -/
def BTi (s : mx_St) (b : Nat) (β : Nat → Nat) (n : Nat) : Prop := (∀ i, i < 36 → s (b + 1) i = nI (β i)) ∧ (∀ i, i < 36 → s (b + 2) i = nI (β (36 + i))) ∧ (∀ p, p < n → ∀ i, i < 4 → s (b + 4 + p) i = nI (β (72 + 4 * p + i)))
def joinb (β : Nat → Nat) (kind num on : Nat) : Nat → Nat := upN (upN (upN (upN (upN β (72 + 4 * β 88 + 0) kind) (72 + 4 * β 88 + 1) num) (72 + 4 * β 88 + 2) on) (72 + 4 * β 88 + 3) 0) 88 (β 88 + 1)
section P21
variable {d k pc a i j c p b b2 e n m n0 : Nat} {v : Int} {L L' : mx_L} {st r : List Value} {P : mx_Pm} {h : mx_H} {s : mx_St} {Q : Option Value → mx_H → Prop} {x y : Int32} {β : Nat → Nat}
theorem n_aal {u w : Nat} {f : Nat → Option Nat} (hc : mx_tb k pc = some (.aaload, a, v)) (H : HR P h s) (hl : n ≤ P.1) (hok : okc n e = true) (he : hr_c e (s e) = .inl (u, m, .inr f)) (hx : x = nI i) (hi : i < m) (hw : f i = some w) (hu : 3 ≤ u ∧ u ≤ 5 ∧ m < 2 ^ 31) (kk : wq d k (pc + 1) L (.ref w :: r) h Q) : wq d k pc L (.int x :: .ref e :: r) h Q := by
  subst hx
  have := okc_spec hok
  refine q_aaload hc ((H.c hl e hok).trans he) ⟨hu.1, hu.2.1⟩ (by have := H.1.1; show e < 1000000; omega) (x_vin hi hu.2.2) ?_
  rw [x_cl (by omega), hw]
  exact kk
theorem n_copy {j0 sp dp : Nat} (hc : mx_tb k pc = some (.invokestatic j0, a, 23)) (H : HR P h s) (hl : n ≤ P.1) (oke : okc n e = true) (okb : okc n b = true) (he : hr_c e (s e) = .inl (0, n0, .inl (s e))) (hb : ∀ F, hr_c b F = .inl (0, m, .inl F)) (h8 : mx_ok8 r = true) (h1 : sp + i ≤ n0 ∧ n0 < 2 ^ 31) (h2 : dp + i ≤ m ∧ m < 2 ^ 31) (kk : ∀ h', HR P h' (stF s b (va_cpy (s e) (s b) sp dp i)) → wq d k (pc + 3) L r h' Q) : wq d k pc L (.int (nI i) :: .int (nI dp) :: .ref b :: .int (nI sp) :: .ref e :: r) h Q := by
  have o1 := okc_spec oke
  have o2 := okc_spec okb
  have o3 := H.1.1
  refine q_copy hc ((H.c hl e oke).trans he) ((H.c hl b okb).trans (hb _)) ⟨h8, by show e < 1000000; omega, by show b < 1000000; omega, nI_pos (by omega), nI_pos (by omega), nI_pos (by omega), ?_, ?_⟩ ?_
  · rw [x_cl (by omega), x_cl (by omega)]; exact h1.1
  · rw [x_cl (by omega), x_cl (by omega)]; exact h2.1
  · rw [x_cl (by omega), x_cl (by omega), x_cl (by omega)]
    exact kk _ (H.set hl okb (hb _))
theorem nst_t {f : Nat → Bool} {g : Nat → Nat} {n m : Nat} (h1 : f n = true) (h2 : nst f g n = m) (h3 : m = 36 ∨ g n < g m) (hn : n < 36) : nI n = oc (nst f g (n + 1)) := by
  rw [nst, h2, if_pos ⟨h1, h3⟩, oc, if_pos hn]
theorem nst_f1 {f : Nat → Bool} {g : Nat → Nat} {n : Nat} {z : Int32} (h1 : f n = false) (h2 : z = oc (nst f g n)) : z = oc (nst f g (n + 1)) := by
  rw [nst, if_neg (fun q => by have := q.1; rw [h1] at this; cases this)]; exact h2
theorem nst_f2 {f : Nat → Bool} {g : Nat → Nat} {n m : Nat} {z : Int32} (hm : nst f g n = m) (h1 : m ≠ 36) (h3 : g m ≤ g n) (h2 : z = oc (nst f g n)) : z = oc (nst f g (n + 1)) := by
  rw [nst, hm, if_neg (fun q => by have := q.2; omega)]; rw [hm] at h2; exact h2
def nfr (β : Nat → Nat) (w c : Nat) : Bool := wrn β c && !(w.testBit c)
theorem nfr_t {w : Nat} (h1 : β c ≠ β (36 + c)) (h2 : w.testBit c = false) : nfr β w c = true := by unfold nfr; rw [wrn_t h1, h2]; rfl
theorem nfr_f {w : Nat} (h1 : β c = β (36 + c)) : nfr β w c = false := by unfold nfr; rw [wrn_f h1]; rfl
theorem nfr_g {w : Nat} (h1 : w.testBit c = true) : nfr β w c = false := by unfold nfr; rw [h1]; cases wrn β c <;> rfl
theorem c_nearL {w at0 : Nat} (hd : 2 ≤ d) (H : HR P h s) (hl : 51 ≤ P.1) (hb : isB b) (hβ : BT s b β) (hk : ∀ i, i < 72 → β i ≤ 9) (hw : w < 2 ^ 36) (ha : at0 < 36) (hq : Q (some (.int (oc (nst (nfr β w) (apN at0) 36)))) h) (c : Nat) (hc : c ≤ 36) (z : Int32) (hz : z = oc (nst (nfr β w) (apN at0) c)) (z6 : Option Value) : wq d 10 6 [some (.ref b), some (.int (nI at0)), some (.long (lN w)), none, some (.int z), some (.int (nI c)), z6] [] h Q := by
  have hz0 := hz
  rcases nst_lt (nfr β w) (apN at0) c with q | q
  · generalize hm : nst (nfr β w) (apN at0) c = m at q hz
    rw [oc, if_pos (by omega)] at hz
    subst hz
    have a1 := apN_le ha (show m < 36 by omega)
    refine q_iload (pc := 6) rfl rfl ?_
    refine q_bipush (pc := 8) rfl (nI 36) (by decide) ?_
    first | refine n_icmpge (pc := 10) rfl (by omega) (by omega) (fun h10 => ?_) (fun h10 => ?_) | refine q_icmpge (pc := 10) rfl (fun h10 => ?_) (fun h10 => ?_)
    · obtain rfl : c = 36 := by omega
      refine q_iload (pc := 82) rfl rfl ?_
      refine q_iret (pc := 84) rfl (rfl) ?_
      rw [hm, oc, if_pos (by omega)] at hq
      exact hq
    · have g1 := hk c (by omega)
      have g2 := hk (36 + c) (by omega)
      have a2 := apN_le ha h10
      refine q_aload_n (pc := 13) rfl rfl rfl ?_
      refine q_getf (pc := 14) rfl (by exact HR.B H hl hb hβ) rfl rfl ?_
      refine q_iload (pc := 17) rfl rfl ?_
      refine n_ild (pc := 19) rfl (by first | exact HR.am H hl hb hβ | exact HR.ap H hl hb hβ) rfl (by omega) (by omega) ?_
      refine q_aload_n (pc := 20) rfl rfl rfl ?_
      refine q_getf (pc := 21) rfl (by exact HR.B H hl hb hβ) rfl rfl ?_
      refine q_iload (pc := 24) rfl rfl ?_
      refine n_ild (pc := 26) rfl (by first | exact HR.am H hl hb hβ | exact HR.ap H hl hb hβ) rfl (by omega) (by omega) ?_
      first | refine n_icmpeq (pc := 27) rfl (by omega) (by omega) (fun h27 => ?_) (fun h27 => ?_) | refine q_icmpeq (pc := 27) rfl (fun h27 => ?_) (fun h27 => ?_)
      · refine q_iconst (pc := 43) rfl (nI 0) (by decide) ?_
        refine q_istore (pc := 44) [_, _, _, _, _, _, _] rfl (Nat.le_of_ble_eq_true rfl) rfl ?_
        refine q_iload (pc := 46) rfl rfl ?_
        first | refine n_ifeq (pc := 48) rfl (by omega) (fun h48 => ?_) (fun h48 => ?_) | refine q_ifeq (pc := 48) rfl (fun h48 => ?_) (fun h48 => ?_)
        · first
          | (exfalso; omega)
          | skip
            first | refine n_iinc (pc := 76) rfl [_, _, _, _, _, _, _] 1 (by decide) rfl rfl ?_ | refine q_iinc (pc := 76) [_, _, _, _, _, _, _] (1) rfl rfl (by decide) rfl ?_
            refine q_goto (pc := 79) rfl ?_
            refine c_nearL hd H hl hb hβ hk hw ha hq (c + 1) (by omega) _ ?_ _
            first | exact nst_f1 (nfr_f h27) hz0 | exact nst_f1 (nfr_g g33) hz0 | exact nst_t (nfr_t h27 g33) hm (Or.inr (by omega)) h10 | exact nst_f2 hm (by omega) (by omega) hz0
        · first
          | (exfalso; omega)
          | skip
            refine q_iload (pc := 51) rfl rfl ?_
            refine q_iconst (pc := 53) rfl (-1) (by decide) ?_
            first | refine n_icmpeq (pc := 54) rfl (by omega) (by omega) (fun h54 => ?_) (fun h54 => ?_) | refine q_icmpeq (pc := 54) rfl (fun h54 => ?_) (fun h54 => ?_)
            · exact absurd h54 (nI_m1 (by omega))
            · refine q_iload_n (pc := 57) rfl rfl ?_
              refine q_iload (pc := 58) rfl rfl ?_
              refine q_callS (pc := 60) _ (by decide) rfl rfl rfl rfl (Nat.le_of_ble_eq_true rfl) (by omega) _ rfl ?_
              refine c_apart (by omega) (by omega) ?_
              refine q_iload_n (pc := 63) rfl rfl ?_
              refine q_iload (pc := 64) rfl rfl ?_
              refine q_callS (pc := 66) _ (by decide) rfl rfl rfl rfl (Nat.le_of_ble_eq_true rfl) (by omega) _ rfl ?_
              refine c_apart (by omega) (by omega) ?_
              first | refine n_icmpge (pc := 69) rfl (by omega) (by omega) (fun h69 => ?_) (fun h69 => ?_) | refine q_icmpge (pc := 69) rfl (fun h69 => ?_) (fun h69 => ?_)
              · first | refine n_iinc (pc := 76) rfl [_, _, _, _, _, _, _] 1 (by decide) rfl rfl ?_ | refine q_iinc (pc := 76) [_, _, _, _, _, _, _] (1) rfl rfl (by decide) rfl ?_
                refine q_goto (pc := 79) rfl ?_
                refine c_nearL hd H hl hb hβ hk hw ha hq (c + 1) (by omega) _ ?_ _
                first | exact nst_f1 (nfr_f h27) hz0 | exact nst_f1 (nfr_g g33) hz0 | exact nst_t (nfr_t h27 g33) hm (Or.inr (by omega)) h10 | exact nst_f2 hm (by omega) (by omega) hz0
              · refine q_iload (pc := 72) rfl rfl ?_
                refine q_istore (pc := 74) [_, _, _, _, _, _, _] rfl (Nat.le_of_ble_eq_true rfl) rfl ?_
                first | refine n_iinc (pc := 76) rfl [_, _, _, _, _, _, _] 1 (by decide) rfl rfl ?_ | refine q_iinc (pc := 76) [_, _, _, _, _, _, _] (1) rfl rfl (by decide) rfl ?_
                refine q_goto (pc := 79) rfl ?_
                refine c_nearL hd H hl hb hβ hk hw ha hq (c + 1) (by omega) _ ?_ _
                first | exact nst_f1 (nfr_f h27) hz0 | exact nst_f1 (nfr_g g33) hz0 | exact nst_t (nfr_t h27 g33) hm (Or.inr (by omega)) h10 | exact nst_f2 hm (by omega) (by omega) hz0
      · refine q_lload_n (pc := 30) rfl rfl ?_
        refine q_iload (pc := 31) rfl rfl ?_
        refine q_callS (pc := 33) _ (by decide) rfl rfl rfl rfl (Nat.le_of_ble_eq_true rfl) (by omega) _ rfl ?_
        refine c_hasT (by omega) (by omega) (by assumption) (fun g33 => ?_) (fun g33 => ?_)
        · refine q_ifne (pc := 36) rfl (fun _ => ?_) (fun z => absurd z (by decide))
          refine q_iconst (pc := 43) rfl (nI 0) (by decide) ?_
          refine q_istore (pc := 44) [_, _, _, _, _, _, _] rfl (Nat.le_of_ble_eq_true rfl) rfl ?_
          refine q_iload (pc := 46) rfl rfl ?_
          first | refine n_ifeq (pc := 48) rfl (by omega) (fun h48 => ?_) (fun h48 => ?_) | refine q_ifeq (pc := 48) rfl (fun h48 => ?_) (fun h48 => ?_)
          · first
            | (exfalso; omega)
            | skip
              first | refine n_iinc (pc := 76) rfl [_, _, _, _, _, _, _] 1 (by decide) rfl rfl ?_ | refine q_iinc (pc := 76) [_, _, _, _, _, _, _] (1) rfl rfl (by decide) rfl ?_
              refine q_goto (pc := 79) rfl ?_
              refine c_nearL hd H hl hb hβ hk hw ha hq (c + 1) (by omega) _ ?_ _
              first | exact nst_f1 (nfr_f h27) hz0 | exact nst_f1 (nfr_g g33) hz0 | exact nst_t (nfr_t h27 g33) hm (Or.inr (by omega)) h10 | exact nst_f2 hm (by omega) (by omega) hz0
          · first
            | (exfalso; omega)
            | skip
              refine q_iload (pc := 51) rfl rfl ?_
              refine q_iconst (pc := 53) rfl (-1) (by decide) ?_
              first | refine n_icmpeq (pc := 54) rfl (by omega) (by omega) (fun h54 => ?_) (fun h54 => ?_) | refine q_icmpeq (pc := 54) rfl (fun h54 => ?_) (fun h54 => ?_)
              · exact absurd h54 (nI_m1 (by omega))
              · refine q_iload_n (pc := 57) rfl rfl ?_
                refine q_iload (pc := 58) rfl rfl ?_
                refine q_callS (pc := 60) _ (by decide) rfl rfl rfl rfl (Nat.le_of_ble_eq_true rfl) (by omega) _ rfl ?_
                refine c_apart (by omega) (by omega) ?_
                refine q_iload_n (pc := 63) rfl rfl ?_
                refine q_iload (pc := 64) rfl rfl ?_
                refine q_callS (pc := 66) _ (by decide) rfl rfl rfl rfl (Nat.le_of_ble_eq_true rfl) (by omega) _ rfl ?_
                refine c_apart (by omega) (by omega) ?_
                first | refine n_icmpge (pc := 69) rfl (by omega) (by omega) (fun h69 => ?_) (fun h69 => ?_) | refine q_icmpge (pc := 69) rfl (fun h69 => ?_) (fun h69 => ?_)
                · first | refine n_iinc (pc := 76) rfl [_, _, _, _, _, _, _] 1 (by decide) rfl rfl ?_ | refine q_iinc (pc := 76) [_, _, _, _, _, _, _] (1) rfl rfl (by decide) rfl ?_
                  refine q_goto (pc := 79) rfl ?_
                  refine c_nearL hd H hl hb hβ hk hw ha hq (c + 1) (by omega) _ ?_ _
                  first | exact nst_f1 (nfr_f h27) hz0 | exact nst_f1 (nfr_g g33) hz0 | exact nst_t (nfr_t h27 g33) hm (Or.inr (by omega)) h10 | exact nst_f2 hm (by omega) (by omega) hz0
                · refine q_iload (pc := 72) rfl rfl ?_
                  refine q_istore (pc := 74) [_, _, _, _, _, _, _] rfl (Nat.le_of_ble_eq_true rfl) rfl ?_
                  first | refine n_iinc (pc := 76) rfl [_, _, _, _, _, _, _] 1 (by decide) rfl rfl ?_ | refine q_iinc (pc := 76) [_, _, _, _, _, _, _] (1) rfl rfl (by decide) rfl ?_
                  refine q_goto (pc := 79) rfl ?_
                  refine c_nearL hd H hl hb hβ hk hw ha hq (c + 1) (by omega) _ ?_ _
                  first | exact nst_f1 (nfr_f h27) hz0 | exact nst_f1 (nfr_g g33) hz0 | exact nst_t (nfr_t h27 g33) hm (Or.inr (by omega)) h10 | exact nst_f2 hm (by omega) (by omega) hz0
        · refine q_ifne (pc := 36) rfl (fun z => absurd z (by decide)) (fun _ => ?_)
          refine q_iconst (pc := 39) rfl (nI 1) (by decide) ?_
          refine q_goto (pc := 40) rfl ?_
          refine q_istore (pc := 44) [_, _, _, _, _, _, _] rfl (Nat.le_of_ble_eq_true rfl) rfl ?_
          refine q_iload (pc := 46) rfl rfl ?_
          first | refine n_ifeq (pc := 48) rfl (by omega) (fun h48 => ?_) (fun h48 => ?_) | refine q_ifeq (pc := 48) rfl (fun h48 => ?_) (fun h48 => ?_)
          · first
            | (exfalso; omega)
            | skip
              first | refine n_iinc (pc := 76) rfl [_, _, _, _, _, _, _] 1 (by decide) rfl rfl ?_ | refine q_iinc (pc := 76) [_, _, _, _, _, _, _] (1) rfl rfl (by decide) rfl ?_
              refine q_goto (pc := 79) rfl ?_
              refine c_nearL hd H hl hb hβ hk hw ha hq (c + 1) (by omega) _ ?_ _
              first | exact nst_f1 (nfr_f h27) hz0 | exact nst_f1 (nfr_g g33) hz0 | exact nst_t (nfr_t h27 g33) hm (Or.inr (by omega)) h10 | exact nst_f2 hm (by omega) (by omega) hz0
          · first
            | (exfalso; omega)
            | skip
              refine q_iload (pc := 51) rfl rfl ?_
              refine q_iconst (pc := 53) rfl (-1) (by decide) ?_
              first | refine n_icmpeq (pc := 54) rfl (by omega) (by omega) (fun h54 => ?_) (fun h54 => ?_) | refine q_icmpeq (pc := 54) rfl (fun h54 => ?_) (fun h54 => ?_)
              · exact absurd h54 (nI_m1 (by omega))
              · refine q_iload_n (pc := 57) rfl rfl ?_
                refine q_iload (pc := 58) rfl rfl ?_
                refine q_callS (pc := 60) _ (by decide) rfl rfl rfl rfl (Nat.le_of_ble_eq_true rfl) (by omega) _ rfl ?_
                refine c_apart (by omega) (by omega) ?_
                refine q_iload_n (pc := 63) rfl rfl ?_
                refine q_iload (pc := 64) rfl rfl ?_
                refine q_callS (pc := 66) _ (by decide) rfl rfl rfl rfl (Nat.le_of_ble_eq_true rfl) (by omega) _ rfl ?_
                refine c_apart (by omega) (by omega) ?_
                first | refine n_icmpge (pc := 69) rfl (by omega) (by omega) (fun h69 => ?_) (fun h69 => ?_) | refine q_icmpge (pc := 69) rfl (fun h69 => ?_) (fun h69 => ?_)
                · first | refine n_iinc (pc := 76) rfl [_, _, _, _, _, _, _] 1 (by decide) rfl rfl ?_ | refine q_iinc (pc := 76) [_, _, _, _, _, _, _] (1) rfl rfl (by decide) rfl ?_
                  refine q_goto (pc := 79) rfl ?_
                  refine c_nearL hd H hl hb hβ hk hw ha hq (c + 1) (by omega) _ ?_ _
                  first | exact nst_f1 (nfr_f h27) hz0 | exact nst_f1 (nfr_g g33) hz0 | exact nst_t (nfr_t h27 g33) hm (Or.inr (by omega)) h10 | exact nst_f2 hm (by omega) (by omega) hz0
                · refine q_iload (pc := 72) rfl rfl ?_
                  refine q_istore (pc := 74) [_, _, _, _, _, _, _] rfl (Nat.le_of_ble_eq_true rfl) rfl ?_
                  first | refine n_iinc (pc := 76) rfl [_, _, _, _, _, _, _] 1 (by decide) rfl rfl ?_ | refine q_iinc (pc := 76) [_, _, _, _, _, _, _] (1) rfl rfl (by decide) rfl ?_
                  refine q_goto (pc := 79) rfl ?_
                  refine c_nearL hd H hl hb hβ hk hw ha hq (c + 1) (by omega) _ ?_ _
                  first | exact nst_f1 (nfr_f h27) hz0 | exact nst_f1 (nfr_g g33) hz0 | exact nst_t (nfr_t h27 g33) hm (Or.inr (by omega)) h10 | exact nst_f2 hm (by omega) (by omega) hz0
  · rw [q, oc, if_neg (by decide)] at hz
    subst hz
    refine q_iload (pc := 6) rfl rfl ?_
    refine q_bipush (pc := 8) rfl (nI 36) (by decide) ?_
    first | refine n_icmpge (pc := 10) rfl (by omega) (by omega) (fun h10 => ?_) (fun h10 => ?_) | refine q_icmpge (pc := 10) rfl (fun h10 => ?_) (fun h10 => ?_)
    · obtain rfl : c = 36 := by omega
      refine q_iload (pc := 82) rfl rfl ?_
      refine q_iret (pc := 84) rfl (rfl) ?_
      rw [q] at hq
      exact hq
    · have g1 := hk c (by omega)
      have g2 := hk (36 + c) (by omega)
      have a2 := apN_le ha h10
      refine q_aload_n (pc := 13) rfl rfl rfl ?_
      refine q_getf (pc := 14) rfl (by exact HR.B H hl hb hβ) rfl rfl ?_
      refine q_iload (pc := 17) rfl rfl ?_
      refine n_ild (pc := 19) rfl (by first | exact HR.am H hl hb hβ | exact HR.ap H hl hb hβ) rfl (by omega) (by omega) ?_
      refine q_aload_n (pc := 20) rfl rfl rfl ?_
      refine q_getf (pc := 21) rfl (by exact HR.B H hl hb hβ) rfl rfl ?_
      refine q_iload (pc := 24) rfl rfl ?_
      refine n_ild (pc := 26) rfl (by first | exact HR.am H hl hb hβ | exact HR.ap H hl hb hβ) rfl (by omega) (by omega) ?_
      first | refine n_icmpeq (pc := 27) rfl (by omega) (by omega) (fun h27 => ?_) (fun h27 => ?_) | refine q_icmpeq (pc := 27) rfl (fun h27 => ?_) (fun h27 => ?_)
      · refine q_iconst (pc := 43) rfl (nI 0) (by decide) ?_
        refine q_istore (pc := 44) [_, _, _, _, _, _, _] rfl (Nat.le_of_ble_eq_true rfl) rfl ?_
        refine q_iload (pc := 46) rfl rfl ?_
        first | refine n_ifeq (pc := 48) rfl (by omega) (fun h48 => ?_) (fun h48 => ?_) | refine q_ifeq (pc := 48) rfl (fun h48 => ?_) (fun h48 => ?_)
        · first
          | (exfalso; omega)
          | skip
            first | refine n_iinc (pc := 76) rfl [_, _, _, _, _, _, _] 1 (by decide) rfl rfl ?_ | refine q_iinc (pc := 76) [_, _, _, _, _, _, _] (1) rfl rfl (by decide) rfl ?_
            refine q_goto (pc := 79) rfl ?_
            refine c_nearL hd H hl hb hβ hk hw ha hq (c + 1) (by omega) _ ?_ _
            first | exact nst_f1 (nfr_f h27) hz0 | exact nst_f1 (nfr_g g33) hz0 | exact nst_t (nfr_t h27 g33) q (Or.inl rfl) h10
        · first
          | (exfalso; omega)
          | skip
            refine q_iload (pc := 51) rfl rfl ?_
            refine q_iconst (pc := 53) rfl (-1) (by decide) ?_
            first | refine n_icmpeq (pc := 54) rfl (by omega) (by omega) (fun h54 => ?_) (fun h54 => ?_) | refine q_icmpeq (pc := 54) rfl (fun h54 => ?_) (fun h54 => ?_)
            · refine q_iload (pc := 72) rfl rfl ?_
              refine q_istore (pc := 74) [_, _, _, _, _, _, _] rfl (Nat.le_of_ble_eq_true rfl) rfl ?_
              first | refine n_iinc (pc := 76) rfl [_, _, _, _, _, _, _] 1 (by decide) rfl rfl ?_ | refine q_iinc (pc := 76) [_, _, _, _, _, _, _] (1) rfl rfl (by decide) rfl ?_
              refine q_goto (pc := 79) rfl ?_
              refine c_nearL hd H hl hb hβ hk hw ha hq (c + 1) (by omega) _ ?_ _
              first | exact nst_f1 (nfr_f h27) hz0 | exact nst_f1 (nfr_g g33) hz0 | exact nst_t (nfr_t h27 g33) q (Or.inl rfl) h10
            · exact absurd rfl h54
      · refine q_lload_n (pc := 30) rfl rfl ?_
        refine q_iload (pc := 31) rfl rfl ?_
        refine q_callS (pc := 33) _ (by decide) rfl rfl rfl rfl (Nat.le_of_ble_eq_true rfl) (by omega) _ rfl ?_
        refine c_hasT (by omega) (by omega) (by assumption) (fun g33 => ?_) (fun g33 => ?_)
        · refine q_ifne (pc := 36) rfl (fun _ => ?_) (fun z => absurd z (by decide))
          refine q_iconst (pc := 43) rfl (nI 0) (by decide) ?_
          refine q_istore (pc := 44) [_, _, _, _, _, _, _] rfl (Nat.le_of_ble_eq_true rfl) rfl ?_
          refine q_iload (pc := 46) rfl rfl ?_
          first | refine n_ifeq (pc := 48) rfl (by omega) (fun h48 => ?_) (fun h48 => ?_) | refine q_ifeq (pc := 48) rfl (fun h48 => ?_) (fun h48 => ?_)
          · first
            | (exfalso; omega)
            | skip
              first | refine n_iinc (pc := 76) rfl [_, _, _, _, _, _, _] 1 (by decide) rfl rfl ?_ | refine q_iinc (pc := 76) [_, _, _, _, _, _, _] (1) rfl rfl (by decide) rfl ?_
              refine q_goto (pc := 79) rfl ?_
              refine c_nearL hd H hl hb hβ hk hw ha hq (c + 1) (by omega) _ ?_ _
              first | exact nst_f1 (nfr_f h27) hz0 | exact nst_f1 (nfr_g g33) hz0 | exact nst_t (nfr_t h27 g33) q (Or.inl rfl) h10
          · first
            | (exfalso; omega)
            | skip
              refine q_iload (pc := 51) rfl rfl ?_
              refine q_iconst (pc := 53) rfl (-1) (by decide) ?_
              first | refine n_icmpeq (pc := 54) rfl (by omega) (by omega) (fun h54 => ?_) (fun h54 => ?_) | refine q_icmpeq (pc := 54) rfl (fun h54 => ?_) (fun h54 => ?_)
              · refine q_iload (pc := 72) rfl rfl ?_
                refine q_istore (pc := 74) [_, _, _, _, _, _, _] rfl (Nat.le_of_ble_eq_true rfl) rfl ?_
                first | refine n_iinc (pc := 76) rfl [_, _, _, _, _, _, _] 1 (by decide) rfl rfl ?_ | refine q_iinc (pc := 76) [_, _, _, _, _, _, _] (1) rfl rfl (by decide) rfl ?_
                refine q_goto (pc := 79) rfl ?_
                refine c_nearL hd H hl hb hβ hk hw ha hq (c + 1) (by omega) _ ?_ _
                first | exact nst_f1 (nfr_f h27) hz0 | exact nst_f1 (nfr_g g33) hz0 | exact nst_t (nfr_t h27 g33) q (Or.inl rfl) h10
              · exact absurd rfl h54
        · refine q_ifne (pc := 36) rfl (fun z => absurd z (by decide)) (fun _ => ?_)
          refine q_iconst (pc := 39) rfl (nI 1) (by decide) ?_
          refine q_goto (pc := 40) rfl ?_
          refine q_istore (pc := 44) [_, _, _, _, _, _, _] rfl (Nat.le_of_ble_eq_true rfl) rfl ?_
          refine q_iload (pc := 46) rfl rfl ?_
          first | refine n_ifeq (pc := 48) rfl (by omega) (fun h48 => ?_) (fun h48 => ?_) | refine q_ifeq (pc := 48) rfl (fun h48 => ?_) (fun h48 => ?_)
          · first
            | (exfalso; omega)
            | skip
              first | refine n_iinc (pc := 76) rfl [_, _, _, _, _, _, _] 1 (by decide) rfl rfl ?_ | refine q_iinc (pc := 76) [_, _, _, _, _, _, _] (1) rfl rfl (by decide) rfl ?_
              refine q_goto (pc := 79) rfl ?_
              refine c_nearL hd H hl hb hβ hk hw ha hq (c + 1) (by omega) _ ?_ _
              first | exact nst_f1 (nfr_f h27) hz0 | exact nst_f1 (nfr_g g33) hz0 | exact nst_t (nfr_t h27 g33) q (Or.inl rfl) h10
          · first
            | (exfalso; omega)
            | skip
              refine q_iload (pc := 51) rfl rfl ?_
              refine q_iconst (pc := 53) rfl (-1) (by decide) ?_
              first | refine n_icmpeq (pc := 54) rfl (by omega) (by omega) (fun h54 => ?_) (fun h54 => ?_) | refine q_icmpeq (pc := 54) rfl (fun h54 => ?_) (fun h54 => ?_)
              · refine q_iload (pc := 72) rfl rfl ?_
                refine q_istore (pc := 74) [_, _, _, _, _, _, _] rfl (Nat.le_of_ble_eq_true rfl) rfl ?_
                first | refine n_iinc (pc := 76) rfl [_, _, _, _, _, _, _] 1 (by decide) rfl rfl ?_ | refine q_iinc (pc := 76) [_, _, _, _, _, _, _] (1) rfl rfl (by decide) rfl ?_
                refine q_goto (pc := 79) rfl ?_
                refine c_nearL hd H hl hb hβ hk hw ha hq (c + 1) (by omega) _ ?_ _
                first | exact nst_f1 (nfr_f h27) hz0 | exact nst_f1 (nfr_g g33) hz0 | exact nst_t (nfr_t h27 g33) q (Or.inl rfl) h10
              · exact absurd rfl h54
termination_by 36 - c
theorem c_nearest {w at0 : Nat} (hd : 2 ≤ d) (H : HR P h s) (hl : 51 ≤ P.1) (hb : isB b) (hβ : BT s b β) (hk : ∀ i, i < 72 → β i ≤ 9) (hw : w < 2 ^ 36) (ha : at0 < 36) (hq : Q (some (.int (oc (nst (nfr β w) (apN at0) 36)))) h) : wc d 10 [.ref b, .int (nI at0), .long (lN w)] h Q := by
  refine wc.go [_, _, _, _, _, _, _] rfl ?_
  refine q_iconst (pc := 0) rfl (-1) (by decide) ?_
  refine q_istore (pc := 1) [_, _, _, _, _, _, _] rfl (Nat.le_of_ble_eq_true rfl) rfl ?_
  refine q_iconst (pc := 3) rfl (nI 0) (by decide) ?_
  refine q_istore (pc := 4) [_, _, _, _, _, _, _] rfl (Nat.le_of_ble_eq_true rfl) rfl ?_
  exact c_nearL hd H hl hb hβ hk hw ha hq 0 (by omega) _ rfl _
theorem c_join (H : HR P h s) (hl : 51 ≤ P.1) (hb : isB b) (hβ : BT s b β) (hk : bok β n) {kind num on : Nat} (ht : β 88 < 4 → ∀ h' s', HR P h' s' → BT s' b (joinb β kind num on) → sf s s' (fun i => b ≤ i ∧ i < b + 8) → Q (some (.int (nI (β 88)))) h') (hf : β 88 = 4 → Q (some (.int (-4))) h) : wc d 3 [.ref b, .int (nI kind), .int (nI num), .int (nI on)] h Q := by
  obtain ⟨-, -, hk4, -⟩ := hk
  refine wc.go [_, _, _, _, _] rfl ?_
  refine q_aload_n (pc := 0) rfl rfl rfl ?_
  refine q_getf (pc := 1) rfl (by exact HR.B H hl hb hβ) rfl rfl ?_
  refine q_iflt (pc := 4) rfl (fun h4 => ?_) (fun h4 => ?_)
  · first | (exfalso; omega) | exact absurd h4 (nI_pos (by omega)) | exact absurd (nI_pos' (by omega)) h4
  · refine q_aload_n (pc := 7) rfl rfl rfl ?_
    refine q_getf (pc := 8) rfl (by exact HR.B H hl hb hβ) rfl rfl ?_
    refine q_iconst (pc := 11) rfl (nI 4) (by decide) ?_
    first | refine n_icmpge (pc := 12) rfl (by omega) (by omega) (fun h12 => ?_) (fun h12 => ?_) | refine q_icmpge (pc := 12) rfl (fun h12 => ?_) (fun h12 => ?_)
    · 
      refine q_bipush (pc := 27) rfl (-4) (by decide) ?_
      refine q_iret (pc := 29) rfl (rfl) ?_
      exact hf (by omega)
    · have hp : β 88 < 4 := by omega
      refine q_aload_n (pc := 15) rfl rfl rfl ?_
      refine q_getf (pc := 16) rfl (by exact HR.B H hl hb hβ) rfl rfl ?_
      refine q_aload_n (pc := 19) rfl rfl rfl ?_
      refine q_getf (pc := 20) rfl (by exact HR.B H hl hb hβ) rfl rfl ?_
      refine n_aal (pc := 23) rfl H hl (okB3 hb) (ecB3 hb _) rfl (by omega) (if_pos (by omega)) (by decide) ?_
      refine q_ifnonnull (pc := 24) rfl ?_
      refine q_aload_n (pc := 30) rfl rfl rfl ?_
      refine q_getf (pc := 31) rfl (by exact HR.B H hl hb hβ) rfl rfl ?_
      refine q_aload_n (pc := 34) rfl rfl rfl ?_
      refine q_getf (pc := 35) rfl (by exact HR.B H hl hb hβ) rfl rfl ?_
      refine n_aal (pc := 38) rfl H hl (okB3 hb) (ecB3 hb _) rfl (by omega) (if_pos (by omega)) (by decide) ?_
      refine q_astore (pc := 39) [_, _, _, _, _] rfl rfl (Nat.le_of_ble_eq_true rfl) rfl ?_
      refine q_aload (pc := 41) rfl rfl rfl ?_
      refine q_iload_n (pc := 43) rfl rfl ?_
      refine r_pf2 (pc := 44) (i := 0) rfl H hl (okO hb hp) (ecO hb hp _) rfl rfl (Nat.le_of_ble_eq_true rfl) rfl (ecO hb hp _) ?_
      intro h H
      have hβ := BT.pt (v := kind) (c := b + 4 + β 88) (i := 0) hβ (Or.inr (Or.inr (Or.inl ⟨_, hp, rfl, by decide, rfl⟩)))
      refine q_aload (pc := 47) rfl rfl rfl ?_
      refine q_iload_n (pc := 49) rfl rfl ?_
      refine r_pf2 (pc := 50) (i := 1) rfl H hl (okO hb hp) (ecO hb hp _) rfl rfl (Nat.le_of_ble_eq_true rfl) rfl (ecO hb hp _) ?_
      intro h H
      have hβ := BT.pt (v := num) (c := b + 4 + β 88) (i := 1) hβ (Or.inr (Or.inr (Or.inl ⟨_, hp, rfl, by decide, rfl⟩)))
      refine q_aload (pc := 53) rfl rfl rfl ?_
      refine q_iload_n (pc := 55) rfl rfl ?_
      refine r_pf2 (pc := 56) (i := 2) rfl H hl (okO hb hp) (ecO hb hp _) rfl rfl (Nat.le_of_ble_eq_true rfl) rfl (ecO hb hp _) ?_
      intro h H
      have hβ := BT.pt (v := on) (c := b + 4 + β 88) (i := 2) hβ (Or.inr (Or.inr (Or.inl ⟨_, hp, rfl, by decide, rfl⟩)))
      refine q_aload (pc := 59) rfl rfl rfl ?_
      refine q_iconst (pc := 61) rfl (nI 0) (by decide) ?_
      refine r_pf2 (pc := 62) (i := 3) rfl H hl (okO hb hp) (ecO hb hp _) rfl rfl (Nat.le_of_ble_eq_true rfl) rfl (ecO hb hp _) ?_
      intro h H
      have hβ := BT.pt (v := 0) (c := b + 4 + β 88) (i := 3) hβ (Or.inr (Or.inr (Or.inl ⟨_, hp, rfl, by decide, rfl⟩)))
      refine q_aload_n (pc := 65) rfl rfl rfl ?_
      refine q_dup (pc := 66) rfl rfl ?_
      refine q_getf (pc := 67) rfl (by exact HR.B H hl hb hβ) rfl rfl ?_
      rw [upN_n (by omega), upN_n (by omega), upN_n (by omega), upN_n (by omega)]
      refine q_iconst (pc := 70) rfl (nI 1) (by decide) ?_
      first | refine n_iadd (pc := 71) rfl ?_ | refine q_iadd (pc := 71) rfl ?_
      refine r_pf2 (pc := 72) (i := 3) rfl H hl (okB hb) (ecB hb _) rfl rfl (Nat.le_of_ble_eq_true rfl) rfl (ecB hb _) ?_
      intro h H
      have hβ := BT.pt (v := β 88 + 1) (c := b) (i := 3) (j := 88) hβ (Or.inr (Or.inr (Or.inr ⟨rfl, by decide, by decide, rfl⟩)))
      refine q_aload_n (pc := 75) rfl rfl rfl ?_
      refine q_getf (pc := 76) rfl (by exact HR.B H hl hb hβ) rfl rfl ?_
      rw [upN_s]
      refine q_iconst (pc := 79) rfl (nI 1) (by decide) ?_
      first | refine n_isub (pc := 80) rfl (by omega) ?_ | refine q_isub (pc := 80) rfl ?_
      rw [Nat.add_sub_cancel]
      refine q_iret (pc := 81) rfl (rfl) ?_
      exact ht hp _ _ H hβ (((((sf.rf.st (by omega)).st (by omega)).st (by omega)).st (by omega)).st (by omega))
theorem c_oneBecome (hl : 51 ≤ P.1) (H : HR P h s) (hb : isB b) (hb2 : isB b2) (hn : b ≠ b2) (hβ : BT s b2 β) (hp : p < 4) (kk : ∀ h' s', HR P h' s' → (∀ j, j < 4 → s' (b + 4 + p) j = nI (β (72 + 4 * p + j))) → sf s s' (fun i => i = b + 4 + p) → Q none h') : wc d 15 [.ref (b + 4 + p), .ref (b2 + 4 + p)] h Q := by
  have hn2 := isB_ne hb hb2 hn
  have fr1 : ∀ {s1 : mx_St} {j : Nat} {v : Int32}, BT s1 b2 β → BT (stv s1 (b + 4 + p) j v) b2 β := fun g => BT.fr (S := fun i => i = b + 4 + p) g (sf.rf.st rfl) (fun i g1 g2 => by omega)
  refine wc.go [_, _] rfl ?_
  refine q_aload_n (pc := 0) rfl rfl rfl ?_
  refine q_aload_n (pc := 1) rfl rfl rfl ?_
  refine q_getf (pc := 2) rfl (by exact HR.O H hl hb2 hβ hp) rfl rfl ?_
  refine r_pf2 (pc := 5) (i := 0) rfl H hl (okO hb hp) (ecO hb hp _) rfl rfl (Nat.le_of_ble_eq_true rfl) rfl (ecO hb hp _) ?_
  intro h H
  have hβ := fr1 (j := 0) (v := nI (β (72 + 4 * p))) hβ
  refine q_aload_n (pc := 8) rfl rfl rfl ?_
  refine q_aload_n (pc := 9) rfl rfl rfl ?_
  refine q_getf (pc := 10) rfl (by exact HR.O H hl hb2 hβ hp) rfl rfl ?_
  refine r_pf2 (pc := 13) (i := 1) rfl H hl (okO hb hp) (ecO hb hp _) rfl rfl (Nat.le_of_ble_eq_true rfl) rfl (ecO hb hp _) ?_
  intro h H
  have hβ := fr1 (j := 1) (v := nI (β (72 + 4 * p + 1))) hβ
  refine q_aload_n (pc := 16) rfl rfl rfl ?_
  refine q_aload_n (pc := 17) rfl rfl rfl ?_
  refine q_getf (pc := 18) rfl (by exact HR.O H hl hb2 hβ hp) rfl rfl ?_
  refine r_pf2 (pc := 21) (i := 2) rfl H hl (okO hb hp) (ecO hb hp _) rfl rfl (Nat.le_of_ble_eq_true rfl) rfl (ecO hb hp _) ?_
  intro h H
  have hβ := fr1 (j := 2) (v := nI (β (72 + 4 * p + 2))) hβ
  refine q_aload_n (pc := 24) rfl rfl rfl ?_
  refine q_aload_n (pc := 25) rfl rfl rfl ?_
  refine q_getf (pc := 26) rfl (by exact HR.O H hl hb2 hβ hp) rfl rfl ?_
  refine r_pf2 (pc := 29) (i := 3) rfl H hl (okO hb hp) (ecO hb hp _) rfl rfl (Nat.le_of_ble_eq_true rfl) rfl (ecO hb hp _) ?_
  intro h H
  refine q_vret (pc := 32) rfl rfl ?_
  refine kk _ _ H (fun j hj => ?_) ((((sf.rf.st (by rfl)).st (by rfl)).st (by rfl)).st (by rfl))
  rcases p4 hj with rfl | rfl | rfl | rfl
  · rw [stv_o (by decide), stv_o (by decide), stv_o (by decide), stv_a]; rfl
  · rw [stv_o (by decide), stv_o (by decide), stv_a]
  · rw [stv_o (by decide), stv_a]
  · rw [stv_a]
theorem c_becomeL (hd : 1 ≤ d) (hl : 51 ≤ P.1) (hb : isB b) (hb2 : isB b2) (hn : b ≠ b2) {s0 : mx_St} (kk : ∀ h' s', HR P h' s' → BT s' b β → sf s0 s' (fun i => b ≤ i ∧ i < b + 8) → Q none h') (i : Nat) (hi : i ≤ 4) (h : mx_H) (s : mx_St) (H : HR P h s) (hβ : BT s b2 β) (hf : sf s0 s (fun i => b ≤ i ∧ i < b + 8)) (hi2 : BTi s b β i) : wq d 1 32 [some (.ref b), some (.ref b2), some (.int (nI i))] [] h Q := by
  have hn2 := isB_ne hb hb2 hn
  refine q_iload_n (pc := 32) rfl rfl ?_
  refine q_iconst (pc := 33) rfl (nI 4) (by decide) ?_
  first | refine n_icmpge (pc := 34) rfl (by omega) (by omega) (fun h34 => ?_) (fun h34 => ?_) | refine q_icmpge (pc := 34) rfl (fun h34 => ?_) (fun h34 => ?_)
  · refine q_aload_n (pc := 76) rfl rfl rfl ?_
    refine q_aload_n (pc := 77) rfl rfl rfl ?_
    refine q_getf (pc := 78) rfl (by first | exact HR.B' H hl hb | exact HR.B H hl hb2 hβ) rfl rfl ?_
    refine r_pf2 (pc := 81) (i := 3) rfl H hl (okB hb) (ecB hb _) rfl rfl (Nat.le_of_ble_eq_true rfl) rfl (ecB hb _) ?_
    intro h H
    have hβ := BT.fr (S := fun i => b ≤ i ∧ i < b + 8) (b := b2) (s' := stv s b 3 (nI (β 88))) hβ (sf.rf.st (by omega)) (fun i g1 g2 => by omega)
    refine q_aload_n (pc := 84) rfl rfl rfl ?_
    refine q_aload_n (pc := 85) rfl rfl rfl ?_
    refine q_getf (pc := 86) rfl (by first | exact HR.B' H hl hb | exact HR.B H hl hb2 hβ) rfl rfl ?_
    refine r_pf2 (pc := 89) (i := 4) rfl H hl (okB hb) (ecB hb _) rfl rfl (Nat.le_of_ble_eq_true rfl) rfl (ecB hb _) ?_
    intro h H
    have hβ := BT.fr (S := fun i => b ≤ i ∧ i < b + 8) (b := b2) (s' := stv (stv s b 3 (nI (β 88))) b 4 (nI (β 89))) hβ (sf.rf.st (by omega)) (fun i g1 g2 => by omega)
    refine q_aload_n (pc := 92) rfl rfl rfl ?_
    refine q_aload_n (pc := 93) rfl rfl rfl ?_
    refine q_getf (pc := 94) rfl (by first | exact HR.B' H hl hb | exact HR.B H hl hb2 hβ) rfl rfl ?_
    refine r_pf2 (pc := 97) (i := 5) rfl H hl (okB hb) (ecB hb _) rfl rfl (Nat.le_of_ble_eq_true rfl) rfl (ecB hb _) ?_
    intro h H
    refine q_vret (pc := 100) rfl rfl ?_
    obtain rfl : i = 4 := by omega
    refine kk _ _ H ⟨fun j hj => ?_, fun j hj => ?_, fun q hq j hj => ?_, ?_, ?_, ?_⟩ (((hf.st (by omega)).st (by omega)).st (by omega))
    · rw [stv_n (by omega), stv_n (by omega), stv_n (by omega)]; exact hi2.1 j hj
    · rw [stv_n (by omega), stv_n (by omega), stv_n (by omega)]; exact hi2.2.1 j hj
    · rw [stv_n (by omega), stv_n (by omega), stv_n (by omega)]; exact hi2.2.2 q hq j hj
    · rw [stv_o (by decide), stv_o (by decide), stv_a]
    · rw [stv_o (by decide), stv_a]
    · rw [stv_a]
  · refine q_aload_n (pc := 37) rfl rfl rfl ?_
    refine q_getf (pc := 38) rfl (by first | exact HR.B' H hl hb | exact HR.B H hl hb2 hβ) rfl rfl ?_
    refine q_iload_n (pc := 41) rfl rfl ?_
    refine n_aal (pc := 42) rfl H hl (okB3 hb) (ecB3 hb _) rfl (by omega) (if_pos (by omega)) (by decide) ?_
    refine q_ifnull (pc := 43) rfl ?_
    refine q_aload_n (pc := 46) rfl rfl rfl ?_
    refine q_getf (pc := 47) rfl (by first | exact HR.B' H hl hb | exact HR.B H hl hb2 hβ) rfl rfl ?_
    refine q_iload_n (pc := 50) rfl rfl ?_
    refine n_aal (pc := 51) rfl H hl (okB3 hb2) (ecB3 hb2 _) rfl (by omega) (if_pos (by omega)) (by decide) ?_
    refine q_ifnull (pc := 52) rfl ?_
    refine q_aload_n (pc := 55) rfl rfl rfl ?_
    refine q_getf (pc := 56) rfl (by first | exact HR.B' H hl hb | exact HR.B H hl hb2 hβ) rfl rfl ?_
    refine q_iload_n (pc := 59) rfl rfl ?_
    refine n_aal (pc := 60) rfl H hl (okB3 hb) (ecB3 hb _) rfl (by omega) (if_pos (by omega)) (by decide) ?_
    refine q_aload_n (pc := 61) rfl rfl rfl ?_
    refine q_getf (pc := 62) rfl (by first | exact HR.B' H hl hb | exact HR.B H hl hb2 hβ) rfl rfl ?_
    refine q_iload_n (pc := 65) rfl rfl ?_
    refine n_aal (pc := 66) rfl H hl (okB3 hb2) (ecB3 hb2 _) rfl (by omega) (if_pos (by omega)) (by decide) ?_
    refine q_callV (pc := 67) _ rfl rfl rfl (by exact HR.O' H hl hb h34) rfl (Nat.le_of_ble_eq_true rfl) (by omega) _ rfl ?_
    refine c_oneBecome hl H hb hb2 hn hβ h34 ?_
    intro h s1 H k1 k2
    first | refine n_iinc (pc := 70) rfl [_, _, _] 1 (by decide) rfl rfl ?_ | refine q_iinc (pc := 70) [_, _, _] (1) rfl rfl (by decide) rfl ?_
    refine q_goto (pc := 73) rfl ?_
    exact c_becomeL hd hl hb hb2 hn kk (i + 1) (by omega) h s1 H (hβ.fr k2 (fun i g1 g2 => by omega)) (hf.tr (k2.mono (fun i g => by omega))) ⟨fun j hj => (congrFun (k2 _ (by omega)) _).trans (hi2.1 j hj), fun j hj => (congrFun (k2 _ (by omega)) _).trans (hi2.2.1 j hj), fun q hq j hj => by
      by_cases e : q = i
      · subst e; exact k1 j hj
      · exact (congrFun (k2 _ (by omega)) _).trans (hi2.2.2 q (by omega) j hj)⟩
termination_by 4 - i
theorem c_become (hd : 2 ≤ d) (hl : 51 ≤ P.1) (H : HR P h s) (hb : isB b) (hb2 : isB b2) (hn : b ≠ b2) (hβ : BT s b2 β) (kk : ∀ h' s', HR P h' s' → BT s' b β → sf s s' (fun i => b ≤ i ∧ i < b + 8) → Q none h') : wc d 1 [.ref b, .ref b2] h Q := by
  have hn2 := isB_ne hb hb2 hn
  have stn : ∀ {s1 : mx_St} {c : Nat} {F : Nat → Int32}, b ≤ c → c < b + 8 → sf s1 (stF s1 c F) (fun i => b ≤ i ∧ i < b + 8) := fun g1 g2 i hi => stF_n _ _ (by omega)
  refine wc.go [_, _, _] rfl ?_
  refine q_aload_n (pc := 0) rfl rfl rfl ?_
  refine q_getf (pc := 1) rfl (by first | exact HR.B' H hl hb | exact HR.B' H hl hb2) rfl rfl ?_
  refine q_iconst (pc := 4) rfl (nI 0) (by decide) ?_
  refine q_aload_n (pc := 5) rfl rfl rfl ?_
  refine q_getf (pc := 6) rfl (by first | exact HR.B' H hl hb | exact HR.B' H hl hb2) rfl rfl ?_
  refine q_iconst (pc := 9) rfl (nI 0) (by decide) ?_
  refine q_bipush (pc := 10) rfl (nI 36) (by decide) ?_
  refine n_copy (pc := 12) rfl H hl (okB1 hb2) (okB1 hb) (ecB1 hb2 _) (ecB1 hb) rfl (by omega) (by omega) ?_
  intro h H
  have hβ1 := BT.fr (b := b2) hβ (stn (s1 := s) (c := b + 1) (F := va_cpy (s (b2 + 1)) (s (b + 1)) 0 0 36) (by omega) (by omega)) (fun i g1 g2 => by omega)
  refine q_aload_n (pc := 15) rfl rfl rfl ?_
  refine q_getf (pc := 16) rfl (by first | exact HR.B' H hl hb | exact HR.B' H hl hb2) rfl rfl ?_
  refine q_iconst (pc := 19) rfl (nI 0) (by decide) ?_
  refine q_aload_n (pc := 20) rfl rfl rfl ?_
  refine q_getf (pc := 21) rfl (by first | exact HR.B' H hl hb | exact HR.B' H hl hb2) rfl rfl ?_
  refine q_iconst (pc := 24) rfl (nI 0) (by decide) ?_
  refine q_bipush (pc := 25) rfl (nI 36) (by decide) ?_
  refine n_copy (pc := 27) rfl H hl (okB2 hb2) (okB2 hb) (ecB2 hb2 _) (ecB2 hb) rfl (by omega) (by omega) ?_
  intro h H
  refine q_iconst (pc := 30) rfl (nI 0) (by decide) ?_
  refine q_istore_n (pc := 31) [_, _, _] rfl (Nat.le_of_ble_eq_true rfl) rfl ?_
  refine c_becomeL (by omega) hl hb hb2 hn kk 0 (by omega) _ _ H (BT.fr (b := b2) hβ1 (stn (by omega) (by omega)) (fun i g1 g2 => by omega)) (sf.tr (stn (by omega) (by omega)) (stn (by omega) (by omega))) ⟨fun j hj => ?_, fun j hj => ?_, fun q hq => by omega⟩
  · rw [stF_n _ _ (by omega), stF_s, pk_cpy_in (by omega) (by omega)]
    exact (congrArg _ (by omega)).trans (hβ.1 j hj)
  · rw [stF_s, pk_cpy_in (by omega) (by omega), stF_n _ _ (by omega)]
    exact (congrArg _ (by omega)).trans (hβ.2.1 j hj)
end P21
