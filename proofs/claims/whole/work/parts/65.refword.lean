/-! ===== the reference: words, signs, what waits ===== -/
section P65
variable {d k pc a i j c p b t n m part q : Nat} {v : Int} {L L' : mx_L} {st r : List Value} {P : mx_Pm} {h : mx_H} {s : mx_St} {Q : Option Value → mx_H → Prop} {x y w z u : Int32} {β κ : Nat → Nat} {C : Nat → Nat → Int32} {E : Nat → Nat → Nat} {ik tz : Nat} {tp : Nat → Nat} {σ : Nat → Int32} {sz : Nat → Nat} {cl : Nat → Nat → Int32}
theorem n_cld (hc : mx_tb k pc = some (.caload, a, v)) (H : HR P h s) (hl : 75 ≤ P.1) (hi : i < 72) (kk : wq d k (pc + 1) L (.int (s 61 i) :: r) h Q) : wq d k pc L (.int (nI i) :: .ref 61 :: r) h Q := by
  have hh : h.2.2 61 = .inl (2, 72, .inl (s 61)) := HR.c H hl _ rfl
  refine q_caload hc hh (x_vin hi (by decide)) ?_
  rw [x_cl (by omega)]
  exact kk
def tbN (tp : Nat → Nat) (w j : Nat) : Int32 := if j < w then nI (tp j) else nI 0
def eqW (tp : Nat → Nat) (u w k : Nat) : Prop := ∀ j, j < 6 → wMb k j = tbN tp w (u + j)
def bwf (f : Nat → Prop) (g : ∀ k, Decidable (f k)) : Nat → Int32
  | 0 => -1
  | k + 1 => @ite _ (f k) (g k) (nI k) (bwf f g k)
theorem m_wordX {a1 a2 a4 : Int32} (kk : wq d 150 109 [some (.ref 54), some (.int a1), some (.int a2), some (.int (nI 0)), some (.int a4)] [] h Q) : wq d 150 41 [some (.ref 54), some (.int a1), some (.int a2), some (.int (nI 0)), some (.int a4)] [] h Q := by
  refine q_iload_n (pc := 41) rfl rfl ?_
  first | refine n_ifeq (pc := 42) rfl (by omega) (fun h42 => ?_) (fun h42 => ?_) | refine q_ifeq (pc := 42) rfl (fun h42 => ?_) (fun h42 => ?_)
  · exact kk
  · first | (exfalso; omega) | exact absurd h42 (nI_pos (by omega)) | exact absurd (nI_pos' (by omega)) h42
theorem m_wordY {a1 : Int32} {z4 : Option Value} (kk : wq d 150 4 [some (.ref 54), some (.int (nI k)), some (.int (nI (k + 1))), some (.int (nI 1)), z4] [] h Q) : wq d 150 109 [some (.ref 54), some (.int a1), some (.int (nI k)), some (.int (nI 1)), z4] [] h Q := by
  refine q_iload_n (pc := 109) rfl rfl ?_
  first | refine n_ifeq (pc := 110) rfl (by omega) (fun h110 => ?_) (fun h110 => ?_) | refine q_ifeq (pc := 110) rfl (fun h110 => ?_) (fun h110 => ?_)
  · first | (exfalso; omega) | exact absurd h110 (nI_pos (by omega)) | exact absurd (nI_pos' (by omega)) h110
  · refine q_iload_n (pc := 113) rfl rfl ?_
    refine q_goto (pc := 114) rfl ?_
    refine q_istore_n (pc := 118) [_, _, _, _, _] rfl (Nat.le_of_ble_eq_true rfl) rfl ?_
    first | refine n_iinc (pc := 119) rfl [_, _, _, _, _] 1 (by decide) rfl rfl ?_ | refine q_iinc (pc := 119) [_, _, _, _, _] (1) rfl rfl (by decide) rfl ?_
    refine q_goto (pc := 122) rfl ?_
    exact kk
theorem m_wordZ {a1 : Int32} {z4 : Option Value} (kk : wq d 150 4 [some (.ref 54), some (.int a1), some (.int (nI (k + 1))), some (.int (nI 0)), z4] [] h Q) : wq d 150 109 [some (.ref 54), some (.int a1), some (.int (nI k)), some (.int (nI 0)), z4] [] h Q := by
  refine q_iload_n (pc := 109) rfl rfl ?_
  first | refine n_ifeq (pc := 110) rfl (by omega) (fun h110 => ?_) (fun h110 => ?_) | refine q_ifeq (pc := 110) rfl (fun h110 => ?_) (fun h110 => ?_)
  · refine q_iload_n (pc := 117) rfl rfl ?_
    refine q_istore_n (pc := 118) [_, _, _, _, _] rfl (Nat.le_of_ble_eq_true rfl) rfl ?_
    first | refine n_iinc (pc := 119) rfl [_, _, _, _, _] 1 (by decide) rfl rfl ?_ | refine q_iinc (pc := 119) [_, _, _, _, _] (1) rfl rfl (by decide) rfl ?_
    refine q_goto (pc := 122) rfl ?_
    exact kk
  · first | (exfalso; omega) | exact absurd h110 (nI_pos (by omega)) | exact absurd (nI_pos' (by omega)) h110
theorem m_wordI {u w : Nat} {a1 : Int32} (hl : 75 ≤ P.1) (hx : TX s n tp tz) (H : HR P h s) (e6 : s 54 6 = nI w) (e7 : s 54 7 = nI u) (hw : w ≤ tz) (hu : u ≤ tz) (hk : k < 12) (k1 : eqW tp u w k → ∀ z4, wq d 150 109 [some (.ref 54), some (.int a1), some (.int (nI k)), some (.int (nI 1)), z4] [] h Q) (k2 : ¬ eqW tp u w k → ∀ z4, wq d 150 109 [some (.ref 54), some (.int a1), some (.int (nI k)), some (.int (nI 0)), z4] [] h Q) (m i : Nat) (hi : i + m = 6) (hj : ∀ j, j < i → wMb k j = tbN tp w (u + j)) : wq d 150 41 [some (.ref 54), some (.int a1), some (.int (nI k)), some (.int (nI 1)), some (.int (nI i))] [] h Q := by
  obtain ⟨x1, x2, ⟨x3, x4⟩, x5, x6⟩ := hx
  match m, hi with
  | 0, hi =>
    obtain rfl : i = 6 := by omega
    refine q_iload_n (pc := 41) rfl rfl ?_
    first | refine n_ifeq (pc := 42) rfl (by omega) (fun h42 => ?_) (fun h42 => ?_) | refine q_ifeq (pc := 42) rfl (fun h42 => ?_) (fun h42 => ?_)
    · first | (exfalso; omega) | exact absurd h42 (nI_pos (by omega)) | exact absurd (nI_pos' (by omega)) h42
    · refine q_iload (pc := 45) rfl rfl ?_
      refine q_bipush (pc := 47) rfl (nI 6) (by decide) ?_
      first | refine n_icmpge (pc := 49) rfl (by omega) (by omega) (fun h49 => ?_) (fun h49 => ?_) | refine q_icmpge (pc := 49) rfl (fun h49 => ?_) (fun h49 => ?_)
      · exact k1 hj _
      · first | (exfalso; omega) | exact absurd h49 (nI_pos (by omega)) | exact absurd (nI_pos' (by omega)) h49
  | m + 1, hi =>
    have xn := x5 k hk i (by omega)
    refine q_iload_n (pc := 41) rfl rfl ?_
    first | refine n_ifeq (pc := 42) rfl (by omega) (fun h42 => ?_) (fun h42 => ?_) | refine q_ifeq (pc := 42) rfl (fun h42 => ?_) (fun h42 => ?_)
    · first | (exfalso; omega) | exact absurd h42 (nI_pos (by omega)) | exact absurd (nI_pos' (by omega)) h42
    · refine q_iload (pc := 45) rfl rfl ?_
      refine q_bipush (pc := 47) rfl (nI 6) (by decide) ?_
      first | refine n_icmpge (pc := 49) rfl (by omega) (by omega) (fun h49 => ?_) (fun h49 => ?_) | refine q_icmpge (pc := 49) rfl (fun h49 => ?_) (fun h49 => ?_)
      · first | (exfalso; omega) | exact absurd h49 (nI_pos (by omega)) | exact absurd (nI_pos' (by omega)) h49
      · refine q_aload_n (pc := 52) rfl rfl rfl ?_
        refine q_getf (pc := 53) rfl (by exact HR.c H hl _ rfl) rfl rfl ?_
        refine q_bipush (pc := 56) rfl (nI 6) (by decide) ?_
        refine q_iload_n (pc := 58) rfl rfl ?_
        first | refine n_imul (pc := 59) rfl ?_ | refine q_imul (pc := 59) rfl ?_
        refine q_iload (pc := 60) rfl rfl ?_
        first | refine n_iadd (pc := 62) rfl ?_ | refine q_iadd (pc := 62) rfl ?_
        refine n_cld (pc := 63) rfl H hl (by omega) ?_
        rw [xn]
        refine q_aload_n (pc := 64) rfl rfl rfl ?_
        refine q_getf (pc := 65) rfl (by exact HR.c H hl _ rfl) rfl rfl ?_
        rw [e7]
        refine q_iload (pc := 68) rfl rfl ?_
        first | refine n_iadd (pc := 70) rfl ?_ | refine q_iadd (pc := 70) rfl ?_
        refine q_aload_n (pc := 71) rfl rfl rfl ?_
        refine q_getf (pc := 72) rfl (by exact HR.c H hl _ rfl) rfl rfl ?_
        rw [e6]
        first | refine n_icmpge (pc := 75) rfl (by omega) (by omega) (fun h75 => ?_) (fun h75 => ?_) | refine q_icmpge (pc := 75) rfl (fun h75 => ?_) (fun h75 => ?_)
        · have q75 : tbN tp w (u + i) = nI 0 := if_neg (by omega)
          first
          | (exfalso; omega (config := {splitDisjunctions := false}))
          | skip
            refine q_iconst (pc := 93) rfl (nI 0) (by decide) ?_
            refine q_icmpne (pc := 94) rfl (fun h94 => ?_) (fun h94 => ?_)
            · have q94 : ¬ wMb k i = tbN tp w (u + i) := by
                rw [q75]
                exact h94
              first
              | (exfalso; omega (config := {splitDisjunctions := false}))
              | exact absurd rfl h94
              | skip
                refine q_iconst (pc := 101) rfl (nI 0) (by decide) ?_
                refine q_istore_n (pc := 102) [_, _, _, _, _] rfl (Nat.le_of_ble_eq_true rfl) rfl ?_
                first | refine n_iinc (pc := 103) rfl [_, _, _, _, _] 1 (by decide) rfl rfl ?_ | refine q_iinc (pc := 103) [_, _, _, _, _] (1) rfl rfl (by decide) rfl ?_
                refine q_goto (pc := 106) rfl ?_
                first
                | (exact m_wordI hl ⟨x1, x2, ⟨x3, x4⟩, x5, x6⟩ H e6 e7 hw hu hk k1 k2 m (i + 1) (by omega) (fun j hj2 => by
                     rcases Nat.lt_succ_iff_lt_or_eq.mp hj2 with e | e
                     · exact hj j e
                     · rw [e]; exact q94f))
                | (exact m_wordX (k2 (fun e => q94 (e i (by omega))) _))
            · have q94f : wMb k i = tbN tp w (u + i) := by
                rw [q75]
                exact h94
              first
              | (exfalso; omega (config := {splitDisjunctions := false}))
              | exact absurd rfl h94
              | skip
                refine q_iconst (pc := 97) rfl (nI 1) (by decide) ?_
                refine q_goto (pc := 98) rfl ?_
                refine q_istore_n (pc := 102) [_, _, _, _, _] rfl (Nat.le_of_ble_eq_true rfl) rfl ?_
                first | refine n_iinc (pc := 103) rfl [_, _, _, _, _] 1 (by decide) rfl rfl ?_ | refine q_iinc (pc := 103) [_, _, _, _, _] (1) rfl rfl (by decide) rfl ?_
                refine q_goto (pc := 106) rfl ?_
                first
                | (exact m_wordI hl ⟨x1, x2, ⟨x3, x4⟩, x5, x6⟩ H e6 e7 hw hu hk k1 k2 m (i + 1) (by omega) (fun j hj2 => by
                     rcases Nat.lt_succ_iff_lt_or_eq.mp hj2 with e | e
                     · exact hj j e
                     · rw [e]; exact q94f))
                | (exact m_wordX (k2 (fun e => q94 (e i (by omega))) _))
        · have q75 : tbN tp w (u + i) = nI (tp (u + i)) := if_pos (by omega)
          have x2i := x2 (u + i) (by omega)
          first
          | (exfalso; omega (config := {splitDisjunctions := false}))
          | skip
            refine q_aload_n (pc := 78) rfl rfl rfl ?_
            refine q_getf (pc := 79) rfl (by exact HR.c H hl _ rfl) rfl rfl ?_
            refine q_aload_n (pc := 82) rfl rfl rfl ?_
            refine q_getf (pc := 83) rfl (by exact HR.c H hl _ rfl) rfl rfl ?_
            rw [e7]
            refine q_iload (pc := 86) rfl rfl ?_
            first | refine n_iadd (pc := 88) rfl ?_ | refine q_iadd (pc := 88) rfl ?_
            refine n_ild (pc := 89) rfl (by first | exact HR.la H hl rfl rfl N | exact HR.la0 H hl rfl rfl) rfl (by omega) (by omega) ?_
            rw [x2i]
            refine q_goto (pc := 90) rfl ?_
            refine q_icmpne (pc := 94) rfl (fun h94 => ?_) (fun h94 => ?_)
            · have q94 : ¬ wMb k i = tbN tp w (u + i) := by
                rw [q75]
                exact h94
              first
              | (exfalso; omega (config := {splitDisjunctions := false}))
              | exact absurd rfl h94
              | skip
                refine q_iconst (pc := 101) rfl (nI 0) (by decide) ?_
                refine q_istore_n (pc := 102) [_, _, _, _, _] rfl (Nat.le_of_ble_eq_true rfl) rfl ?_
                first | refine n_iinc (pc := 103) rfl [_, _, _, _, _] 1 (by decide) rfl rfl ?_ | refine q_iinc (pc := 103) [_, _, _, _, _] (1) rfl rfl (by decide) rfl ?_
                refine q_goto (pc := 106) rfl ?_
                first
                | (exact m_wordI hl ⟨x1, x2, ⟨x3, x4⟩, x5, x6⟩ H e6 e7 hw hu hk k1 k2 m (i + 1) (by omega) (fun j hj2 => by
                     rcases Nat.lt_succ_iff_lt_or_eq.mp hj2 with e | e
                     · exact hj j e
                     · rw [e]; exact q94f))
                | (exact m_wordX (k2 (fun e => q94 (e i (by omega))) _))
            · have q94f : wMb k i = tbN tp w (u + i) := by
                rw [q75]
                exact h94
              first
              | (exfalso; omega (config := {splitDisjunctions := false}))
              | exact absurd rfl h94
              | skip
                refine q_iconst (pc := 97) rfl (nI 1) (by decide) ?_
                refine q_goto (pc := 98) rfl ?_
                refine q_istore_n (pc := 102) [_, _, _, _, _] rfl (Nat.le_of_ble_eq_true rfl) rfl ?_
                first | refine n_iinc (pc := 103) rfl [_, _, _, _, _] 1 (by decide) rfl rfl ?_ | refine q_iinc (pc := 103) [_, _, _, _, _] (1) rfl rfl (by decide) rfl ?_
                refine q_goto (pc := 106) rfl ?_
                first
                | (exact m_wordI hl ⟨x1, x2, ⟨x3, x4⟩, x5, x6⟩ H e6 e7 hw hu hk k1 k2 m (i + 1) (by omega) (fun j hj2 => by
                     rcases Nat.lt_succ_iff_lt_or_eq.mp hj2 with e | e
                     · exact hj j e
                     · rw [e]; exact q94f))
                | (exact m_wordX (k2 (fun e => q94 (e i (by omega))) _))
termination_by m
theorem m_wordO {u w sr : Nat} (hl : 75 ≤ P.1) (hx : TX s n tp tz) (H : HR P h s) (e6 : s 54 6 = nI w) (e7 : s 54 7 = nI u) (e8 : s 54 8 = nI sr) (hsr : sr ≤ 3) (hw : w ≤ tz + 1) (huw : u ≤ w) (hw1 : sr = 1 → w ≤ tz) (g : ∀ k, Decidable (sr = 1 ∧ w - u ≤ 6 ∧ eqW tp u w k)) (hq : Q (some (.int (bwf _ g 12))) h) (m k : Nat) (hi : k + m = 12) (z3 z4 : Option Value) : wq d 150 4 [some (.ref 54), some (.int (bwf _ g k)), some (.int (nI k)), z3, z4] [] h Q := by
  have x3 := hx.2.2.1
  match m, hi with
  | 0, hi =>
    obtain rfl : k = 12 := by omega
    refine q_iload_n (pc := 4) rfl rfl ?_
    refine q_bipush (pc := 5) rfl (nI 12) (by decide) ?_
    first | refine n_icmpge (pc := 7) rfl (by omega) (by omega) (fun h7 => ?_) (fun h7 => ?_) | refine q_icmpge (pc := 7) rfl (fun h7 => ?_) (fun h7 => ?_)
    · refine q_iload_n (pc := 125) rfl rfl ?_
      refine q_iret (pc := 126) rfl (rfl) ?_
      exact hq
    · first | (exfalso; omega) | exact absurd h7 (nI_pos (by omega)) | exact absurd (nI_pos' (by omega)) h7
  | m + 1, hi =>
    have st := fun z3 z4 => m_wordO hl hx H e6 e7 e8 hsr hw huw hw1 g hq m (k + 1) (by omega) z3 z4
    by_cases g1 : sr = 1 ∧ w - u ≤ 6
    · by_cases g2 : eqW tp u w k
      · rw [show bwf _ g (k + 1) = nI k from if_pos ⟨g1.1, g1.2, g2⟩] at st
        refine q_iload_n (pc := 4) rfl rfl ?_
        refine q_bipush (pc := 5) rfl (nI 12) (by decide) ?_
        first | refine n_icmpge (pc := 7) rfl (by omega) (by omega) (fun h7 => ?_) (fun h7 => ?_) | refine q_icmpge (pc := 7) rfl (fun h7 => ?_) (fun h7 => ?_)
        · first | (exfalso; omega) | exact absurd h7 (nI_pos (by omega)) | exact absurd (nI_pos' (by omega)) h7
        · refine q_aload_n (pc := 10) rfl rfl rfl ?_
          refine q_getf (pc := 11) rfl (by exact HR.c H hl _ rfl) rfl rfl ?_
          rw [e8]
          refine q_iconst (pc := 14) rfl (nI 1) (by decide) ?_
          first | refine n_icmpne (pc := 15) rfl (by omega) (by omega) (fun h15 => ?_) (fun h15 => ?_) | refine q_icmpne (pc := 15) rfl (fun h15 => ?_) (fun h15 => ?_)
          · first | (exfalso; omega) | exact absurd h15 (nI_pos (by omega)) | exact absurd (nI_pos' (by omega)) h15
          · refine q_aload_n (pc := 18) rfl rfl rfl ?_
            refine q_getf (pc := 19) rfl (by exact HR.c H hl _ rfl) rfl rfl ?_
            rw [e6]
            refine q_aload_n (pc := 22) rfl rfl rfl ?_
            refine q_getf (pc := 23) rfl (by exact HR.c H hl _ rfl) rfl rfl ?_
            rw [e7]
            first | refine n_isub (pc := 26) rfl (by omega) ?_ | refine q_isub (pc := 26) rfl ?_
            refine q_bipush (pc := 27) rfl (nI 6) (by decide) ?_
            first | refine n_icmpgt (pc := 29) rfl (by omega) (by omega) (fun h29 => ?_) (fun h29 => ?_) | refine q_icmpgt (pc := 29) rfl (fun h29 => ?_) (fun h29 => ?_)
            · first | (exfalso; omega) | exact absurd h29 (nI_pos (by omega)) | exact absurd (nI_pos' (by omega)) h29
            · refine q_iconst (pc := 32) rfl (nI 1) (by decide) ?_
              refine q_goto (pc := 33) rfl ?_
              refine q_istore_n (pc := 37) [_, _, _, _, _] rfl (Nat.le_of_ble_eq_true rfl) rfl ?_
              refine q_iconst (pc := 38) rfl (nI 0) (by decide) ?_
              refine q_istore (pc := 39) [_, _, _, _, _] rfl (Nat.le_of_ble_eq_true rfl) rfl ?_
              exact m_wordI hl hx H e6 e7 (by omega) (by omega) (by omega) (fun _ z4 => m_wordY (st _ _)) (fun q => absurd g2 q) 6 0 (by omega) (fun j hj => absurd hj (Nat.not_lt_zero _))
      · rw [show bwf _ g (k + 1) = bwf _ g k from if_neg (fun e => g2 e.2.2)] at st
        refine q_iload_n (pc := 4) rfl rfl ?_
        refine q_bipush (pc := 5) rfl (nI 12) (by decide) ?_
        first | refine n_icmpge (pc := 7) rfl (by omega) (by omega) (fun h7 => ?_) (fun h7 => ?_) | refine q_icmpge (pc := 7) rfl (fun h7 => ?_) (fun h7 => ?_)
        · first | (exfalso; omega) | exact absurd h7 (nI_pos (by omega)) | exact absurd (nI_pos' (by omega)) h7
        · refine q_aload_n (pc := 10) rfl rfl rfl ?_
          refine q_getf (pc := 11) rfl (by exact HR.c H hl _ rfl) rfl rfl ?_
          rw [e8]
          refine q_iconst (pc := 14) rfl (nI 1) (by decide) ?_
          first | refine n_icmpne (pc := 15) rfl (by omega) (by omega) (fun h15 => ?_) (fun h15 => ?_) | refine q_icmpne (pc := 15) rfl (fun h15 => ?_) (fun h15 => ?_)
          · first | (exfalso; omega) | exact absurd h15 (nI_pos (by omega)) | exact absurd (nI_pos' (by omega)) h15
          · refine q_aload_n (pc := 18) rfl rfl rfl ?_
            refine q_getf (pc := 19) rfl (by exact HR.c H hl _ rfl) rfl rfl ?_
            rw [e6]
            refine q_aload_n (pc := 22) rfl rfl rfl ?_
            refine q_getf (pc := 23) rfl (by exact HR.c H hl _ rfl) rfl rfl ?_
            rw [e7]
            first | refine n_isub (pc := 26) rfl (by omega) ?_ | refine q_isub (pc := 26) rfl ?_
            refine q_bipush (pc := 27) rfl (nI 6) (by decide) ?_
            first | refine n_icmpgt (pc := 29) rfl (by omega) (by omega) (fun h29 => ?_) (fun h29 => ?_) | refine q_icmpgt (pc := 29) rfl (fun h29 => ?_) (fun h29 => ?_)
            · first | (exfalso; omega) | exact absurd h29 (nI_pos (by omega)) | exact absurd (nI_pos' (by omega)) h29
            · refine q_iconst (pc := 32) rfl (nI 1) (by decide) ?_
              refine q_goto (pc := 33) rfl ?_
              refine q_istore_n (pc := 37) [_, _, _, _, _] rfl (Nat.le_of_ble_eq_true rfl) rfl ?_
              refine q_iconst (pc := 38) rfl (nI 0) (by decide) ?_
              refine q_istore (pc := 39) [_, _, _, _, _] rfl (Nat.le_of_ble_eq_true rfl) rfl ?_
              exact m_wordI hl hx H e6 e7 (by omega) (by omega) (by omega) (fun q _ => absurd q g2) (fun _ z4 => m_wordZ (st _ _)) 6 0 (by omega) (fun j hj => absurd hj (Nat.not_lt_zero _))
    · rw [show bwf _ g (k + 1) = bwf _ g k from if_neg (fun e => g1 ⟨e.1, e.2.1⟩)] at st
      refine q_iload_n (pc := 4) rfl rfl ?_
      refine q_bipush (pc := 5) rfl (nI 12) (by decide) ?_
      first | refine n_icmpge (pc := 7) rfl (by omega) (by omega) (fun h7 => ?_) (fun h7 => ?_) | refine q_icmpge (pc := 7) rfl (fun h7 => ?_) (fun h7 => ?_)
      · first | (exfalso; omega) | exact absurd h7 (nI_pos (by omega)) | exact absurd (nI_pos' (by omega)) h7
      · refine q_aload_n (pc := 10) rfl rfl rfl ?_
        refine q_getf (pc := 11) rfl (by exact HR.c H hl _ rfl) rfl rfl ?_
        rw [e8]
        refine q_iconst (pc := 14) rfl (nI 1) (by decide) ?_
        first | refine n_icmpne (pc := 15) rfl (by omega) (by omega) (fun h15 => ?_) (fun h15 => ?_) | refine q_icmpne (pc := 15) rfl (fun h15 => ?_) (fun h15 => ?_)
        · first
          | (exfalso; omega (config := {splitDisjunctions := false}))
          | exact absurd rfl h15
          | skip
            refine q_iconst (pc := 36) rfl (nI 0) (by decide) ?_
            refine q_istore_n (pc := 37) [_, _, _, _, _] rfl (Nat.le_of_ble_eq_true rfl) rfl ?_
            refine q_iconst (pc := 38) rfl (nI 0) (by decide) ?_
            refine q_istore (pc := 39) [_, _, _, _, _] rfl (Nat.le_of_ble_eq_true rfl) rfl ?_
            exact m_wordX (m_wordZ (st _ _))
        · first
          | (exfalso; omega (config := {splitDisjunctions := false}))
          | exact absurd rfl h15
          | skip
            refine q_aload_n (pc := 18) rfl rfl rfl ?_
            refine q_getf (pc := 19) rfl (by exact HR.c H hl _ rfl) rfl rfl ?_
            rw [e6]
            refine q_aload_n (pc := 22) rfl rfl rfl ?_
            refine q_getf (pc := 23) rfl (by exact HR.c H hl _ rfl) rfl rfl ?_
            rw [e7]
            first | refine n_isub (pc := 26) rfl (by omega) ?_ | refine q_isub (pc := 26) rfl ?_
            refine q_bipush (pc := 27) rfl (nI 6) (by decide) ?_
            first | refine n_icmpgt (pc := 29) rfl (by omega) (by omega) (fun h29 => ?_) (fun h29 => ?_) | refine q_icmpgt (pc := 29) rfl (fun h29 => ?_) (fun h29 => ?_)
            · first
              | (exfalso; omega (config := {splitDisjunctions := false}))
              | skip
                refine q_iconst (pc := 36) rfl (nI 0) (by decide) ?_
                refine q_istore_n (pc := 37) [_, _, _, _, _] rfl (Nat.le_of_ble_eq_true rfl) rfl ?_
                refine q_iconst (pc := 38) rfl (nI 0) (by decide) ?_
                refine q_istore (pc := 39) [_, _, _, _, _] rfl (Nat.le_of_ble_eq_true rfl) rfl ?_
                exact m_wordX (m_wordZ (st _ _))
            · first
              | (exfalso; omega (config := {splitDisjunctions := false}))
              | skip
                exact absurd (show sr = 1 ∧ w - u ≤ 6 by omega) g1
termination_by m

def wdT (t : Int32) : Int32 := if t = -1 then 0 else if t = -2 then 1 else if t = -3 then 2 else if t = -4 then 3 else if t = -5 then 4 else if t = -6 then 5 else if t = -19 then 6 else if t = -20 then 7 else if t = -21 then 8 else if t = -7 then 9 else if t = -8 then 10 else if t = -9 then 11 else -1
theorem wdT_w : ∀ k, k < 12 → wdT (wcd k) = nI k := by decide
theorem wd_len : ∀ k, k < 12 → (WD (k + 1)).length ≤ 6 ∧ ∀ i, i < (WD (k + 1)).length → (WD (k + 1)).getD i 0 ≠ 0 := by decide
theorem wd_one : ∀ k, k < 12 → ∀ q, q < 12 → (∀ i, i < 6 → wMb k i = wMb q i) → k = q := by decide
theorem wd_out {k i : Nat} (h : (WD k).length ≤ i) : (WD k).getD i 0 = 0 := by
  rw [List.getD_eq_getElem?_getD, List.getElem?_eq_none h]
  rfl
theorem nI_n0 {m : Nat} (h : 0 < m) (h2 : m < 2 ^ 31) : nI m ≠ 0 := fun e => by
  have := x_eq (e.trans (show (0 : Int32) = nI 0 by decide)) h2 (by decide)
  omega
theorem eqW_sp {u w : Nat} (hk : k < 12) (hz : tz ≤ 160 ∧ ∀ i, i < tz → tp i ≤ 255) (hw : w ≤ tz) (huw : u ≤ w) (hl : ∀ j, u ≤ j → j < w → ltB (byN tp tz j) = true) : (w - u ≤ 6 ∧ eqW tp u w k) ↔ spB tp tz u w (k + 1) = true := by
  obtain ⟨l1, l2⟩ := wd_len k hk
  have hb : ∀ j, u ≤ j → j < w → ob (byN tp tz j) = nI (tp j) ∧ 97 ≤ tp j ∧ tp j ≤ 255 := fun j h1 h2 => by
    have h3 := hl j h1 h2
    rw [by_in (by omega)] at h3 ⊢
    unfold ltB at h3
    have h4 := of_decide_eq_true h3
    exact ⟨if_pos (by omega), h4.1, hz.2 j (by omega)⟩
  unfold spB
  rw [decide_eq_true_eq]
  constructor
  · rintro ⟨h1, h2⟩
    have e1 : w - u ≤ (WD (k + 1)).length := by
      refine Classical.byContradiction (fun q => ?_)
      have h3 := h2 (WD (k + 1)).length (by omega)
      obtain ⟨b1, b2, b3⟩ := hb (u + (WD (k + 1)).length) (by omega) (by omega)
      unfold tbN wMb at h3
      rw [if_pos (by omega), wd_out (Nat.le_refl _)] at h3
      exact nI_n0 (by omega) (by omega) h3.symm
    have e2 : (WD (k + 1)).length ≤ w - u := by
      refine Classical.byContradiction (fun q => ?_)
      have h3 := h2 (w - u) (by omega)
      unfold tbN wMb at h3
      rw [if_neg (by omega)] at h3
      exact l2 (w - u) (by omega) h3
    refine ⟨by omega, fun i hi => ?_⟩
    have h3 := h2 i (by omega)
    unfold tbN wMb at h3
    rw [if_pos (by omega)] at h3
    rw [(hb (u + i) (by omega) (by omega)).1, h3]
  · rintro ⟨h1, h2⟩
    refine ⟨by omega, fun j hj => ?_⟩
    unfold tbN wMb
    by_cases g : u + j < w
    · rw [if_pos g, ← h2 j (by omega), (hb (u + j) (by omega) g).1]
    · rw [if_neg g, wd_out (by omega)]
      rfl
theorem bwf_no {f : Nat → Prop} {g : ∀ k, Decidable (f k)} : ∀ n, (∀ k, k < n → ¬ f k) → bwf f g n = -1 := by
  intro n
  induction n with
  | zero => intro _; rfl
  | succ n ih =>
    intro h
    rw [bwf, if_neg (h n (by omega)), ih (fun k hk => h k (by omega))]
theorem bwf_one {f : Nat → Prop} {g : ∀ k, Decidable (f k)} {q : Nat} (hq : f q) : ∀ n, q < n → (∀ k, k < n → f k → k = q) → bwf f g n = nI q := by
  intro n
  induction n with
  | zero => intro h; omega
  | succ n ih =>
    intro h1 h2
    rw [bwf]
    by_cases e : n = q
    · subst e
      rw [if_pos hq]
    · rw [if_neg (fun z => e (h2 n (by omega) z)), ih (by omega) (fun k hk => h2 k (by omega))]
theorem tk_1 (h : srV (byN tp tz (tpl tp tz i)) = 1) : tkT tp tz i = wcd (wdN tp tz (tpl tp tz i) (stP tp tz (i + 1))) := by
  unfold tkT tkV
  rw [if_pos (by rw [← sr1, h]; rfl)]
  rfl
theorem tk_2 (h : srV (byN tp tz (tpl tp tz i)) = 2) : tkT tp tz i = if 4 < stP tp tz (i + 1) - tpl tp tz i then -23 else nI (nmF tp tz (tpl tp tz i) (stP tp tz (i + 1) - tpl tp tz i)) := by
  unfold tkT tkV
  rw [if_neg (by rw [← sr1, h]; decide), if_pos (by rw [← sr2, h]; rfl)]
  rfl
theorem tk_3 (h : srV (byN tp tz (tpl tp tz i)) ≠ 1) (h2 : srV (byN tp tz (tpl tp tz i)) ≠ 2) : tkT tp tz i = sgV (byN tp tz (tpl tp tz i)) := by
  unfold tkT tkV
  rw [if_neg (by rw [← sr1, decide_eq_false h]; decide), if_neg (by rw [← sr2, decide_eq_false h2]; decide)]
theorem wdN_le {u w : Nat} : wdN tp tz u w ≤ 12 := by
  have := fnd_ge (fun k => spB tp tz u w (k + 1)) 12 0
  unfold wdN
  omega
theorem nm_lt {u l : Nat} (hz : tz ≤ 160 ∧ ∀ i, i < tz → tp i ≤ 255) (hl : l ≤ 4) : nmF tp tz u l < 400000 := by
  have h1 := nmF_le (tp := tp) (tz := tz) (w := u) (fun i => byN_le hz.2) l hl
  have h2 : 10 ^ l ≤ 10 ^ 4 := Nat.pow_le_pow_right (by decide) hl
  omega
theorem wdT_g : ∀ b, b < 257 → wdT (sgV b) = -1 := by decide +kernel
theorem wdT_n {v : Nat} (h : v < 2 ^ 31) : wdT (nI v) = -1 := by
  have e : ∀ t : Int32, t < 0 → nI v ≠ t := fun t ht e => nI_pos h (by rw [e]; exact ht)
  unfold wdT
  rw [if_neg (e _ (by decide)), if_neg (e _ (by decide)), if_neg (e _ (by decide)), if_neg (e _ (by decide)), if_neg (e _ (by decide)), if_neg (e _ (by decide)), if_neg (e _ (by decide)), if_neg (e _ (by decide)), if_neg (e _ (by decide)), if_neg (e _ (by decide)), if_neg (e _ (by decide)), if_neg (e _ (by decide))]
theorem en_let {u : Nat} (h : srV (byN tp tz u) = 1) : ∀ j, u ≤ j → j < enN tp tz u → ltB (byN tp tz j) = true := fun j h1 h2 => by
  rcases Nat.eq_or_lt_of_le h1 with e | e
  · rw [← e, ← sr1, h]
    rfl
  · unfold enN at h2
    rw [if_pos (by rw [← sr1, h]; rfl)] at h2
    exact rnB_all (p := fun i => ltB (byN tp tz i)) _ _ j e h2
theorem sr_in {u : Nat} (h : srV (byN tp tz u) ≠ 0) : u < tz := by
  refine Classical.byContradiction (fun q => h (srV_0 (by omega)))
theorem stP_n {i : Nat} (h : srV (byN tp tz (tpl tp tz i)) ≠ 0) : tpl tp tz i < stP tp tz (i + 1) ∧ stP tp tz (i + 1) ≤ tz := by
  have h1 := enN_le (tp := tp) (tz := tz) (j := tpl tp tz i)
  have h2 := sr_in h
  have e : stP tp tz (i + 1) = enN tp tz (tpl tp tz i) := rfl
  omega
theorem m_word (H : HR P h s) (hl : 75 ≤ P.1) (hx : TX s n tp tz) (X : LX s tp tz i) (hu : tpl tp tz i ≤ tz) (hq : Q (some (.int (wdT (tkT tp tz i)))) h) : wc d 150 [.ref 54] h Q := by
  obtain ⟨e6, e7, e8⟩ := X
  have x3 := hx.2.2.1
  have hs3 := srV_le (byN tp tz (tpl tp tz i))
  refine wc.go [_, _, _, _, _] rfl ?_
  refine q_iconst (pc := 0) rfl (-1) (by decide) ?_
  refine q_istore_n (pc := 1) [_, _, _, _, _] rfl (Nat.le_of_ble_eq_true rfl) rfl ?_
  refine q_iconst (pc := 2) rfl (nI 0) (by decide) ?_
  refine q_istore_n (pc := 3) [_, _, _, _, _] rfl (Nat.le_of_ble_eq_true rfl) rfl ?_
  by_cases g0 : srV (byN tp tz (tpl tp tz i)) = 0
  · rw [if_pos g0] at e6
    refine m_wordO hl hx H e6 e7 e8 hs3 (by omega) (Nat.le_refl _) (fun q => by omega) (fun k => Classical.propDecidable _) ?_ 12 0 (by omega) _ _
    rw [bwf_no 12 (fun k _ e => by omega)]
    rw [tk_3 (by omega) (by omega)] at hq
    rw [wdT_g _ (by have := byN_le (tp := tp) (tz := tz) (j := tpl tp tz i) x3.2; omega)] at hq
    exact hq
  · rw [if_neg g0] at e6
    have hst := stP_n g0
    refine m_wordO hl hx H e6 e7 e8 hs3 (by omega) (by omega) (fun _ => by omega) (fun k => Classical.propDecidable _) ?_ 12 0 (by omega) _ _
    by_cases g1 : srV (byN tp tz (tpl tp tz i)) = 1
    · have hsp : ∀ k, k < 12 → ((stP tp tz (i + 1) - tpl tp tz i ≤ 6 ∧ eqW tp (tpl tp tz i) (stP tp tz (i + 1)) k) ↔ spB tp tz (tpl tp tz i) (stP tp tz (i + 1)) (k + 1) = true) := fun k hk => eqW_sp hk x3 hst.2 (by omega) (en_let g1)
      have hone : ∀ k q, k < 12 → q < 12 → spB tp tz (tpl tp tz i) (stP tp tz (i + 1)) (k + 1) = true → spB tp tz (tpl tp tz i) (stP tp tz (i + 1)) (q + 1) = true → k = q := fun k q hk hq' h1 h2 => wd_one k hk q hq' (fun j hj => (((hsp k hk).mpr h1).2 j hj).trans (((hsp q hq').mpr h2).2 j hj).symm)
      have hle := wdN_le (tp := tp) (tz := tz) (u := tpl tp tz i) (w := stP tp tz (i + 1))
      rw [tk_1 g1] at hq
      by_cases g2 : ∃ q, q < 12 ∧ spB tp tz (tpl tp tz i) (stP tp tz (i + 1)) (q + 1) = true
      · obtain ⟨q, hq1, hq2⟩ := g2
        have ew : wdN tp tz (tpl tp tz i) (stP tp tz (i + 1)) = q := fnd_eq _ 12 0 q (Nat.zero_le _) (by omega) hq2 (fun j _ hj => by
          cases e : spB tp tz (tpl tp tz i) (stP tp tz (i + 1)) (j + 1)
          · rfl
          · have := hone j q (by omega) hq1 e hq2
            omega)
        rw [ew, wdT_w q hq1] at hq
        rw [bwf_one (q := q) ⟨g1, (hsp q hq1).mpr hq2⟩ 12 hq1 (fun k hk e => hone k q hk hq1 ((hsp k hk).mp e.2) hq2)]
        exact hq
      · have ew : wdN tp tz (tpl tp tz i) (stP tp tz (i + 1)) = 12 := by
          unfold wdN
          rw [fnd_no _ 12 0 (fun j _ hj => by
            cases e : spB tp tz (tpl tp tz i) (stP tp tz (i + 1)) (j + 1)
            · rfl
            · exact absurd ⟨j, by omega, e⟩ g2)]
        rw [ew, show wdT (wcd 12) = -1 from by decide] at hq
        rw [bwf_no 12 (fun k hk e => g2 ⟨k, hk, (hsp k hk).mp e.2⟩)]
        exact hq
    · rw [bwf_no 12 (fun k _ e => g1 e.1)]
      by_cases g2 : srV (byN tp tz (tpl tp tz i)) = 2
      · rw [tk_2 g2] at hq
        split at hq
        · exact hq
        · rename_i g4
          have := nm_lt (tp := tp) (tz := tz) (u := tpl tp tz i) (l := stP tp tz (i + 1) - tpl tp tz i) x3 (by omega)
          rw [wdT_n (by omega)] at hq
          exact hq
      · rw [tk_3 g1 g2, wdT_g _ (by have := byN_le (tp := tp) (tz := tz) (j := tpl tp tz i) x3.2; omega)] at hq
        exact hq
end P65
