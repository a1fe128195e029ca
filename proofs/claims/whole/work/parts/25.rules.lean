/-! ===== the rules: what is said, what a text is worth ===== -/
theorem HR.R {P : mx_Pm} {h : mx_H} {s : mx_St} {n : Nat} (H : HR P h s) (hl : 51 ≤ P.1) (hm : s 31 1 = nI n) : h.2.2 31 = .inr (4, [.ref 32, .int (nI n), .ref 33, .ref 34, .ref 35]) := by
  rw [H.c hl 31 rfl, show hr_c 31 (s 31) = .inr (4, [.ref 32, .int (s 31 1), .ref 33, .ref 34, .ref 35]) from rfl, hm]
theorem HR.tx {P : mx_Pm} {h : mx_H} {s : mx_St} {t : Nat} (H : HR P h s) (ht : t < P.2.1) : h.2.2 (tid t + 1) = .inr (6, [.ref (tid t), .ref (tid t + 2)]) := (H.2.2.2.2.2.1 t ht).2.1
theorem HR.tc {P : mx_Pm} {h : mx_H} {s : mx_St} {t : Nat} {C : Nat → Nat → Int32} {E : Nat → Nat → Nat} (H : HR P h s) (T : TB P s C E) (ht : t < P.2.1) : ia h (tid t) (E t 2) (C t) := ⟨s (tid t), by rw [(H.2.2.2.2.2.1 t ht).1, (T.2.2 t ht).2.1], (T.2.2 t ht).1⟩
theorem HR.te {P : mx_Pm} {h : mx_H} {s : mx_St} {t : Nat} {C : Nat → Nat → Int32} {E : Nat → Nat → Nat} (H : HR P h s) (T : TB P s C E) (ht : t < P.2.1) : ia h (tid t + 2) 3 (fun i => nI (E t i)) := ⟨s (tid t + 2), (H.2.2.2.2.2.1 t ht).2.2, (T.2.2 t ht).2.2.1⟩
/-- what the names tell -/
def sdv (β : Nat → Nat) (c mark num : Nat) (i : Nat) : Int32 := if i = 0 then nI mark else if i = 1 then nI (c / 6) else if i = 2 then nI (c % 6) else if i = 3 then nI (β 89) else if i = 4 then nI num else nI (w4 β c)
theorem p6 {p : Nat} (h : p < 6) : p = 0 ∨ p = 1 ∨ p = 2 ∨ p = 3 ∨ p = 4 ∨ p = 5 := by omega
theorem x_out {j n : Nat} (hj : j < n) (hn : n < 2 ^ 31) (g : nI j < 0 ∨ nI n ≤ nI j) : False := by
  rcases g with z | z
  · exact nI_pos (by omega) z
  · have := x_le z hn (by omega); omega
/-- a rule's parts, bounded; what one takes, lays, what a tide leaves -/
def vtN (C : Nat → Nat → Int32) (E : Nat → Nat → Nat) (β : Nat → Nat) (rule part mark num c : Nat) : Int32 := tvl (sdv β c mark num) (C rule) (pst (E rule) part) (E rule part)
def tkG (C : Nat → Nat → Int32) (E : Nat → Nat → Nat) (β : Nat → Nat) (kind num rule c : Nat) : Nat := max 1 (min (tkb kind num (bdN 0 99 (vtN C E β rule 0 (β (36 + c)) num c)) (β (36 + c))) 99)
def lyG (C : Nat → Nat → Int32) (E : Nat → Nat → Nat) (β : Nat → Nat) (kind num rule c : Nat) : Nat := lyb kind num (bdN 0 9 (vtN C E β rule 1 (β (36 + c)) num c)) (β (36 + c)) c
def lfG (C : Nat → Nat → Int32) (E : Nat → Nat → Nat) (β : Nat → Nat) (rule c : Nat) : Nat := bdN 0 9 (vtN C E β rule 2 (β c) 0 c)
theorem lyb_le {kind num v plan c : Nat} (hv : v ≤ 9) (hp : plan ≤ 9) : lyb kind num v plan c ≤ 9 := by
  have : boyb v c ≤ 9 := by unfold boyb; split <;> omega
  unfold lyb
  repeat' split
  all_goals omega
theorem tkb_le {kind num v plan : Nat} (hv : v ≤ 99) (hn : num ≤ 9) : tkb kind num v plan ≤ 198 := by
  unfold tkb
  repeat' split
  all_goals omega
def tkN (C : Nat → Nat → Int32) (E : Nat → Nat → Nat) (β : Nat → Nat) (p c : Nat) : Nat := tkG C E β (β (72 + 4 * p)) (β (72 + 4 * p + 1)) (β 90) c
def lyN (C : Nat → Nat → Int32) (E : Nat → Nat → Nat) (β : Nat → Nat) (p c : Nat) : Nat := lyG C E β (β (72 + 4 * p)) (β (72 + 4 * p + 1)) (β 90) c
def mnN (C : Nat → Nat → Int32) (E : Nat → Nat → Nat) (β : Nat → Nat) (p c : Nat) : Nat := apN (β (72 + 4 * p + 2)) c + tkN C E β p c
theorem tkG_b (C : Nat → Nat → Int32) (E : Nat → Nat → Nat) (β : Nat → Nat) (kind num rule c : Nat) : 1 ≤ tkG C E β kind num rule c ∧ tkG C E β kind num rule c ≤ 99 := by unfold tkG; omega
theorem lyG_le (C : Nat → Nat → Int32) (E : Nat → Nat → Nat) {β : Nat → Nat} (kind num rule c : Nat) (h : β (36 + c) ≤ 9) : lyG C E β kind num rule c ≤ 9 := lyb_le (bdN_le (by decide)).2 h
/-- one cell relaid -/
def layb (C : Nat → Nat → Int32) (E : Nat → Nat → Nat) (β : Nat → Nat) (p c : Nat) : Nat → Nat := upN (upN (upN β c (lyN C E β p c)) (72 + 4 * p + 2) c) (72 + 4 * p + 3) (min (β (72 + 4 * p + 3) + 1) 9999)
def flob (C : Nat → Nat → Int32) (E : Nat → Nat → Nat) (β : Nat → Nat) (reach : Nat) : Nat → Nat := fun i => if 36 - 6 * reach ≤ i ∧ i < 36 then lfG C E β (β 90) i else if i = 89 then β 89 + 1 else β i
section P25
variable {d k pc a i j c p b t n m part : Nat} {v : Int} {L L' : mx_L} {st r : List Value} {P : mx_Pm} {h : mx_H} {s : mx_St} {Q : Option Value → mx_H → Prop} {x y w : Int32} {β : Nat → Nat} {C : Nat → Nat → Int32} {E : Nat → Nat → Nat}
theorem c_textAt (H : HR P h s) (hl : 51 ≤ P.1) (hm : s 31 1 = nI P.2.1) (h6 : P.2.1 ≤ 6) (ht : ∀ j, j < P.2.1 → x = nI j → Q (some (.ref (tid j + 1))) h) (hf : (x < 0 ∨ nI P.2.1 ≤ x) → Q (some .null) h) : wc d 45 [.ref 31, .int x] h Q := by
  refine wc.go [_, _] rfl ?_
  refine q_iload_n (pc := 0) rfl rfl ?_
  refine q_iflt (pc := 1) rfl (fun h1 => ?_) (fun h1 => ?_)
  · have g : x < 0 ∨ nI P.2.1 ≤ x := Or.inl h1
    refine q_null (pc := 27) rfl ?_
    first | (refine q_aret (pc := 28) rfl rfl ?_; exact ht j (by omega) rfl) | (refine q_aretN (pc := 28) rfl rfl ?_; exact hf g)
  · refine q_iload_n (pc := 4) rfl rfl ?_
    refine q_aload_n (pc := 5) rfl rfl rfl ?_
    refine q_getf (pc := 6) rfl (by exact HR.R H hl hm) rfl rfl ?_
    first | refine n_icmpge (pc := 9) rfl (by omega) (by omega) (fun h9 => ?_) (fun h9 => ?_) | refine q_icmpge (pc := 9) rfl (fun h9 => ?_) (fun h9 => ?_)
    · have g : x < 0 ∨ nI P.2.1 ≤ x := Or.inr h9
      refine q_null (pc := 27) rfl ?_
      first | (refine q_aret (pc := 28) rfl rfl ?_; exact ht j (by omega) rfl) | (refine q_aretN (pc := 28) rfl rfl ?_; exact hf g)
    · obtain ⟨j, hj, rfl⟩ := x_big (by omega) h1 h9
      have hx : j < 6 := by omega
      refine q_iload_n (pc := 12) rfl rfl ?_
      refine q_bipush (pc := 13) rfl (nI 6) (by decide) ?_
      first | refine n_icmpge (pc := 15) rfl (by omega) (by omega) (fun h15 => ?_) (fun h15 => ?_) | refine q_icmpge (pc := 15) rfl (fun h15 => ?_) (fun h15 => ?_)
      · first | (exfalso; omega) | exact absurd h15 (nI_pos (by omega)) | exact absurd (nI_pos' (by omega)) h15
      · refine q_aload_n (pc := 18) rfl rfl rfl ?_
        refine q_getf (pc := 19) rfl (by exact HR.R H hl hm) rfl rfl ?_
        refine q_iload_n (pc := 22) rfl rfl ?_
        refine q_aaload (pc := 23) rfl (by exact H.2.2.2.2.1) (by decide) (by decide) (by exact x_vin hx (by decide)) ?_
        rw [x_cl (by omega), hr_g, if_pos hj]
        refine q_goto (pc := 24) rfl ?_
        first | (refine q_aret (pc := 28) rfl rfl ?_; exact ht j (by omega) rfl) | (refine q_aretN (pc := 28) rfl rfl ?_; exact hf g)
theorem c_say (hd : 1 ≤ d) (H : HR P h s) (hl : 51 ≤ P.1) (hb : isB b) (hβ : BT s b β) (hk : ∀ i, i < 72 → β i ≤ 9) (hc : c < 36) {mark num : Nat} (kk : ∀ h' s', HR P h' s' → sf s s' (fun i => i = 33) → (∀ i, i < 6 → s' 33 i = sdv β c mark num i) → Q none h') : wc d 53 [.ref 31, .ref b, .int (nI c), .int (nI mark), .int (nI num)] h Q := by
  have fr1 : ∀ {s1 : mx_St} {j : Nat} {v : Int32}, BT s1 b β → BT (stv s1 33 j v) b β := fun g => BT.fr (S := fun i => i = 33) g (sf.rf.st rfl) (fun i g1 g2 => by unfold isB at hb; omega)
  refine wc.go [_, _, _, _, _] rfl ?_
  refine q_aload_n (pc := 0) rfl rfl rfl ?_
  refine q_getf (pc := 1) rfl (by first | exact HR.B H hl hb hβ | exact HR.c H hl _ rfl) rfl rfl ?_
  refine q_iconst (pc := 4) rfl (nI 0) (by decide) ?_
  refine q_iload_n (pc := 5) rfl rfl ?_
  refine r_ist2 (pc := 6) rfl H hl rfl (fun _ => rfl) rfl (by omega) (by omega) ?_
  intro h H
  have hβ := fr1 (j := 0) (v := nI mark) hβ
  refine q_aload_n (pc := 7) rfl rfl rfl ?_
  refine q_getf (pc := 8) rfl (by first | exact HR.B H hl hb hβ | exact HR.c H hl _ rfl) rfl rfl ?_
  refine q_iconst (pc := 11) rfl (nI 1) (by decide) ?_
  refine q_iload_n (pc := 12) rfl rfl ?_
  refine q_bipush (pc := 13) rfl (nI 6) (by decide) ?_
  first | refine n_idiv (pc := 15) rfl (by omega) (by omega) (by omega) ?_ | refine q_idiv (pc := 15) rfl (by decide) ?_
  refine r_ist2 (pc := 16) rfl H hl rfl (fun _ => rfl) rfl (by omega) (by omega) ?_
  intro h H
  have hβ := fr1 (j := 1) (v := nI (c / 6)) hβ
  refine q_aload_n (pc := 17) rfl rfl rfl ?_
  refine q_getf (pc := 18) rfl (by first | exact HR.B H hl hb hβ | exact HR.c H hl _ rfl) rfl rfl ?_
  refine q_iconst (pc := 21) rfl (nI 2) (by decide) ?_
  refine q_iload_n (pc := 22) rfl rfl ?_
  refine q_bipush (pc := 23) rfl (nI 6) (by decide) ?_
  first | refine n_irem (pc := 25) rfl (by omega) (by omega) (by omega) ?_ | refine q_irem (pc := 25) rfl (by decide) ?_
  refine r_ist2 (pc := 26) rfl H hl rfl (fun _ => rfl) rfl (by omega) (by omega) ?_
  intro h H
  have hβ := fr1 (j := 2) (v := nI (c % 6)) hβ
  refine q_aload_n (pc := 27) rfl rfl rfl ?_
  refine q_getf (pc := 28) rfl (by first | exact HR.B H hl hb hβ | exact HR.c H hl _ rfl) rfl rfl ?_
  refine q_iconst (pc := 31) rfl (nI 3) (by decide) ?_
  refine q_aload_n (pc := 32) rfl rfl rfl ?_
  refine q_getf (pc := 33) rfl (by first | exact HR.B H hl hb hβ | exact HR.c H hl _ rfl) rfl rfl ?_
  refine r_ist2 (pc := 36) rfl H hl rfl (fun _ => rfl) rfl (by omega) (by omega) ?_
  intro h H
  have hβ := fr1 (j := 3) (v := nI (β 89)) hβ
  refine q_aload_n (pc := 37) rfl rfl rfl ?_
  refine q_getf (pc := 38) rfl (by first | exact HR.B H hl hb hβ | exact HR.c H hl _ rfl) rfl rfl ?_
  refine q_iconst (pc := 41) rfl (nI 4) (by decide) ?_
  refine q_iload (pc := 42) rfl rfl ?_
  refine r_ist2 (pc := 44) rfl H hl rfl (fun _ => rfl) rfl (by omega) (by omega) ?_
  intro h H
  have hβ := fr1 (j := 4) (v := nI num) hβ
  refine q_aload_n (pc := 45) rfl rfl rfl ?_
  refine q_getf (pc := 46) rfl (by first | exact HR.B H hl hb hβ | exact HR.c H hl _ rfl) rfl rfl ?_
  refine q_iconst (pc := 49) rfl (nI 5) (by decide) ?_
  refine q_aload_n (pc := 50) rfl rfl rfl ?_
  refine q_iload_n (pc := 51) rfl rfl ?_
  refine q_callV (pc := 52) _ rfl rfl rfl (by first | exact HR.B H hl hb hβ | exact HR.c H hl _ rfl) rfl (Nat.le_of_ble_eq_true rfl) (by omega) _ rfl ?_
  refine c_wrongBeside H hl hb hβ hk hc ?_
  refine r_ist2 (pc := 55) rfl H hl rfl (fun _ => rfl) rfl (by omega) (by omega) ?_
  intro h H
  refine q_vret (pc := 56) rfl rfl ?_
  refine kk _ _ H ((((((sf.rf.st (by rfl)).st (by rfl)).st (by rfl)).st (by rfl)).st (by rfl)).st (by rfl)) (fun i hi => ?_)
  rcases p6 hi with rfl | rfl | rfl | rfl | rfl | rfl
  · rw [stv_o (by decide), stv_o (by decide), stv_o (by decide), stv_o (by decide), stv_o (by decide), stv_a]; rfl
  · rw [stv_o (by decide), stv_o (by decide), stv_o (by decide), stv_o (by decide), stv_a]; rfl
  · rw [stv_o (by decide), stv_o (by decide), stv_o (by decide), stv_a]; rfl
  · rw [stv_o (by decide), stv_o (by decide), stv_a]; rfl
  · rw [stv_o (by decide), stv_a]; rfl
  · rw [stv_a]; rfl
theorem c_worthL (hd : 1 ≤ d) (hl : 51 ≤ P.1) (ht : t < P.2.1) (hp : part < 3) {sd : Nat → Int32} {s0 : mx_St} {z4 : Int32} (kk : ∀ h' s', HR P h' s' → sf s0 s' (fun i => i = 34) → Q (some (.int w)) h') (n i : Nat) (hn : i + n = E t part) (st : List Int32) (hst : st.length ≤ i) (hr : rpn sd (C t) n i st = some [w]) (h : mx_H) (s : mx_St) (H : HR P h s) (T : TB P s C E) (hsd : ∀ k, k < 6 → s 33 k = sd k) (hs : sf s0 s (fun i => i = 34)) (hk : stk (s 34) st) (z7 z8 : Option Value) : wq d 54 50 [some (.ref 31), some (.int (nI t)), some (.int (nI part)), some (.ref (tid t + 1)), some (.int z4), some (.int (nI st.length)), some (.int (nI i)), z7, z8] [] h Q := by
  have hE : E t part ≤ E t 2 ∧ E t 2 ≤ 160 := by
    have := (T.2.2 t ht).2.2.2.1
    have e : part = 0 ∨ part = 1 ∨ part = 2 := by omega
    rcases e with rfl | rfl | rfl <;> omega
  have hte := HR.te H T ht
  have htc := HR.tc H T ht
  have h6 := T.2.1
  match n, hn, hr with
  | 0, hn, hr =>
    obtain rfl : st = [w] := by unfold rpn at hr; cases hr; rfl
    refine q_iload (pc := 50) rfl rfl ?_
    refine q_aload_n (pc := 52) rfl rfl rfl ?_
    refine q_getf (pc := 53) rfl (by exact HR.tx H ht) rfl rfl ?_
    refine q_iload_n (pc := 56) rfl rfl ?_
    refine n_ild (pc := 57) rfl (by exact hte) rfl (by omega) (by omega) ?_
    first | refine n_icmpge (pc := 58) rfl (by omega) (by omega) (fun h58 => ?_) (fun h58 => ?_) | refine q_icmpge (pc := 58) rfl (fun h58 => ?_) (fun h58 => ?_)
    · refine q_aload_n (pc := 211) rfl rfl rfl ?_
      refine q_getf (pc := 212) rfl (by exact HR.R H hl T.1) rfl rfl ?_
      refine q_iconst (pc := 215) rfl (nI 0) (by decide) ?_
      refine n_ild (pc := 216) rfl (by first | exact HR.am H hl hb hβ | exact HR.ap H hl hb hβ | exact HR.la0 H hl rfl rfl) rfl (by omega) (by omega) ?_
      rw [show s 34 0 = w from hk.1]
      refine q_iret (pc := 217) rfl (rfl) ?_
      exact kk _ _ H hs
    · first | (exfalso; omega) | exact absurd h58 (nI_pos (by omega)) | exact absurd (nI_pos' (by omega)) h58
  | n + 1, hn, hr =>
    obtain ⟨st', e1, e2⟩ := Option.bind_eq_some_iff.mp hr
    rcases rpo_is e1 with ⟨q1, q2, q3⟩ | ⟨q1, q2⟩ | ⟨q1, q2, q3, x, r, q4, q5⟩ | ⟨q1, q2, q3, x, y, r, q4, q5⟩
    · obtain ⟨k, hk6, hkw⟩ := w_nameN q1 q2
      rw [hkw, x_cl (by omega)] at q3
      subst q3
      refine q_iload (pc := 50) rfl rfl ?_
      refine q_aload_n (pc := 52) rfl rfl rfl ?_
      refine q_getf (pc := 53) rfl (by exact HR.tx H ht) rfl rfl ?_
      refine q_iload_n (pc := 56) rfl rfl ?_
      refine n_ild (pc := 57) rfl (by exact hte) rfl (by omega) (by omega) ?_
      first | refine n_icmpge (pc := 58) rfl (by omega) (by omega) (fun h58 => ?_) (fun h58 => ?_) | refine q_icmpge (pc := 58) rfl (fun h58 => ?_) (fun h58 => ?_)
      · first | (exfalso; omega) | exact absurd h58 (nI_pos (by omega)) | exact absurd (nI_pos' (by omega)) h58
      · refine q_iload (pc := 61) rfl rfl ?_
        refine q_aload_n (pc := 63) rfl rfl rfl ?_
        refine q_getf (pc := 64) rfl (by exact HR.tx H ht) rfl rfl ?_
        refine q_alen (pc := 67) rfl (by exact (H.2.2.2.2.2.1 t ht).1.trans (by rw [(T.2.2 t ht).2.1])) (by decide) ?_
        first | refine n_icmpge (pc := 68) rfl (by omega) (by omega) (fun h68 => ?_) (fun h68 => ?_) | refine q_icmpge (pc := 68) rfl (fun h68 => ?_) (fun h68 => ?_)
        · first | (exfalso; omega) | exact absurd h68 (nI_pos (by omega)) | exact absurd (nI_pos' (by omega)) h68
        · refine q_aload_n (pc := 71) rfl rfl rfl ?_
          refine q_getf (pc := 72) rfl (by exact HR.tx H ht) rfl rfl ?_
          refine q_iload (pc := 75) rfl rfl ?_
          refine n_ild (pc := 77) rfl (by exact htc) rfl (by omega) (by omega) ?_
          refine q_istore (pc := 78) [_, _, _, _, _, _, _, _, _] rfl (Nat.le_of_ble_eq_true rfl) rfl ?_
          refine q_iload (pc := 80) rfl rfl ?_
          refine q_bipush (pc := 82) rfl (-6) (by decide) ?_
          refine q_icmplt (pc := 84) rfl (fun h84 => ?_) (fun h84 => ?_)
          · exact absurd h84 q1
          · refine q_iload (pc := 87) rfl rfl ?_
            refine q_iflt (pc := 89) rfl (fun h89 => ?_) (fun h89 => ?_)
            · first | (exfalso; omega) | exact absurd h89 (nI_pos (by omega)) | exact absurd (nI_pos' (by omega)) h89
            · refine q_iload (pc := 92) rfl rfl ?_
              refine q_sipush (pc := 94) rfl (nI 160) (by decide) ?_
              first | refine n_icmpge (pc := 97) rfl (by omega) (by omega) (fun h97 => ?_) (fun h97 => ?_) | refine q_icmpge (pc := 97) rfl (fun h97 => ?_) (fun h97 => ?_)
              · first | (exfalso; omega) | exact absurd h97 (nI_pos (by omega)) | exact absurd (nI_pos' (by omega)) h97
              · refine q_aload_n (pc := 100) rfl rfl rfl ?_
                refine q_getf (pc := 101) rfl (by exact HR.R H hl T.1) rfl rfl ?_
                refine q_iload (pc := 104) rfl rfl ?_
                refine q_iload (pc := 106) rfl rfl ?_
                refine q_ifge (pc := 108) rfl (fun h108 => ?_) (fun h108 => ?_)
                · exact absurd q2 (Int32.not_lt.mpr h108)
                · refine q_aload_n (pc := 111) rfl rfl rfl ?_
                  refine q_getf (pc := 112) rfl (by exact HR.R H hl T.1) rfl rfl ?_
                  refine q_iconst (pc := 115) rfl (-1) (by decide) ?_
                  refine q_iload (pc := 116) rfl rfl ?_
                  refine q_isub (pc := 118) rfl ?_
                  refine n_ild (pc := 119) rfl (by first | exact HR.am H hl hb hβ | exact HR.ap H hl hb hβ | exact HR.la0 H hl rfl rfl) hkw (by omega) (by omega) ?_
                  rw [hsd k hk6]
                  refine q_goto (pc := 120) rfl ?_
                  refine r_ist2 (pc := 125) rfl H hl rfl (fun _ => rfl) rfl (by omega) (by omega) ?_
                  intro h H
                  first | refine n_iinc (pc := 126) rfl [_, _, _, _, _, _, _, _, _] 1 (by decide) rfl rfl ?_ | refine q_iinc (pc := 126) [_, _, _, _, _, _, _, _, _] (1) rfl rfl (by decide) rfl ?_
                  refine q_goto (pc := 129) rfl ?_
                  first | refine n_iinc (pc := 205) rfl [_, _, _, _, _, _, _, _, _] 1 (by decide) rfl rfl ?_ | refine q_iinc (pc := 205) [_, _, _, _, _, _, _, _, _] (1) rfl rfl (by decide) rfl ?_
                  refine q_goto (pc := 208) rfl ?_
                  exact c_worthL hd hl ht hp kk n (i + 1) (by omega) (sd k :: st) (by simp only [List.length_cons]; omega) e2 h _ H (T.fr (S := fun i => i = 34) (sf.rf.st rfl) (fun i hi => by omega)) (fun k' hk' => (congrFun (stv_n (by decide)) _).trans (hsd k' hk')) (hs.st rfl) ⟨stv_a, by rw [stv_s]; exact stk_up (Nat.le_refl _) hk⟩ _ _
    · subst q2
      have q0 : ¬ C t i < -6 := fun z => q1 (Int32.lt_trans z (by decide))
      refine q_iload (pc := 50) rfl rfl ?_
      refine q_aload_n (pc := 52) rfl rfl rfl ?_
      refine q_getf (pc := 53) rfl (by exact HR.tx H ht) rfl rfl ?_
      refine q_iload_n (pc := 56) rfl rfl ?_
      refine n_ild (pc := 57) rfl (by exact hte) rfl (by omega) (by omega) ?_
      first | refine n_icmpge (pc := 58) rfl (by omega) (by omega) (fun h58 => ?_) (fun h58 => ?_) | refine q_icmpge (pc := 58) rfl (fun h58 => ?_) (fun h58 => ?_)
      · first | (exfalso; omega) | exact absurd h58 (nI_pos (by omega)) | exact absurd (nI_pos' (by omega)) h58
      · refine q_iload (pc := 61) rfl rfl ?_
        refine q_aload_n (pc := 63) rfl rfl rfl ?_
        refine q_getf (pc := 64) rfl (by exact HR.tx H ht) rfl rfl ?_
        refine q_alen (pc := 67) rfl (by exact (H.2.2.2.2.2.1 t ht).1.trans (by rw [(T.2.2 t ht).2.1])) (by decide) ?_
        first | refine n_icmpge (pc := 68) rfl (by omega) (by omega) (fun h68 => ?_) (fun h68 => ?_) | refine q_icmpge (pc := 68) rfl (fun h68 => ?_) (fun h68 => ?_)
        · first | (exfalso; omega) | exact absurd h68 (nI_pos (by omega)) | exact absurd (nI_pos' (by omega)) h68
        · refine q_aload_n (pc := 71) rfl rfl rfl ?_
          refine q_getf (pc := 72) rfl (by exact HR.tx H ht) rfl rfl ?_
          refine q_iload (pc := 75) rfl rfl ?_
          refine n_ild (pc := 77) rfl (by exact htc) rfl (by omega) (by omega) ?_
          refine q_istore (pc := 78) [_, _, _, _, _, _, _, _, _] rfl (Nat.le_of_ble_eq_true rfl) rfl ?_
          refine q_iload (pc := 80) rfl rfl ?_
          refine q_bipush (pc := 82) rfl (-6) (by decide) ?_
          refine q_icmplt (pc := 84) rfl (fun h84 => ?_) (fun h84 => ?_)
          · exact absurd h84 q0
          · refine q_iload (pc := 87) rfl rfl ?_
            refine q_iflt (pc := 89) rfl (fun h89 => ?_) (fun h89 => ?_)
            · first | (exfalso; omega) | exact absurd h89 (nI_pos (by omega)) | exact absurd (nI_pos' (by omega)) h89
            · refine q_iload (pc := 92) rfl rfl ?_
              refine q_sipush (pc := 94) rfl (nI 160) (by decide) ?_
              first | refine n_icmpge (pc := 97) rfl (by omega) (by omega) (fun h97 => ?_) (fun h97 => ?_) | refine q_icmpge (pc := 97) rfl (fun h97 => ?_) (fun h97 => ?_)
              · first | (exfalso; omega) | exact absurd h97 (nI_pos (by omega)) | exact absurd (nI_pos' (by omega)) h97
              · refine q_aload_n (pc := 100) rfl rfl rfl ?_
                refine q_getf (pc := 101) rfl (by exact HR.R H hl T.1) rfl rfl ?_
                refine q_iload (pc := 104) rfl rfl ?_
                refine q_iload (pc := 106) rfl rfl ?_
                refine q_ifge (pc := 108) rfl (fun h108 => ?_) (fun h108 => ?_)
                · refine q_iload (pc := 123) rfl rfl ?_
                  refine r_ist2 (pc := 125) rfl H hl rfl (fun _ => rfl) rfl (by omega) (by omega) ?_
                  intro h H
                  first | refine n_iinc (pc := 126) rfl [_, _, _, _, _, _, _, _, _] 1 (by decide) rfl rfl ?_ | refine q_iinc (pc := 126) [_, _, _, _, _, _, _, _, _] (1) rfl rfl (by decide) rfl ?_
                  refine q_goto (pc := 129) rfl ?_
                  first | refine n_iinc (pc := 205) rfl [_, _, _, _, _, _, _, _, _] 1 (by decide) rfl rfl ?_ | refine q_iinc (pc := 205) [_, _, _, _, _, _, _, _, _] (1) rfl rfl (by decide) rfl ?_
                  refine q_goto (pc := 208) rfl ?_
                  exact c_worthL hd hl ht hp kk n (i + 1) (by omega) (C t i :: st) (by simp only [List.length_cons]; omega) e2 h _ H (T.fr (S := fun i => i = 34) (sf.rf.st rfl) (fun i hi => by omega)) (fun k' hk' => (congrFun (stv_n (by decide)) _).trans (hsd k' hk')) (hs.st rfl) ⟨stv_a, by rw [stv_s]; exact stk_up (Nat.le_refl _) hk⟩ _ _
                · exact absurd (Int32.not_lt.mp q1) h108
    · subst q4
      subst q5
      have hlen : (x :: r).length = r.length + 1 := rfl
      have hlen2 : (x :: r).length - 1 = r.length := rfl
      have hx : s 34 r.length = x := hk.1
      refine q_iload (pc := 50) rfl rfl ?_
      refine q_aload_n (pc := 52) rfl rfl rfl ?_
      refine q_getf (pc := 53) rfl (by exact HR.tx H ht) rfl rfl ?_
      refine q_iload_n (pc := 56) rfl rfl ?_
      refine n_ild (pc := 57) rfl (by exact hte) rfl (by omega) (by omega) ?_
      first | refine n_icmpge (pc := 58) rfl (by omega) (by omega) (fun h58 => ?_) (fun h58 => ?_) | refine q_icmpge (pc := 58) rfl (fun h58 => ?_) (fun h58 => ?_)
      · first | (exfalso; omega) | exact absurd h58 (nI_pos (by omega)) | exact absurd (nI_pos' (by omega)) h58
      · refine q_iload (pc := 61) rfl rfl ?_
        refine q_aload_n (pc := 63) rfl rfl rfl ?_
        refine q_getf (pc := 64) rfl (by exact HR.tx H ht) rfl rfl ?_
        refine q_alen (pc := 67) rfl (by exact (H.2.2.2.2.2.1 t ht).1.trans (by rw [(T.2.2 t ht).2.1])) (by decide) ?_
        first | refine n_icmpge (pc := 68) rfl (by omega) (by omega) (fun h68 => ?_) (fun h68 => ?_) | refine q_icmpge (pc := 68) rfl (fun h68 => ?_) (fun h68 => ?_)
        · first | (exfalso; omega) | exact absurd h68 (nI_pos (by omega)) | exact absurd (nI_pos' (by omega)) h68
        · refine q_aload_n (pc := 71) rfl rfl rfl ?_
          refine q_getf (pc := 72) rfl (by exact HR.tx H ht) rfl rfl ?_
          refine q_iload (pc := 75) rfl rfl ?_
          refine n_ild (pc := 77) rfl (by exact htc) rfl (by omega) (by omega) ?_
          refine q_istore (pc := 78) [_, _, _, _, _, _, _, _, _] rfl (Nat.le_of_ble_eq_true rfl) rfl ?_
          refine q_iload (pc := 80) rfl rfl ?_
          refine q_bipush (pc := 82) rfl (-6) (by decide) ?_
          refine q_icmplt (pc := 84) rfl (fun h84 => ?_) (fun h84 => ?_)
          · refine q_iload (pc := 132) rfl rfl ?_
            refine q_bipush (pc := 134) rfl (-9) (by decide) ?_
            refine q_icmpeq (pc := 136) rfl (fun h136 => ?_) (fun h136 => ?_)
            · refine q_iload (pc := 146) rfl rfl ?_
              refine q_goto (pc := 148) rfl ?_
              refine q_istore (pc := 155) [_, _, _, _, _, _, _, _, _] rfl (Nat.le_of_ble_eq_true rfl) rfl ?_
              refine q_iload (pc := 157) rfl rfl ?_
              refine q_iconst (pc := 159) rfl (nI 1) (by decide) ?_
              first | refine n_icmplt (pc := 160) rfl (by omega) (by omega) (fun h160 => ?_) (fun h160 => ?_) | refine q_icmplt (pc := 160) rfl (fun h160 => ?_) (fun h160 => ?_)
              · first | (exfalso; omega) | exact absurd h160 (nI_pos (by omega)) | exact absurd (nI_pos' (by omega)) h160
              · refine q_iload (pc := 163) rfl rfl ?_
                refine q_sipush (pc := 165) rfl (nI 160) (by decide) ?_
                first | refine n_icmpge (pc := 168) rfl (by omega) (by omega) (fun h168 => ?_) (fun h168 => ?_) | refine q_icmpge (pc := 168) rfl (fun h168 => ?_) (fun h168 => ?_)
                · first | (exfalso; omega) | exact absurd h168 (nI_pos (by omega)) | exact absurd (nI_pos' (by omega)) h168
                · refine q_aload_n (pc := 171) rfl rfl rfl ?_
                  refine q_getf (pc := 172) rfl (by exact HR.R H hl T.1) rfl rfl ?_
                  refine q_iload (pc := 175) rfl rfl ?_
                  refine q_iconst (pc := 177) rfl (nI 1) (by decide) ?_
                  first | refine n_isub (pc := 178) rfl (by omega) ?_ | refine q_isub (pc := 178) rfl ?_
                  rw [hlen2]
                  refine q_iload (pc := 179) rfl rfl ?_
                  refine q_aload_n (pc := 181) rfl rfl rfl ?_
                  refine q_getf (pc := 182) rfl (by exact HR.R H hl T.1) rfl rfl ?_
                  refine q_iload (pc := 185) rfl rfl ?_
                  refine q_iconst (pc := 187) rfl (nI 1) (by decide) ?_
                  first | refine n_isub (pc := 188) rfl (by omega) ?_ | refine q_isub (pc := 188) rfl ?_
                  rw [hlen2]
                  refine n_ild (pc := 189) rfl (by first | exact HR.am H hl hb hβ | exact HR.ap H hl hb hβ | exact HR.la0 H hl rfl rfl) rfl (by omega) (by omega) ?_
                  rw [hx]
                  refine q_aload_n (pc := 190) rfl rfl rfl ?_
                  refine q_getf (pc := 191) rfl (by exact HR.R H hl T.1) rfl rfl ?_
                  refine q_iload (pc := 194) rfl rfl ?_
                  refine n_ild (pc := 196) rfl (by first | exact HR.am H hl hb hβ | exact HR.ap H hl hb hβ | exact HR.la0 H hl rfl rfl) rfl (by omega) (by omega) ?_
                  refine q_callS (pc := 197) _ (by decide) rfl rfl rfl rfl (Nat.le_of_ble_eq_true rfl) (by omega) _ rfl ?_
                  refine c_joined q1 q2 ?_
                  rw [jn_un q3]
                  refine r_ist2 (pc := 200) rfl H hl rfl (fun _ => rfl) rfl (by omega) (by omega) ?_
                  intro h H
                  refine q_iload (pc := 201) rfl rfl ?_
                  refine q_istore (pc := 203) [_, _, _, _, _, _, _, _, _] rfl (Nat.le_of_ble_eq_true rfl) rfl ?_
                  first | refine n_iinc (pc := 205) rfl [_, _, _, _, _, _, _, _, _] 1 (by decide) rfl rfl ?_ | refine q_iinc (pc := 205) [_, _, _, _, _, _, _, _, _] (1) rfl rfl (by decide) rfl ?_
                  refine q_goto (pc := 208) rfl ?_
                  exact c_worthL hd hl ht hp kk n (i + 1) (by omega) (jn (C t i) x 0 :: r) (by simp only [List.length_cons] at hst ⊢; omega) e2 h _ H (T.fr (S := fun i => i = 34) (sf.rf.st rfl) (fun i hi => by omega)) (fun k' hk' => (congrFun (stv_n (by decide)) _).trans (hsd k' hk')) (hs.st rfl) ⟨stv_a, by rw [stv_s]; exact stk_up (Nat.le_refl _) hk.2⟩ _ _
            · refine q_iload (pc := 139) rfl rfl ?_
              refine q_bipush (pc := 141) rfl (-15) (by decide) ?_
              refine q_icmpne (pc := 143) rfl (fun h143 => ?_) (fun h143 => ?_)
              · exact (q3.elim h136 h143).elim
              · refine q_iload (pc := 146) rfl rfl ?_
                refine q_goto (pc := 148) rfl ?_
                refine q_istore (pc := 155) [_, _, _, _, _, _, _, _, _] rfl (Nat.le_of_ble_eq_true rfl) rfl ?_
                refine q_iload (pc := 157) rfl rfl ?_
                refine q_iconst (pc := 159) rfl (nI 1) (by decide) ?_
                first | refine n_icmplt (pc := 160) rfl (by omega) (by omega) (fun h160 => ?_) (fun h160 => ?_) | refine q_icmplt (pc := 160) rfl (fun h160 => ?_) (fun h160 => ?_)
                · first | (exfalso; omega) | exact absurd h160 (nI_pos (by omega)) | exact absurd (nI_pos' (by omega)) h160
                · refine q_iload (pc := 163) rfl rfl ?_
                  refine q_sipush (pc := 165) rfl (nI 160) (by decide) ?_
                  first | refine n_icmpge (pc := 168) rfl (by omega) (by omega) (fun h168 => ?_) (fun h168 => ?_) | refine q_icmpge (pc := 168) rfl (fun h168 => ?_) (fun h168 => ?_)
                  · first | (exfalso; omega) | exact absurd h168 (nI_pos (by omega)) | exact absurd (nI_pos' (by omega)) h168
                  · refine q_aload_n (pc := 171) rfl rfl rfl ?_
                    refine q_getf (pc := 172) rfl (by exact HR.R H hl T.1) rfl rfl ?_
                    refine q_iload (pc := 175) rfl rfl ?_
                    refine q_iconst (pc := 177) rfl (nI 1) (by decide) ?_
                    first | refine n_isub (pc := 178) rfl (by omega) ?_ | refine q_isub (pc := 178) rfl ?_
                    rw [hlen2]
                    refine q_iload (pc := 179) rfl rfl ?_
                    refine q_aload_n (pc := 181) rfl rfl rfl ?_
                    refine q_getf (pc := 182) rfl (by exact HR.R H hl T.1) rfl rfl ?_
                    refine q_iload (pc := 185) rfl rfl ?_
                    refine q_iconst (pc := 187) rfl (nI 1) (by decide) ?_
                    first | refine n_isub (pc := 188) rfl (by omega) ?_ | refine q_isub (pc := 188) rfl ?_
                    rw [hlen2]
                    refine n_ild (pc := 189) rfl (by first | exact HR.am H hl hb hβ | exact HR.ap H hl hb hβ | exact HR.la0 H hl rfl rfl) rfl (by omega) (by omega) ?_
                    rw [hx]
                    refine q_aload_n (pc := 190) rfl rfl rfl ?_
                    refine q_getf (pc := 191) rfl (by exact HR.R H hl T.1) rfl rfl ?_
                    refine q_iload (pc := 194) rfl rfl ?_
                    refine n_ild (pc := 196) rfl (by first | exact HR.am H hl hb hβ | exact HR.ap H hl hb hβ | exact HR.la0 H hl rfl rfl) rfl (by omega) (by omega) ?_
                    refine q_callS (pc := 197) _ (by decide) rfl rfl rfl rfl (Nat.le_of_ble_eq_true rfl) (by omega) _ rfl ?_
                    refine c_joined q1 q2 ?_
                    rw [jn_un q3]
                    refine r_ist2 (pc := 200) rfl H hl rfl (fun _ => rfl) rfl (by omega) (by omega) ?_
                    intro h H
                    refine q_iload (pc := 201) rfl rfl ?_
                    refine q_istore (pc := 203) [_, _, _, _, _, _, _, _, _] rfl (Nat.le_of_ble_eq_true rfl) rfl ?_
                    first | refine n_iinc (pc := 205) rfl [_, _, _, _, _, _, _, _, _] 1 (by decide) rfl rfl ?_ | refine q_iinc (pc := 205) [_, _, _, _, _, _, _, _, _] (1) rfl rfl (by decide) rfl ?_
                    refine q_goto (pc := 208) rfl ?_
                    exact c_worthL hd hl ht hp kk n (i + 1) (by omega) (jn (C t i) x 0 :: r) (by simp only [List.length_cons] at hst ⊢; omega) e2 h _ H (T.fr (S := fun i => i = 34) (sf.rf.st rfl) (fun i hi => by omega)) (fun k' hk' => (congrFun (stv_n (by decide)) _).trans (hsd k' hk')) (hs.st rfl) ⟨stv_a, by rw [stv_s]; exact stk_up (Nat.le_refl _) hk.2⟩ _ _
          · exact absurd q2 h84
    · subst q4
      subst q5
      have hlen : (y :: x :: r).length = r.length + 2 := rfl
      have hlen1 : (y :: x :: r).length - 1 = r.length + 1 := rfl
      have hlen2 : r.length + 1 - 1 = r.length := rfl
      have hy : s 34 (r.length + 1) = y := hk.1
      have hx : s 34 r.length = x := hk.2.1
      have hl1 : (jn (C t i) x y :: r).length = r.length + 1 := rfl
      refine q_iload (pc := 50) rfl rfl ?_
      refine q_aload_n (pc := 52) rfl rfl rfl ?_
      refine q_getf (pc := 53) rfl (by exact HR.tx H ht) rfl rfl ?_
      refine q_iload_n (pc := 56) rfl rfl ?_
      refine n_ild (pc := 57) rfl (by exact hte) rfl (by omega) (by omega) ?_
      first | refine n_icmpge (pc := 58) rfl (by omega) (by omega) (fun h58 => ?_) (fun h58 => ?_) | refine q_icmpge (pc := 58) rfl (fun h58 => ?_) (fun h58 => ?_)
      · first | (exfalso; omega) | exact absurd h58 (nI_pos (by omega)) | exact absurd (nI_pos' (by omega)) h58
      · refine q_iload (pc := 61) rfl rfl ?_
        refine q_aload_n (pc := 63) rfl rfl rfl ?_
        refine q_getf (pc := 64) rfl (by exact HR.tx H ht) rfl rfl ?_
        refine q_alen (pc := 67) rfl (by exact (H.2.2.2.2.2.1 t ht).1.trans (by rw [(T.2.2 t ht).2.1])) (by decide) ?_
        first | refine n_icmpge (pc := 68) rfl (by omega) (by omega) (fun h68 => ?_) (fun h68 => ?_) | refine q_icmpge (pc := 68) rfl (fun h68 => ?_) (fun h68 => ?_)
        · first | (exfalso; omega) | exact absurd h68 (nI_pos (by omega)) | exact absurd (nI_pos' (by omega)) h68
        · refine q_aload_n (pc := 71) rfl rfl rfl ?_
          refine q_getf (pc := 72) rfl (by exact HR.tx H ht) rfl rfl ?_
          refine q_iload (pc := 75) rfl rfl ?_
          refine n_ild (pc := 77) rfl (by exact htc) rfl (by omega) (by omega) ?_
          refine q_istore (pc := 78) [_, _, _, _, _, _, _, _, _] rfl (Nat.le_of_ble_eq_true rfl) rfl ?_
          refine q_iload (pc := 80) rfl rfl ?_
          refine q_bipush (pc := 82) rfl (-6) (by decide) ?_
          refine q_icmplt (pc := 84) rfl (fun h84 => ?_) (fun h84 => ?_)
          · refine q_iload (pc := 132) rfl rfl ?_
            refine q_bipush (pc := 134) rfl (-9) (by decide) ?_
            refine q_icmpeq (pc := 136) rfl (fun h136 => ?_) (fun h136 => ?_)
            · exact absurd (Or.inl h136) q3
            · refine q_iload (pc := 139) rfl rfl ?_
              refine q_bipush (pc := 141) rfl (-15) (by decide) ?_
              refine q_icmpne (pc := 143) rfl (fun h143 => ?_) (fun h143 => ?_)
              · refine q_iload (pc := 151) rfl rfl ?_
                refine q_iconst (pc := 153) rfl (nI 1) (by decide) ?_
                first | refine n_isub (pc := 154) rfl (by omega) ?_ | refine q_isub (pc := 154) rfl ?_
                rw [hlen1]
                refine q_istore (pc := 155) [_, _, _, _, _, _, _, _, _] rfl (Nat.le_of_ble_eq_true rfl) rfl ?_
                refine q_iload (pc := 157) rfl rfl ?_
                refine q_iconst (pc := 159) rfl (nI 1) (by decide) ?_
                first | refine n_icmplt (pc := 160) rfl (by omega) (by omega) (fun h160 => ?_) (fun h160 => ?_) | refine q_icmplt (pc := 160) rfl (fun h160 => ?_) (fun h160 => ?_)
                · first | (exfalso; omega) | exact absurd h160 (nI_pos (by omega)) | exact absurd (nI_pos' (by omega)) h160
                · refine q_iload (pc := 163) rfl rfl ?_
                  refine q_sipush (pc := 165) rfl (nI 160) (by decide) ?_
                  first | refine n_icmpge (pc := 168) rfl (by omega) (by omega) (fun h168 => ?_) (fun h168 => ?_) | refine q_icmpge (pc := 168) rfl (fun h168 => ?_) (fun h168 => ?_)
                  · first | (exfalso; omega) | exact absurd h168 (nI_pos (by omega)) | exact absurd (nI_pos' (by omega)) h168
                  · refine q_aload_n (pc := 171) rfl rfl rfl ?_
                    refine q_getf (pc := 172) rfl (by exact HR.R H hl T.1) rfl rfl ?_
                    refine q_iload (pc := 175) rfl rfl ?_
                    refine q_iconst (pc := 177) rfl (nI 1) (by decide) ?_
                    first | refine n_isub (pc := 178) rfl (by omega) ?_ | refine q_isub (pc := 178) rfl ?_
                    rw [hlen2]
                    refine q_iload (pc := 179) rfl rfl ?_
                    refine q_aload_n (pc := 181) rfl rfl rfl ?_
                    refine q_getf (pc := 182) rfl (by exact HR.R H hl T.1) rfl rfl ?_
                    refine q_iload (pc := 185) rfl rfl ?_
                    refine q_iconst (pc := 187) rfl (nI 1) (by decide) ?_
                    first | refine n_isub (pc := 188) rfl (by omega) ?_ | refine q_isub (pc := 188) rfl ?_
                    rw [hlen2]
                    refine n_ild (pc := 189) rfl (by first | exact HR.am H hl hb hβ | exact HR.ap H hl hb hβ | exact HR.la0 H hl rfl rfl) rfl (by omega) (by omega) ?_
                    rw [hx]
                    refine q_aload_n (pc := 190) rfl rfl rfl ?_
                    refine q_getf (pc := 191) rfl (by exact HR.R H hl T.1) rfl rfl ?_
                    refine q_iload (pc := 194) rfl rfl ?_
                    refine n_ild (pc := 196) rfl (by first | exact HR.am H hl hb hβ | exact HR.ap H hl hb hβ | exact HR.la0 H hl rfl rfl) rfl (by omega) (by omega) ?_
                    rw [hy]
                    refine q_callS (pc := 197) _ (by decide) rfl rfl rfl rfl (Nat.le_of_ble_eq_true rfl) (by omega) _ rfl ?_
                    refine c_joined q1 q2 ?_
                    refine r_ist2 (pc := 200) rfl H hl rfl (fun _ => rfl) rfl (by omega) (by omega) ?_
                    intro h H
                    refine q_iload (pc := 201) rfl rfl ?_
                    refine q_istore (pc := 203) [_, _, _, _, _, _, _, _, _] rfl (Nat.le_of_ble_eq_true rfl) rfl ?_
                    first | refine n_iinc (pc := 205) rfl [_, _, _, _, _, _, _, _, _] 1 (by decide) rfl rfl ?_ | refine q_iinc (pc := 205) [_, _, _, _, _, _, _, _, _] (1) rfl rfl (by decide) rfl ?_
                    refine q_goto (pc := 208) rfl ?_
                    exact c_worthL hd hl ht hp kk n (i + 1) (by omega) (jn (C t i) x y :: r) (by simp only [List.length_cons] at hst ⊢; omega) e2 h _ H (T.fr (S := fun i => i = 34) (sf.rf.st rfl) (fun i hi => by omega)) (fun k' hk' => (congrFun (stv_n (by decide)) _).trans (hsd k' hk')) (hs.st rfl) ⟨stv_a, by rw [stv_s]; exact stk_up (Nat.le_refl _) hk.2.2⟩ _ _
              · exact absurd (Or.inr h143) q3
          · exact absurd q2 h84
termination_by n
theorem c_worth (hd : 1 ≤ d) (hl : 51 ≤ P.1) (H : HR P h s) (T : TB P s C E) (ht : t < P.2.1) (hp : part < 3) {sd : Nat → Int32} (hsd : ∀ k, k < 6 → s 33 k = sd k) (kk : ∀ h' s', HR P h' s' → sf s s' (fun i => i = 34) → Q (some (.int (tvl sd (C t) (pst (E t) part) (E t part)))) h') : wc d 54 [.ref 31, .int (nI t), .int (nI part)] h Q := by
  obtain ⟨w, hw⟩ := (T.2.2 t ht).2.2.2.2 part hp sd
  have hv : tvl sd (C t) (pst (E t) part) (E t part) = w := by unfold tvl; rw [hw]
  rw [hv] at kk
  have hte := HR.te H T ht
  obtain ⟨hE1, hE2, hE3⟩ := (T.2.2 t ht).2.2.2.1
  have hpE : pst (E t) part ≤ E t part := by
    have e : part = 0 ∨ part = 1 ∨ part = 2 := by omega
    rcases e with rfl | rfl | rfl
    · exact Nat.zero_le _
    · exact hE1
    · exact hE2
  have hpE2 : pst (E t) part ≤ 160 := by
    have e : part = 0 ∨ part = 1 ∨ part = 2 := by omega
    rcases e with rfl | rfl | rfl
    · exact Nat.zero_le _
    · show E t 0 ≤ 160; omega
    · show E t 1 ≤ 160; omega
  have t37 : wq d 54 37 [some (.ref 31), some (.int (nI t)), some (.int (nI part)), some (.ref (tid t + 1)), none, none, none, none, none] [.int (nI (pst (E t) part))] h Q := by
    refine q_istore (pc := 37) [_, _, _, _, _, _, _, _, _] rfl (Nat.le_of_ble_eq_true rfl) rfl ?_
    refine q_iconst (pc := 39) rfl (nI 0) (by decide) ?_
    refine q_istore (pc := 40) [_, _, _, _, _, _, _, _, _] rfl (Nat.le_of_ble_eq_true rfl) rfl ?_
    refine q_iload (pc := 42) rfl rfl ?_
    refine q_iconst (pc := 44) rfl (nI 0) (by decide) ?_
    first | refine n_max (pc := 45) rfl rfl (by omega) (by omega) ?_ | refine q_max (pc := 45) rfl rfl ?_
    rw [show max (pst (E t) part) 0 = pst (E t) part by omega]
    refine q_istore (pc := 48) [_, _, _, _, _, _, _, _, _] rfl (Nat.le_of_ble_eq_true rfl) rfl ?_
    exact c_worthL hd hl ht hp kk (E t part - pst (E t) part) (pst (E t) part) (by omega) [] (Nat.zero_le _) hw h s H T hsd sf.rf trivial _ _
  refine wc.go [_, _, _, _, _, _, _, _, _] rfl ?_
  refine q_aload_n (pc := 0) rfl rfl rfl ?_
  refine q_iload_n (pc := 1) rfl rfl ?_
  refine q_callV (pc := 2) _ rfl rfl rfl (by exact HR.R H hl T.1) rfl (Nat.le_of_ble_eq_true rfl) (by omega) _ rfl ?_
  refine c_textAt H hl T.1 T.2.1 (fun j hj hx => ?_) (fun g => ?_)
  · obtain rfl : t = j := x_eq hx (by have := T.2.1; omega) (by have := T.2.1; omega)
    refine q_astore_n (pc := 5) [_, _, _, _, _, _, _, _, _] rfl rfl (Nat.le_of_ble_eq_true rfl) rfl ?_
    refine q_aload_n (pc := 6) rfl rfl rfl ?_
    refine q_ifnull (pc := 7) rfl ?_
    refine q_iload_n (pc := 10) rfl rfl ?_
    refine q_iflt (pc := 11) rfl (fun h11 => ?_) (fun h11 => ?_)
    · first | (exfalso; omega) | exact absurd h11 (nI_pos (by omega)) | exact absurd (nI_pos' (by omega)) h11
    · refine q_iload_n (pc := 14) rfl rfl ?_
      refine q_iconst (pc := 15) rfl (nI 3) (by decide) ?_
      first | refine n_icmplt (pc := 16) rfl (by omega) (by omega) (fun h16 => ?_) (fun h16 => ?_) | refine q_icmplt (pc := 16) rfl (fun h16 => ?_) (fun h16 => ?_)
      · refine q_iload_n (pc := 21) rfl rfl ?_
        first | refine n_ifne (pc := 22) rfl (by omega) (fun h22 => ?_) (fun h22 => ?_) | refine q_ifne (pc := 22) rfl (fun h22 => ?_) (fun h22 => ?_)
        · refine q_aload_n (pc := 29) rfl rfl rfl ?_
          refine q_getf (pc := 30) rfl (by exact HR.tx H ht) rfl rfl ?_
          refine q_iload_n (pc := 33) rfl rfl ?_
          refine q_iconst (pc := 34) rfl (nI 1) (by decide) ?_
          first | refine n_isub (pc := 35) rfl (by omega) ?_ | refine q_isub (pc := 35) rfl ?_
          refine n_ild (pc := 36) rfl (by exact hte) rfl (by omega) (by omega) ?_
          first | (rw [pst, if_pos h22] at t37; exact t37) | (rw [pst, if_neg h22] at t37; exact t37)
        · refine q_iconst (pc := 25) rfl (nI 0) (by decide) ?_
          refine q_goto (pc := 26) rfl ?_
          first | (rw [pst, if_pos h22] at t37; exact t37) | (rw [pst, if_neg h22] at t37; exact t37)
      · first | (exfalso; omega) | exact absurd h16 (nI_pos (by omega)) | exact absurd (nI_pos' (by omega)) h16
  · exact (x_out ht (by have := T.2.1; omega) g).elim
theorem scr_B (hb : isB b) {S : Nat → Prop} (hS : ∀ i, S i → 33 ≤ i ∧ i < 42) : ∀ i, b ≤ i → i < b + 8 → ¬ S i := fun i g1 g2 z => by have := hS i z; unfold isB at hb; omega
theorem c_takesOf (hd : 2 ≤ d) (H : HR P h s) (hl : 51 ≤ P.1) (hb : isB b) (hβ : BT s b β) (T : TB P s C E) (hk : bok β P.2.1) (hp : p < 4) (hc : c < 36) (kk : ∀ h' s', HR P h' s' → sf s s' (fun i => 33 ≤ i ∧ i < 36) → Q (some (.int (nI (tkN C E β p c)))) h') : wc d 46 [.ref 31, .ref b, .ref (b + 4 + p), .int (nI c)] h Q := by
  have hk1 := hk.2.1 p hp
  have hk2 := hk.1 (36 + c) (by omega)
  have hR := hk.2.2.2.2
  have hv : bdN 0 99 (vtN C E β (β 90) 0 (β (36 + c)) (β (72 + 4 * p + 1)) c) ≤ 99 := (bdN_le (by decide)).2
  have hv2 := tkb_le (kind := β (72 + 4 * p)) (num := β (72 + 4 * p + 1)) (plan := β (36 + c)) hv hk1.2.1
  refine wc.go [_, _, _, _, _, _] rfl ?_
  refine q_aload_n (pc := 0) rfl rfl rfl ?_
  refine q_iload_n (pc := 1) rfl rfl ?_
  refine q_callV (pc := 2) _ rfl rfl rfl (by exact HR.B H hl hb hβ) rfl (Nat.le_of_ble_eq_true rfl) (by omega) _ rfl ?_
  refine c_planOf (by omega) H hl hb hβ (by omega) ?_
  refine q_istore (pc := 5) [_, _, _, _, _, _] rfl (Nat.le_of_ble_eq_true rfl) rfl ?_
  refine q_aload_n (pc := 7) rfl rfl rfl ?_
  refine q_aload_n (pc := 8) rfl rfl rfl ?_
  refine q_iload_n (pc := 9) rfl rfl ?_
  refine q_iload (pc := 10) rfl rfl ?_
  refine q_aload_n (pc := 12) rfl rfl rfl ?_
  refine q_getf (pc := 13) rfl (by exact HR.O H hl hb hβ hp) rfl rfl ?_
  refine q_callV (pc := 16) _ rfl rfl rfl (by exact HR.R H hl T.1) rfl (Nat.le_of_ble_eq_true rfl) (by omega) _ rfl ?_
  refine c_say (by omega) H hl hb hβ hk.1 hc ?_
  intro h s1 H k1 k2
  have hβ := hβ.fr k1 (scr_B hb (fun i e => by omega))
  have T := T.fr k1 (fun i e => by omega)
  refine q_aload_n (pc := 19) rfl rfl rfl ?_
  refine q_aload_n (pc := 20) rfl rfl rfl ?_
  refine q_getf (pc := 21) rfl (by exact HR.B H hl hb hβ) rfl rfl ?_
  refine q_iconst (pc := 24) rfl (nI 0) (by decide) ?_
  refine q_callV (pc := 25) _ rfl rfl rfl (by exact HR.R H hl T.1) rfl (Nat.le_of_ble_eq_true rfl) (by omega) _ rfl ?_
  refine c_worth (by omega) hl H T hR (by decide) k2 ?_
  intro h s2 H k3
  have hβ := hβ.fr k3 (scr_B hb (fun i e => by omega))
  rw [show tvl (sdv β c (β (36 + c)) (β (72 + 4 * p + 1))) (C (β 90)) (pst (E (β 90)) 0) (E (β 90) 0) = vtN C E β (β 90) 0 (β (36 + c)) (β (72 + 4 * p + 1)) c from rfl]
  refine q_iconst (pc := 28) rfl (nI 0) (by decide) ?_
  refine q_bipush (pc := 29) rfl (nI 99) (by decide) ?_
  refine q_callS (pc := 31) _ (by decide) rfl rfl rfl rfl (Nat.le_of_ble_eq_true rfl) (by omega) _ rfl ?_
  refine c_boundX (by decide) (by decide) ?_
  refine q_istore (pc := 34) [_, _, _, _, _, _] rfl (Nat.le_of_ble_eq_true rfl) rfl ?_
  refine q_aload_n (pc := 36) rfl rfl rfl ?_
  refine q_iload (pc := 37) rfl rfl ?_
  refine q_iload (pc := 39) rfl rfl ?_
  refine q_callV (pc := 41) _ rfl rfl rfl (by exact HR.O H hl hb hβ hp) rfl (Nat.le_of_ble_eq_true rfl) (by omega) _ rfl ?_
  refine c_takesBy H hl hb hβ hp hk hv hk2 ?_
  refine q_iconst (pc := 44) rfl (nI 1) (by decide) ?_
  refine q_bipush (pc := 45) rfl (nI 99) (by decide) ?_
  refine q_callS (pc := 47) _ (by decide) rfl rfl rfl rfl (Nat.le_of_ble_eq_true rfl) (by omega) _ rfl ?_
  refine c_boundX (by decide) (by decide) ?_
  rw [bdN_n (by omega)]
  refine q_iret (pc := 50) rfl (rfl) ?_
  exact kk _ _ H ((k1.mono (fun i e => by omega)).tr (k3.mono (fun i e => by omega)))
theorem c_laysOf (hd : 2 ≤ d) (H : HR P h s) (hl : 51 ≤ P.1) (hb : isB b) (hβ : BT s b β) (T : TB P s C E) (hk : bok β P.2.1) (hp : p < 4) (hc : c < 36) (kk : ∀ h' s', HR P h' s' → sf s s' (fun i => 33 ≤ i ∧ i < 36) → Q (some (.int (nI (lyN C E β p c)))) h') : wc d 47 [.ref 31, .ref b, .ref (b + 4 + p), .int (nI c)] h Q := by
  have hk1 := hk.2.1 p hp
  have hk2 := hk.1 (36 + c) (by omega)
  have hR := hk.2.2.2.2
  have hv : bdN 0 9 (vtN C E β (β 90) 1 (β (36 + c)) (β (72 + 4 * p + 1)) c) ≤ 9 := (bdN_le (by decide)).2
  have hv2 := lyb_le (kind := β (72 + 4 * p)) (num := β (72 + 4 * p + 1)) (plan := β (36 + c)) (c := c) hv hk2
  refine wc.go [_, _, _, _, _, _] rfl ?_
  refine q_aload_n (pc := 0) rfl rfl rfl ?_
  refine q_iload_n (pc := 1) rfl rfl ?_
  refine q_callV (pc := 2) _ rfl rfl rfl (by exact HR.B H hl hb hβ) rfl (Nat.le_of_ble_eq_true rfl) (by omega) _ rfl ?_
  refine c_planOf (by omega) H hl hb hβ (by omega) ?_
  refine q_istore (pc := 5) [_, _, _, _, _, _] rfl (Nat.le_of_ble_eq_true rfl) rfl ?_
  refine q_aload_n (pc := 7) rfl rfl rfl ?_
  refine q_aload_n (pc := 8) rfl rfl rfl ?_
  refine q_iload_n (pc := 9) rfl rfl ?_
  refine q_iload (pc := 10) rfl rfl ?_
  refine q_aload_n (pc := 12) rfl rfl rfl ?_
  refine q_getf (pc := 13) rfl (by exact HR.O H hl hb hβ hp) rfl rfl ?_
  refine q_callV (pc := 16) _ rfl rfl rfl (by exact HR.R H hl T.1) rfl (Nat.le_of_ble_eq_true rfl) (by omega) _ rfl ?_
  refine c_say (by omega) H hl hb hβ hk.1 hc ?_
  intro h s1 H k1 k2
  have hβ := hβ.fr k1 (scr_B hb (fun i e => by omega))
  have T := T.fr k1 (fun i e => by omega)
  refine q_aload_n (pc := 19) rfl rfl rfl ?_
  refine q_aload_n (pc := 20) rfl rfl rfl ?_
  refine q_getf (pc := 21) rfl (by exact HR.B H hl hb hβ) rfl rfl ?_
  refine q_iconst (pc := 24) rfl (nI 1) (by decide) ?_
  refine q_callV (pc := 25) _ rfl rfl rfl (by exact HR.R H hl T.1) rfl (Nat.le_of_ble_eq_true rfl) (by omega) _ rfl ?_
  refine c_worth (by omega) hl H T hR (by decide) k2 ?_
  intro h s2 H k3
  have hβ := hβ.fr k3 (scr_B hb (fun i e => by omega))
  rw [show tvl (sdv β c (β (36 + c)) (β (72 + 4 * p + 1))) (C (β 90)) (pst (E (β 90)) 1) (E (β 90) 1) = vtN C E β (β 90) 1 (β (36 + c)) (β (72 + 4 * p + 1)) c from rfl]
  refine q_iconst (pc := 28) rfl (nI 0) (by decide) ?_
  refine q_bipush (pc := 29) rfl (nI 9) (by decide) ?_
  refine q_callS (pc := 31) _ (by decide) rfl rfl rfl rfl (Nat.le_of_ble_eq_true rfl) (by omega) _ rfl ?_
  refine c_boundX (by decide) (by decide) ?_
  refine q_istore (pc := 34) [_, _, _, _, _, _] rfl (Nat.le_of_ble_eq_true rfl) rfl ?_
  refine q_aload_n (pc := 36) rfl rfl rfl ?_
  refine q_iload (pc := 37) rfl rfl ?_
  refine q_iload (pc := 39) rfl rfl ?_
  refine q_iload_n (pc := 41) rfl rfl ?_
  refine q_callV (pc := 42) _ rfl rfl rfl (by exact HR.O H hl hb hβ hp) rfl (Nat.le_of_ble_eq_true rfl) (by omega) _ rfl ?_
  refine c_laysBy H hl hb hβ hp hk hv hk2 hc ?_
  refine q_iconst (pc := 45) rfl (nI 0) (by decide) ?_
  refine q_bipush (pc := 46) rfl (nI 9) (by decide) ?_
  refine q_callS (pc := 48) _ (by decide) rfl rfl rfl rfl (Nat.le_of_ble_eq_true rfl) (by omega) _ rfl ?_
  refine c_boundX (by decide) (by decide) ?_
  rw [bdN_n (by omega), show max 0 (min (lyb (β (72 + 4 * p)) (β (72 + 4 * p + 1)) (bdN 0 9 (vtN C E β (β 90) 1 (β (36 + c)) (β (72 + 4 * p + 1)) c)) (β (36 + c)) c) 9) = lyN C E β p c from by unfold lyN lyG; omega]
  refine q_iret (pc := 51) rfl (rfl) ?_
  exact kk _ _ H ((k1.mono (fun i e => by omega)).tr (k3.mono (fun i e => by omega)))
theorem c_leftOf (hd : 2 ≤ d) (H : HR P h s) (hl : 51 ≤ P.1) (hb : isB b) (hβ : BT s b β) (T : TB P s C E) (hk : bok β P.2.1) (hc : c < 36) (kk : ∀ h' s', HR P h' s' → sf s s' (fun i => 33 ≤ i ∧ i < 35) → Q (some (.int (nI (lfG C E β (β 90) c)))) h') : wc d 48 [.ref 31, .ref b, .int (nI c)] h Q := by
  have hR := hk.2.2.2.2
  refine wc.go [_, _, _] rfl ?_
  refine q_aload_n (pc := 0) rfl rfl rfl ?_
  refine q_aload_n (pc := 1) rfl rfl rfl ?_
  refine q_iload_n (pc := 2) rfl rfl ?_
  refine q_iload_n (pc := 3) rfl rfl ?_
  refine q_callS (pc := 4) _ (by decide) rfl rfl rfl rfl (Nat.le_of_ble_eq_true rfl) (by omega) _ rfl ?_
  refine c_cellN (by omega) ?_
  · refine q_ifeq (pc := 7) rfl (fun z => absurd z (by decide)) (fun _ => ?_)
    refine q_aload_n (pc := 10) rfl rfl rfl ?_
    refine q_getf (pc := 11) rfl (by exact HR.B H hl hb hβ) rfl rfl ?_
    refine q_iload_n (pc := 14) rfl rfl ?_
    refine n_ild (pc := 15) rfl (by first | exact HR.am H hl hb hβ | exact HR.ap H hl hb hβ | exact HR.la0 H hl rfl rfl) rfl (by omega) (by omega) ?_
    refine q_goto (pc := 16) rfl ?_
    refine q_iconst (pc := 20) rfl (nI 0) (by decide) ?_
    refine q_callV (pc := 21) _ rfl rfl rfl (by exact HR.R H hl T.1) rfl (Nat.le_of_ble_eq_true rfl) (by omega) _ rfl ?_
    refine c_say (by omega) H hl hb hβ hk.1 hc ?_
    intro h s1 H k1 k2
    have hβ := hβ.fr k1 (scr_B hb (fun i e => by omega))
    have T := T.fr k1 (fun i e => by omega)
    refine q_aload_n (pc := 24) rfl rfl rfl ?_
    refine q_aload_n (pc := 25) rfl rfl rfl ?_
    refine q_getf (pc := 26) rfl (by exact HR.B H hl hb hβ) rfl rfl ?_
    refine q_iconst (pc := 29) rfl (nI 2) (by decide) ?_
    refine q_callV (pc := 30) _ rfl rfl rfl (by exact HR.R H hl T.1) rfl (Nat.le_of_ble_eq_true rfl) (by omega) _ rfl ?_
    refine c_worth (by omega) hl H T hR (by decide) k2 ?_
    intro h s2 H k3
    rw [show tvl (sdv β c (β c) 0) (C (β 90)) (pst (E (β 90)) 2) (E (β 90) 2) = vtN C E β (β 90) 2 (β c) 0 c from rfl]
    refine q_iconst (pc := 33) rfl (nI 0) (by decide) ?_
    refine q_bipush (pc := 34) rfl (nI 9) (by decide) ?_
    refine q_callS (pc := 36) _ (by decide) rfl rfl rfl rfl (Nat.le_of_ble_eq_true rfl) (by omega) _ rfl ?_
    refine c_boundX (by decide) (by decide) ?_
    refine q_iret (pc := 39) rfl (rfl) ?_
    exact kk _ _ H ((k1.mono (fun i e => by omega)).tr (k3.mono (fun i e => by omega)))
theorem c_minutesOf (hd : 3 ≤ d) (H : HR P h s) (hl : 51 ≤ P.1) (hb : isB b) (hβ : BT s b β) (T : TB P s C E) (hk : bok β P.2.1) (hp : p < 4) (hc : c < 36) (kk : ∀ h' s', HR P h' s' → sf s s' (fun i => 33 ≤ i ∧ i < 36) → Q (some (.int (nI (mnN C E β p c)))) h') : wc d 49 [.ref 31, .ref b, .ref (b + 4 + p), .int (nI c)] h Q := by
  have hk1 := hk.2.1 p hp
  refine wc.go [_, _, _, _] rfl ?_
  refine q_aload_n (pc := 0) rfl rfl rfl ?_
  refine q_getf (pc := 1) rfl (by exact HR.O H hl hb hβ hp) rfl rfl ?_
  refine q_iload_n (pc := 4) rfl rfl ?_
  refine q_callS (pc := 5) _ (by decide) rfl rfl rfl rfl (Nat.le_of_ble_eq_true rfl) (by omega) _ rfl ?_
  refine c_apart (by omega) (by omega) ?_
  refine q_aload_n (pc := 8) rfl rfl rfl ?_
  refine q_aload_n (pc := 9) rfl rfl rfl ?_
  refine q_aload_n (pc := 10) rfl rfl rfl ?_
  refine q_iload_n (pc := 11) rfl rfl ?_
  refine q_callV (pc := 12) _ rfl rfl rfl (by exact HR.R H hl T.1) rfl (Nat.le_of_ble_eq_true rfl) (by omega) _ rfl ?_
  refine c_takesOf (by omega) H hl hb hβ T hk hp hc ?_
  intro h s1 H k1
  first | refine n_iadd (pc := 15) rfl ?_ | refine q_iadd (pc := 15) rfl ?_
  refine q_iret (pc := 16) rfl (rfl) ?_
  exact kk _ _ H k1
theorem c_lay (hd : 3 ≤ d) (H : HR P h s) (hl : 51 ≤ P.1) (hb : isB b) (hβ : BT s b β) (T : TB P s C E) (hk : bok β P.2.1) (hp : p < 4) (hc : c < 36) (kk : ∀ h' s', HR P h' s' → BT s' b (layb C E β p c) → TB P s' C E → sf s s' (fun i => (b ≤ i ∧ i < b + 8) ∨ (33 ≤ i ∧ i < 36)) → Q (some (.int (nI (mnN C E β p c)))) h') : wc d 50 [.ref 31, .ref b, .ref (b + 4 + p), .int (nI c)] h Q := by
  have hk1 := hk.2.1 p hp
  have hb4 : b ≤ 17 := by unfold isB at hb; omega
  refine wc.go [_, _, _, _, _] rfl ?_
  refine q_iload_n (pc := 0) rfl rfl ?_
  refine q_callS (pc := 1) _ (by decide) rfl rfl rfl rfl (Nat.le_of_ble_eq_true rfl) (by omega) _ rfl ?_
  refine c_cellN (by omega) ?_
  · refine q_ifne (pc := 4) rfl (fun _ => ?_) (fun z => absurd z (by decide))
    refine q_aload_n (pc := 9) rfl rfl rfl ?_
    refine q_getf (pc := 10) rfl (by exact HR.O H hl hb hβ hp) rfl rfl ?_
    refine q_iload_n (pc := 13) rfl rfl ?_
    refine q_callS (pc := 14) _ (by decide) rfl rfl rfl rfl (Nat.le_of_ble_eq_true rfl) (by omega) _ rfl ?_
    refine c_apart (by omega) (by omega) ?_
    refine q_aload_n (pc := 17) rfl rfl rfl ?_
    refine q_aload_n (pc := 18) rfl rfl rfl ?_
    refine q_aload_n (pc := 19) rfl rfl rfl ?_
    refine q_iload_n (pc := 20) rfl rfl ?_
    refine q_callV (pc := 21) _ rfl rfl rfl (by exact HR.R H hl T.1) rfl (Nat.le_of_ble_eq_true rfl) (by omega) _ rfl ?_
    refine c_takesOf (by omega) H hl hb hβ T hk hp hc ?_
    intro h s1 H k1
    have hβ := hβ.fr k1 (scr_B hb (fun i e => e.imp (by omega) (by omega)))
    have T := T.fr k1 (fun i e => by omega)
    first | refine n_iadd (pc := 24) rfl ?_ | refine q_iadd (pc := 24) rfl ?_
    refine q_istore (pc := 25) [_, _, _, _, _] rfl (Nat.le_of_ble_eq_true rfl) rfl ?_
    refine q_aload_n (pc := 27) rfl rfl rfl ?_
    refine q_getf (pc := 28) rfl (by exact HR.B H hl hb hβ) rfl rfl ?_
    refine q_iload_n (pc := 31) rfl rfl ?_
    refine q_aload_n (pc := 32) rfl rfl rfl ?_
    refine q_aload_n (pc := 33) rfl rfl rfl ?_
    refine q_aload_n (pc := 34) rfl rfl rfl ?_
    refine q_iload_n (pc := 35) rfl rfl ?_
    refine q_callV (pc := 36) _ rfl rfl rfl (by exact HR.R H hl T.1) rfl (Nat.le_of_ble_eq_true rfl) (by omega) _ rfl ?_
    refine c_laysOf (by omega) H hl hb hβ T hk hp hc ?_
    intro h s2 H k2
    have hβ := hβ.fr k2 (scr_B hb (fun i e => e.imp (by omega) (by omega)))
    have T := T.fr k2 (fun i e => by omega)
    refine r_ist2 (pc := 39) rfl H hl (okB1 hb) (ecB1 hb) rfl (by omega) (by omega) ?_
    intro h H
    have hβ := BT.pt (v := lyN C E β p c) (c := b + 1) (i := c) hβ (Or.inl ⟨rfl, hc, rfl⟩)
    refine q_aload_n (pc := 40) rfl rfl rfl ?_
    refine q_iload_n (pc := 41) rfl rfl ?_
    refine r_pf2 (pc := 42) (i := 2) rfl H hl (okO hb hp) (ecO hb hp _) rfl rfl (Nat.le_of_ble_eq_true rfl) rfl (ecO hb hp _) ?_
    intro h H
    have hβ := BT.pt (v := c) (c := b + 4 + p) (i := 2) hβ (Or.inr (Or.inr (Or.inl ⟨_, hp, rfl, by decide, rfl⟩)))
    refine q_aload_n (pc := 45) rfl rfl rfl ?_
    refine q_aload_n (pc := 46) rfl rfl rfl ?_
    refine q_getf (pc := 47) rfl (by exact HR.O H hl hb hβ hp) rfl rfl ?_
    rw [upN_n (by omega), upN_n (by omega)]
    refine q_iconst (pc := 50) rfl (nI 1) (by decide) ?_
    first | refine n_iadd (pc := 51) rfl ?_ | refine q_iadd (pc := 51) rfl ?_
    refine q_sipush (pc := 52) rfl (nI 9999) (by decide) ?_
    first | refine n_min (pc := 55) rfl rfl (by omega) (by omega) ?_ | refine q_min (pc := 55) rfl rfl ?_
    refine r_pf2 (pc := 58) (i := 3) rfl H hl (okO hb hp) (ecO hb hp _) rfl rfl (Nat.le_of_ble_eq_true rfl) rfl (ecO hb hp _) ?_
    intro h H
    have hβ := BT.pt (v := min (β (72 + 4 * p + 3) + 1) 9999) (c := b + 4 + p) (i := 3) hβ (Or.inr (Or.inr (Or.inl ⟨_, hp, rfl, by decide, rfl⟩)))
    refine q_iload (pc := 61) rfl rfl ?_
    refine q_iret (pc := 63) rfl (rfl) ?_
    exact kk _ _ H hβ (T.fr (S := fun i => b ≤ i ∧ i < b + 8) (((sf.rf.st (by omega)).st (by omega)).st (by omega)) (fun i e => by omega)) ((((((k1.mono (fun i e => by omega)).tr (k2.mono (fun i e => by omega)))).st (by omega)).st (by omega)).st (by omega))
end P25
