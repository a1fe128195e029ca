/-! ===== the reference: takes, lays, minutes, tides, nights ===== -/
section P49
variable {d k pc a i j c p b t n m part q : Nat} {v : Int} {L L' : mx_L} {st r : List Value} {P : mx_Pm} {h : mx_H} {s : mx_St} {Q : Option Value → mx_H → Prop} {x y w z u : Int32} {β κ : Nat → Nat} {C : Nat → Nat → Int32} {E : Nat → Nat → Nat} {ik tz : Nat} {tp : Nat → Nat} {σ : Nat → Int32} {sz : Nat → Nat} {cl : Nat → Nat → Int32}
def gf (S F : Nat → Prop) (s s' : mx_St) : Prop := sf s s' S ∧ ∀ j, ¬ F j → s' 54 j = s 54 j
theorem gf.rf {S F : Nat → Prop} {s : mx_St} : gf S F s s := ⟨sf.rf, fun _ _ => rfl⟩
theorem gf.tr {S F : Nat → Prop} {s s1 s2 : mx_St} (a : gf S F s s1) (b : gf S F s1 s2) : gf S F s s2 := ⟨a.1.tr b.1, fun j hj => (b.2 j hj).trans (a.2 j hj)⟩
theorem gf.mono {S F S' F' : Nat → Prop} {s s1 : mx_St} (a : gf S F s s1) (h1 : ∀ i, S i → S' i) (h2 : ∀ i, F i → F' i) : gf S' F' s s1 := ⟨a.1.mono h1, fun j hj => a.2 j (fun z => hj (h2 j z))⟩
theorem gf.mf {S F : Nat → Prop} {s s1 : mx_St} (a : gf S F s s1) (h1 : ∀ i, S i → mS i) (h2 : ¬ F 3 ∧ ¬ F 5 ∧ ¬ F 12) : mf s s1 := ⟨a.1.mono h1, a.2 3 h2.1, a.2 5 h2.2.1, a.2 12 h2.2.2⟩
theorem gf.wr {S F : Nat → Prop} {s : mx_St} {b j : Nat} {v : Int32} (hb : S b) (hj : b ≠ 54) : gf S F s (stv s b j v) := ⟨sf.rf.st hb, fun _ _ => congrFun (stv_n (Ne.symm hj)) _⟩
theorem gf.fd {S F : Nat → Prop} {s : mx_St} {j : Nat} {v : Int32} (hb : S 54) (hj : F j) : gf S F s (stv s 54 j v) := ⟨sf.rf.st hb, fun i hi => stv_o (fun e => hi (by rw [e]; exact hj))⟩
theorem gf.of {S F : Nat → Prop} {s s1 : mx_St} {S' : Nat → Prop} (a : sf s s1 S') (h : ∀ i, S' i → S i) (h54 : ¬ S' 54) : gf S F s s1 := ⟨a.mono h, fun j _ => congrFun (a 54 h54) j⟩
def tS (i : Nat) : Prop := i = 54 ∨ i = 63
def tF (i : Nat) : Prop := 18 ≤ i ∧ i ≤ 20
theorem tf_gf {s s1 : mx_St} (a : tf s s1) : gf tS tF s s1 := ⟨a.1, fun j hj => a.2 j (by unfold tF at hj; omega)⟩
theorem tkb_eq {p m v pl : Nat} : tkb p m v pl = tkb p m v pl := rfl
theorem m_takes {p m t n : Nat} (hd : 4 ≤ d) (H : HR P h s) (hl : 75 ≤ P.1) (N : NW s β) (T : MT s n C E) (ht : t < n) (hk : ∀ i, i < 72 → β i ≤ 9) (tk : TKN s p m t) (hp : p ≤ 5) (hm : m ≤ 9) (hc : c < 36) (kk : ∀ h' s', HR P h' s' → sf s s' (fun i => i = 63) → Q (some (.int (nI (tkG C E β p m t c)))) h') : wc d 169 [.ref 54, .int (nI c)] h Q := by
  have hb1 := hk (36 + c) (by omega)
  have hbd := bdN_le (lo := 0) (hi := 99) (x := vtN C E β t 0 (β (36 + c)) m c) (by decide)
  unfold tkG at kk
  refine wc.go [_, _, _, _] rfl ?_
  refine q_aload_n (pc := 0) rfl rfl rfl ?_
  refine q_iconst (pc := 1) rfl (nI 0) (by decide) ?_
  refine q_iload_n (pc := 2) rfl rfl ?_
  refine q_callV (pc := 3) _ rfl rfl rfl (by exact HR.c H hl _ rfl) rfl (Nat.le_of_ble_eq_true rfl) (by omega) _ rfl ?_
  refine m_tell (by omega) H hl N T ht tk.2.2 (by decide) hc hk (mark := β (36 + c)) (num := m) rfl (fun _ => tk.2.1) (fun z => absurd z (by decide)) hm ?_
  intro h s1 H k1
  have N := N.fr k1 (by decide)
  have tk := tk.fr k1
  refine q_iconst (pc := 6) rfl (nI 0) (by decide) ?_
  refine q_bipush (pc := 7) rfl (nI 99) (by decide) ?_
  refine q_callS (pc := 9) _ (by decide) rfl rfl rfl rfl (Nat.le_of_ble_eq_true rfl) (by omega) _ rfl ?_
  refine m_boundX (lo := 0) (hi := 99) (by decide) (by decide) ?_
  refine q_istore_n (pc := 12) [_, _, _, _] rfl (Nat.le_of_ble_eq_true rfl) rfl ?_
  refine q_aload_n (pc := 13) rfl rfl rfl ?_
  refine q_getf (pc := 14) rfl (by exact HR.c H hl _ rfl) rfl rfl ?_
  refine q_bipush (pc := 17) rfl (nI 36) (by decide) ?_
  refine q_iload_n (pc := 19) rfl rfl ?_
  first | refine n_iadd (pc := 20) rfl ?_ | refine q_iadd (pc := 20) rfl ?_
  refine n_ild (pc := 21) rfl (by first | exact HR.la H hl rfl rfl N | exact HR.la0 H hl rfl rfl) rfl (by omega) (by omega) ?_
  refine q_istore_n (pc := 22) [_, _, _, _] rfl (Nat.le_of_ble_eq_true rfl) rfl ?_
  refine q_aload_n (pc := 23) rfl rfl rfl ?_
  refine q_getf (pc := 24) rfl (by exact HR.c H hl _ rfl) rfl rfl ?_
  rw [tk.1]
  generalize bdN 0 99 (vtN C E β t 0 (β (36 + c)) m c) = v at *
  rcases p6 (show p < 6 by omega) with rfl | rfl | rfl | rfl | rfl | rfl
  · refine q_tsw (pc := 27) (t := 118) rfl (by decide) ?_
    refine q_iload_n (pc := 118) rfl rfl ?_
    refine q_iconst (pc := 119) rfl (nI 1) (by decide) ?_
    refine q_bipush (pc := 120) rfl (nI 99) (by decide) ?_
    refine q_callS (pc := 122) _ (by decide) rfl rfl rfl rfl (Nat.le_of_ble_eq_true rfl) (by omega) _ rfl ?_
    refine m_boundX (lo := 1) (hi := 99) (by decide) (by decide) ?_
    rw [bdN_n (by omega)]
    refine q_iret (pc := 125) rfl (rfl) ?_
    refine eqQ ?_ (kk _ _ H k1)
    first
    | rfl
    | (unfold tkb
       congr 1
       (repeat' split) <;> first | rfl | omega)
  · refine q_tsw (pc := 27) (t := 60) rfl (by decide) ?_
    refine q_iload_n (pc := 60) rfl rfl ?_
    refine q_iconst (pc := 61) rfl (nI 2) (by decide) ?_
    first | refine n_idiv (pc := 62) rfl (by omega) (by omega) (by omega) ?_ | refine q_idiv (pc := 62) rfl (by decide) ?_
    refine q_istore_n (pc := 63) [_, _, _, _] rfl (Nat.le_of_ble_eq_true rfl) rfl ?_
    refine q_goto (pc := 64) rfl ?_
    refine q_iload_n (pc := 118) rfl rfl ?_
    refine q_iconst (pc := 119) rfl (nI 1) (by decide) ?_
    refine q_bipush (pc := 120) rfl (nI 99) (by decide) ?_
    refine q_callS (pc := 122) _ (by decide) rfl rfl rfl rfl (Nat.le_of_ble_eq_true rfl) (by omega) _ rfl ?_
    refine m_boundX (lo := 1) (hi := 99) (by decide) (by decide) ?_
    rw [bdN_n (by omega)]
    refine q_iret (pc := 125) rfl (rfl) ?_
    refine eqQ ?_ (kk _ _ H k1)
    first
    | rfl
    | (unfold tkb
       congr 1
       (repeat' split) <;> first | rfl | omega)
  · refine q_tsw (pc := 27) (t := 67) rfl (by decide) ?_
    refine q_iconst (pc := 67) rfl (nI 2) (by decide) ?_
    refine q_iload_n (pc := 68) rfl rfl ?_
    first | refine n_imul (pc := 69) rfl ?_ | refine q_imul (pc := 69) rfl ?_
    refine q_istore_n (pc := 70) [_, _, _, _] rfl (Nat.le_of_ble_eq_true rfl) rfl ?_
    refine q_goto (pc := 71) rfl ?_
    refine q_iload_n (pc := 118) rfl rfl ?_
    refine q_iconst (pc := 119) rfl (nI 1) (by decide) ?_
    refine q_bipush (pc := 120) rfl (nI 99) (by decide) ?_
    refine q_callS (pc := 122) _ (by decide) rfl rfl rfl rfl (Nat.le_of_ble_eq_true rfl) (by omega) _ rfl ?_
    refine m_boundX (lo := 1) (hi := 99) (by decide) (by decide) ?_
    rw [bdN_n (by omega)]
    refine q_iret (pc := 125) rfl (rfl) ?_
    refine eqQ ?_ (kk _ _ H k1)
    first
    | rfl
    | (unfold tkb
       congr 1
       (repeat' split) <;> first | rfl | omega)
  · refine q_tsw (pc := 27) (t := 74) rfl (by decide) ?_
    refine q_iload_n (pc := 74) rfl rfl ?_
    refine q_iconst (pc := 75) rfl (nI 2) (by decide) ?_
    first | refine n_idiv (pc := 76) rfl (by omega) (by omega) (by omega) ?_ | refine q_idiv (pc := 76) rfl (by decide) ?_
    refine q_iload_n (pc := 77) rfl rfl ?_
    first | refine n_ifne (pc := 78) rfl (by omega) (fun h78 => ?_) (fun h78 => ?_) | refine q_ifne (pc := 78) rfl (fun h78 => ?_) (fun h78 => ?_)
    · first
      | (exfalso; omega (config := {splitDisjunctions := false}))
      | exact absurd rfl h78
      | skip
        refine q_iconst (pc := 85) rfl (nI 0) (by decide) ?_
        first | refine n_iadd (pc := 86) rfl ?_ | refine q_iadd (pc := 86) rfl ?_
        refine q_istore_n (pc := 87) [_, _, _, _] rfl (Nat.le_of_ble_eq_true rfl) rfl ?_
        refine q_goto (pc := 88) rfl ?_
        refine q_iload_n (pc := 118) rfl rfl ?_
        refine q_iconst (pc := 119) rfl (nI 1) (by decide) ?_
        refine q_bipush (pc := 120) rfl (nI 99) (by decide) ?_
        refine q_callS (pc := 122) _ (by decide) rfl rfl rfl rfl (Nat.le_of_ble_eq_true rfl) (by omega) _ rfl ?_
        refine m_boundX (lo := 1) (hi := 99) (by decide) (by decide) ?_
        rw [bdN_n (by omega)]
        refine q_iret (pc := 125) rfl (rfl) ?_
        refine eqQ ?_ (kk _ _ H k1)
        first
        | rfl
        | (unfold tkb
           congr 1
           (repeat' split) <;> first | rfl | omega)
    · first
      | (exfalso; omega (config := {splitDisjunctions := false}))
      | exact absurd rfl h78
      | skip
        refine q_iconst (pc := 81) rfl (nI 1) (by decide) ?_
        refine q_goto (pc := 82) rfl ?_
        first | refine n_iadd (pc := 86) rfl ?_ | refine q_iadd (pc := 86) rfl ?_
        refine q_istore_n (pc := 87) [_, _, _, _] rfl (Nat.le_of_ble_eq_true rfl) rfl ?_
        refine q_goto (pc := 88) rfl ?_
        refine q_iload_n (pc := 118) rfl rfl ?_
        refine q_iconst (pc := 119) rfl (nI 1) (by decide) ?_
        refine q_bipush (pc := 120) rfl (nI 99) (by decide) ?_
        refine q_callS (pc := 122) _ (by decide) rfl rfl rfl rfl (Nat.le_of_ble_eq_true rfl) (by omega) _ rfl ?_
        refine m_boundX (lo := 1) (hi := 99) (by decide) (by decide) ?_
        rw [bdN_n (by omega)]
        refine q_iret (pc := 125) rfl (rfl) ?_
        refine eqQ ?_ (kk _ _ H k1)
        first
        | rfl
        | (unfold tkb
           congr 1
           (repeat' split) <;> first | rfl | omega)
  · refine q_tsw (pc := 27) (t := 91) rfl (by decide) ?_
    refine q_iload_n (pc := 91) rfl rfl ?_
    refine q_bipush (pc := 92) rfl (nI 9) (by decide) ?_
    first | refine n_icmpne (pc := 94) rfl (by omega) (by omega) (fun h94 => ?_) (fun h94 => ?_) | refine q_icmpne (pc := 94) rfl (fun h94 => ?_) (fun h94 => ?_)
    · first
      | (exfalso; omega (config := {splitDisjunctions := false}))
      | exact absurd rfl h94
      | skip
        refine q_iconst (pc := 101) rfl (nI 2) (by decide) ?_
        refine q_iload_n (pc := 102) rfl rfl ?_
        first | refine n_imul (pc := 103) rfl ?_ | refine q_imul (pc := 103) rfl ?_
        refine q_istore_n (pc := 104) [_, _, _, _] rfl (Nat.le_of_ble_eq_true rfl) rfl ?_
        refine q_goto (pc := 105) rfl ?_
        refine q_iload_n (pc := 118) rfl rfl ?_
        refine q_iconst (pc := 119) rfl (nI 1) (by decide) ?_
        refine q_bipush (pc := 120) rfl (nI 99) (by decide) ?_
        refine q_callS (pc := 122) _ (by decide) rfl rfl rfl rfl (Nat.le_of_ble_eq_true rfl) (by omega) _ rfl ?_
        refine m_boundX (lo := 1) (hi := 99) (by decide) (by decide) ?_
        rw [bdN_n (by omega)]
        refine q_iret (pc := 125) rfl (rfl) ?_
        refine eqQ ?_ (kk _ _ H k1)
        first
        | rfl
        | (unfold tkb
           congr 1
           (repeat' split) <;> first | rfl | omega)
    · first
      | (exfalso; omega (config := {splitDisjunctions := false}))
      | exact absurd rfl h94
      | skip
        refine q_iconst (pc := 97) rfl (nI 1) (by decide) ?_
        refine q_goto (pc := 98) rfl ?_
        refine q_istore_n (pc := 104) [_, _, _, _] rfl (Nat.le_of_ble_eq_true rfl) rfl ?_
        refine q_goto (pc := 105) rfl ?_
        refine q_iload_n (pc := 118) rfl rfl ?_
        refine q_iconst (pc := 119) rfl (nI 1) (by decide) ?_
        refine q_bipush (pc := 120) rfl (nI 99) (by decide) ?_
        refine q_callS (pc := 122) _ (by decide) rfl rfl rfl rfl (Nat.le_of_ble_eq_true rfl) (by omega) _ rfl ?_
        refine m_boundX (lo := 1) (hi := 99) (by decide) (by decide) ?_
        rw [bdN_n (by omega)]
        refine q_iret (pc := 125) rfl (rfl) ?_
        refine eqQ ?_ (kk _ _ H k1)
        first
        | rfl
        | (unfold tkb
           congr 1
           (repeat' split) <;> first | rfl | omega)
  · refine q_tsw (pc := 27) (t := 108) rfl (by decide) ?_
    refine q_iload_n (pc := 108) rfl rfl ?_
    refine q_aload_n (pc := 109) rfl rfl rfl ?_
    refine q_getf (pc := 110) rfl (by exact HR.c H hl _ rfl) rfl rfl ?_
    rw [tk.2.1]
    first | refine n_iadd (pc := 113) rfl ?_ | refine q_iadd (pc := 113) rfl ?_
    refine q_istore_n (pc := 114) [_, _, _, _] rfl (Nat.le_of_ble_eq_true rfl) rfl ?_
    refine q_goto (pc := 115) rfl ?_
    refine q_iload_n (pc := 118) rfl rfl ?_
    refine q_iconst (pc := 119) rfl (nI 1) (by decide) ?_
    refine q_bipush (pc := 120) rfl (nI 99) (by decide) ?_
    refine q_callS (pc := 122) _ (by decide) rfl rfl rfl rfl (Nat.le_of_ble_eq_true rfl) (by omega) _ rfl ?_
    refine m_boundX (lo := 1) (hi := 99) (by decide) (by decide) ?_
    rw [bdN_n (by omega)]
    refine q_iret (pc := 125) rfl (rfl) ?_
    refine eqQ ?_ (kk _ _ H k1)
    first
    | rfl
    | (unfold tkb
       congr 1
       (repeat' split) <;> first | rfl | omega)
theorem m_lays {p m t n : Nat} (hd : 4 ≤ d) (H : HR P h s) (hl : 75 ≤ P.1) (N : NW s β) (T : MT s n C E) (ht : t < n) (hk : ∀ i, i < 72 → β i ≤ 9) (tk : TKN s p m t) (hp : p ≤ 5) (hm : m ≤ 9) (hc : c < 36) (kk : ∀ h' s', HR P h' s' → sf s s' (fun i => i = 63) → Q (some (.int (nI (lyG C E β p m t c)))) h') : wc d 170 [.ref 54, .int (nI c)] h Q := by
  have hb1 := hk (36 + c) (by omega)
  have hbd := bdN_le (lo := 0) (hi := 9) (x := vtN C E β t 1 (β (36 + c)) m c) (by decide)
  unfold lyG at kk
  refine wc.go [_, _, _, _, _] rfl ?_
  refine q_aload_n (pc := 0) rfl rfl rfl ?_
  refine q_iconst (pc := 1) rfl (nI 1) (by decide) ?_
  refine q_iload_n (pc := 2) rfl rfl ?_
  refine q_callV (pc := 3) _ rfl rfl rfl (by exact HR.c H hl _ rfl) rfl (Nat.le_of_ble_eq_true rfl) (by omega) _ rfl ?_
  refine m_tell (by omega) H hl N T ht tk.2.2 (by decide) hc hk (mark := β (36 + c)) (num := m) rfl (fun _ => tk.2.1) (fun z => absurd z (by decide)) hm ?_
  intro h s1 H k1
  have N := N.fr k1 (by decide)
  have tk := tk.fr k1
  refine q_iconst (pc := 6) rfl (nI 0) (by decide) ?_
  refine q_bipush (pc := 7) rfl (nI 9) (by decide) ?_
  refine q_callS (pc := 9) _ (by decide) rfl rfl rfl rfl (Nat.le_of_ble_eq_true rfl) (by omega) _ rfl ?_
  refine m_boundX (lo := 0) (hi := 9) (by decide) (by decide) ?_
  generalize bdN 0 9 (vtN C E β t 1 (β (36 + c)) m c) = v at *
  refine q_istore_n (pc := 12) [_, _, _, _, _] rfl (Nat.le_of_ble_eq_true rfl) rfl ?_
  refine q_aload_n (pc := 13) rfl rfl rfl ?_
  refine q_getf (pc := 14) rfl (by exact HR.c H hl _ rfl) rfl rfl ?_
  refine q_bipush (pc := 17) rfl (nI 36) (by decide) ?_
  refine q_iload_n (pc := 19) rfl rfl ?_
  first | refine n_iadd (pc := 20) rfl ?_ | refine q_iadd (pc := 20) rfl ?_
  refine n_ild (pc := 21) rfl (by first | exact HR.la H hl rfl rfl N | exact HR.la0 H hl rfl rfl) rfl (by omega) (by omega) ?_
  refine q_istore_n (pc := 22) [_, _, _, _, _] rfl (Nat.le_of_ble_eq_true rfl) rfl ?_
  refine q_iload_n (pc := 23) rfl rfl ?_
  refine q_iconst (pc := 24) rfl (nI 2) (by decide) ?_
  first | refine n_irem (pc := 25) rfl (by omega) (by omega) (by omega) ?_ | refine q_irem (pc := 25) rfl (by decide) ?_
  refine q_iconst (pc := 26) rfl (nI 1) (by decide) ?_
  first | refine n_icmpne (pc := 27) rfl (by omega) (by omega) (fun h27 => ?_) (fun h27 => ?_) | refine q_icmpne (pc := 27) rfl (fun h27 => ?_) (fun h27 => ?_)
  · first
    | (exfalso; omega (config := {splitDisjunctions := false}))
    | exact absurd rfl h27
    | skip
      refine q_iload_n (pc := 41) rfl rfl ?_
      refine q_istore (pc := 42) [_, _, _, _, _] rfl (Nat.le_of_ble_eq_true rfl) rfl ?_
      refine q_aload_n (pc := 44) rfl rfl rfl ?_
      refine q_getf (pc := 45) rfl (by exact HR.c H hl _ rfl) rfl rfl ?_
      rw [tk.1]
      rcases p6 (show p < 6 by omega) with rfl | rfl | rfl | rfl | rfl | rfl
      · refine q_tsw (pc := 48) (t := 118) rfl (by decide) ?_
        refine q_iload_n (pc := 118) rfl rfl ?_
        refine q_iret (pc := 119) rfl (rfl) ?_
        refine eqQ ?_ (kk _ _ H k1)
        first
        | rfl
        | (unfold lyb boyb
           congr 1
           (repeat' split) <;> first | rfl | omega)
      · refine q_tsw (pc := 48) (t := 84) rfl (by decide) ?_
        refine q_iload (pc := 84) rfl rfl ?_
        refine q_iret (pc := 86) rfl (rfl) ?_
        refine eqQ ?_ (kk _ _ H k1)
        first
        | rfl
        | (unfold lyb boyb
           congr 1
           (repeat' split) <;> first | rfl | omega)
      · refine q_tsw (pc := 48) (t := 87) rfl (by decide) ?_
        refine q_iload_n (pc := 87) rfl rfl ?_
        refine q_iret (pc := 88) rfl (rfl) ?_
        refine eqQ ?_ (kk _ _ H k1)
        first
        | rfl
        | (unfold lyb boyb
           congr 1
           (repeat' split) <;> first | rfl | omega)
      · refine q_tsw (pc := 48) (t := 89) rfl (by decide) ?_
        refine q_iload_n (pc := 89) rfl rfl ?_
        refine q_bipush (pc := 90) rfl (nI 6) (by decide) ?_
        first | refine n_idiv (pc := 92) rfl (by omega) (by omega) (by omega) ?_ | refine q_idiv (pc := 92) rfl (by decide) ?_
        refine q_aload_n (pc := 93) rfl rfl rfl ?_
        refine q_getf (pc := 94) rfl (by exact HR.c H hl _ rfl) rfl rfl ?_
        rw [tk.2.1]
        first | refine n_icmpne (pc := 97) rfl (by omega) (by omega) (fun h97 => ?_) (fun h97 => ?_) | refine q_icmpne (pc := 97) rfl (fun h97 => ?_) (fun h97 => ?_)
        · first
          | (exfalso; omega (config := {splitDisjunctions := false}))
          | exact absurd rfl h97
          | skip
            refine q_iload (pc := 104) rfl rfl ?_
            refine q_iret (pc := 106) rfl (rfl) ?_
            refine eqQ ?_ (kk _ _ H k1)
            first
            | rfl
            | (unfold lyb boyb
               congr 1
               (repeat' split) <;> first | rfl | omega)
        · first
          | (exfalso; omega (config := {splitDisjunctions := false}))
          | exact absurd rfl h97
          | skip
            refine q_iconst (pc := 100) rfl (nI 0) (by decide) ?_
            refine q_goto (pc := 101) rfl ?_
            refine q_iret (pc := 106) rfl (rfl) ?_
            refine eqQ ?_ (kk _ _ H k1)
            first
            | rfl
            | (unfold lyb boyb
               congr 1
               (repeat' split) <;> first | rfl | omega)
      · refine q_tsw (pc := 48) (t := 87) rfl (by decide) ?_
        refine q_iload_n (pc := 87) rfl rfl ?_
        refine q_iret (pc := 88) rfl (rfl) ?_
        refine eqQ ?_ (kk _ _ H k1)
        first
        | rfl
        | (unfold lyb boyb
           congr 1
           (repeat' split) <;> first | rfl | omega)
      · refine q_tsw (pc := 48) (t := 107) rfl (by decide) ?_
        refine q_iload_n (pc := 107) rfl rfl ?_
        refine q_iload_n (pc := 108) rfl rfl ?_
        first | refine n_icmpne (pc := 109) rfl (by omega) (by omega) (fun h109 => ?_) (fun h109 => ?_) | refine q_icmpne (pc := 109) rfl (fun h109 => ?_) (fun h109 => ?_)
        · first
          | (exfalso; omega (config := {splitDisjunctions := false}))
          | exact absurd rfl h109
          | skip
            refine q_iconst (pc := 116) rfl (nI 0) (by decide) ?_
            refine q_iret (pc := 117) rfl (rfl) ?_
            refine eqQ ?_ (kk _ _ H k1)
            first
            | rfl
            | (unfold lyb boyb
               congr 1
               (repeat' split) <;> first | rfl | omega)
        · first
          | (exfalso; omega (config := {splitDisjunctions := false}))
          | exact absurd rfl h109
          | skip
            refine q_iload_n (pc := 112) rfl rfl ?_
            refine q_goto (pc := 113) rfl ?_
            refine q_iret (pc := 117) rfl (rfl) ?_
            refine eqQ ?_ (kk _ _ H k1)
            first
            | rfl
            | (unfold lyb boyb
               congr 1
               (repeat' split) <;> first | rfl | omega)
  · first
    | (exfalso; omega (config := {splitDisjunctions := false}))
    | exact absurd rfl h27
    | skip
      refine q_bipush (pc := 30) rfl (nI 9) (by decide) ?_
      refine q_iload_n (pc := 32) rfl rfl ?_
      refine q_iconst (pc := 33) rfl (nI 1) (by decide) ?_
      first | refine n_iadd (pc := 34) rfl ?_ | refine q_iadd (pc := 34) rfl ?_
      first | refine n_min (pc := 35) rfl rfl (by omega) (by omega) ?_ | refine q_min (pc := 35) rfl rfl ?_
      refine q_goto (pc := 38) rfl ?_
      refine q_istore (pc := 42) [_, _, _, _, _] rfl (Nat.le_of_ble_eq_true rfl) rfl ?_
      refine q_aload_n (pc := 44) rfl rfl rfl ?_
      refine q_getf (pc := 45) rfl (by exact HR.c H hl _ rfl) rfl rfl ?_
      rw [tk.1]
      rcases p6 (show p < 6 by omega) with rfl | rfl | rfl | rfl | rfl | rfl
      · refine q_tsw (pc := 48) (t := 118) rfl (by decide) ?_
        refine q_iload_n (pc := 118) rfl rfl ?_
        refine q_iret (pc := 119) rfl (rfl) ?_
        refine eqQ ?_ (kk _ _ H k1)
        first
        | rfl
        | (unfold lyb boyb
           congr 1
           (repeat' split) <;> first | rfl | omega)
      · refine q_tsw (pc := 48) (t := 84) rfl (by decide) ?_
        refine q_iload (pc := 84) rfl rfl ?_
        refine q_iret (pc := 86) rfl (rfl) ?_
        refine eqQ ?_ (kk _ _ H k1)
        first
        | rfl
        | (unfold lyb boyb
           congr 1
           (repeat' split) <;> first | rfl | omega)
      · refine q_tsw (pc := 48) (t := 87) rfl (by decide) ?_
        refine q_iload_n (pc := 87) rfl rfl ?_
        refine q_iret (pc := 88) rfl (rfl) ?_
        refine eqQ ?_ (kk _ _ H k1)
        first
        | rfl
        | (unfold lyb boyb
           congr 1
           (repeat' split) <;> first | rfl | omega)
      · refine q_tsw (pc := 48) (t := 89) rfl (by decide) ?_
        refine q_iload_n (pc := 89) rfl rfl ?_
        refine q_bipush (pc := 90) rfl (nI 6) (by decide) ?_
        first | refine n_idiv (pc := 92) rfl (by omega) (by omega) (by omega) ?_ | refine q_idiv (pc := 92) rfl (by decide) ?_
        refine q_aload_n (pc := 93) rfl rfl rfl ?_
        refine q_getf (pc := 94) rfl (by exact HR.c H hl _ rfl) rfl rfl ?_
        rw [tk.2.1]
        first | refine n_icmpne (pc := 97) rfl (by omega) (by omega) (fun h97 => ?_) (fun h97 => ?_) | refine q_icmpne (pc := 97) rfl (fun h97 => ?_) (fun h97 => ?_)
        · first
          | (exfalso; omega (config := {splitDisjunctions := false}))
          | exact absurd rfl h97
          | skip
            refine q_iload (pc := 104) rfl rfl ?_
            refine q_iret (pc := 106) rfl (rfl) ?_
            refine eqQ ?_ (kk _ _ H k1)
            first
            | rfl
            | (unfold lyb boyb
               congr 1
               (repeat' split) <;> first | rfl | omega)
        · first
          | (exfalso; omega (config := {splitDisjunctions := false}))
          | exact absurd rfl h97
          | skip
            refine q_iconst (pc := 100) rfl (nI 0) (by decide) ?_
            refine q_goto (pc := 101) rfl ?_
            refine q_iret (pc := 106) rfl (rfl) ?_
            refine eqQ ?_ (kk _ _ H k1)
            first
            | rfl
            | (unfold lyb boyb
               congr 1
               (repeat' split) <;> first | rfl | omega)
      · refine q_tsw (pc := 48) (t := 87) rfl (by decide) ?_
        refine q_iload_n (pc := 87) rfl rfl ?_
        refine q_iret (pc := 88) rfl (rfl) ?_
        refine eqQ ?_ (kk _ _ H k1)
        first
        | rfl
        | (unfold lyb boyb
           congr 1
           (repeat' split) <;> first | rfl | omega)
      · refine q_tsw (pc := 48) (t := 107) rfl (by decide) ?_
        refine q_iload_n (pc := 107) rfl rfl ?_
        refine q_iload_n (pc := 108) rfl rfl ?_
        first | refine n_icmpne (pc := 109) rfl (by omega) (by omega) (fun h109 => ?_) (fun h109 => ?_) | refine q_icmpne (pc := 109) rfl (fun h109 => ?_) (fun h109 => ?_)
        · first
          | (exfalso; omega (config := {splitDisjunctions := false}))
          | exact absurd rfl h109
          | skip
            refine q_iconst (pc := 116) rfl (nI 0) (by decide) ?_
            refine q_iret (pc := 117) rfl (rfl) ?_
            refine eqQ ?_ (kk _ _ H k1)
            first
            | rfl
            | (unfold lyb boyb
               congr 1
               (repeat' split) <;> first | rfl | omega)
        · first
          | (exfalso; omega (config := {splitDisjunctions := false}))
          | exact absurd rfl h109
          | skip
            refine q_iload_n (pc := 112) rfl rfl ?_
            refine q_goto (pc := 113) rfl ?_
            refine q_iret (pc := 117) rfl (rfl) ?_
            refine eqQ ?_ (kk _ _ H k1)
            first
            | rfl
            | (unfold lyb boyb
               congr 1
               (repeat' split) <;> first | rfl | omega)
theorem m_minutes {n : Nat} (hd : 5 ≤ d) (H : HR P h s) (hl : 75 ≤ P.1) (N : NW s β) (T : MT s n C E) (hk : bok β n) (hp : p < 4) (hc : c < 36) (kk : ∀ h' s', HR P h' s' → gf tS tF s s' → TKN s' (β (72 + 4 * p)) (β (72 + 4 * p + 1)) (β 90) → Q (some (.int (nI (mnN C E β p c)))) h') : wc d 171 [.ref 54, .int (nI p), .int (nI c)] h Q := by
  obtain ⟨k1, k2, k3, k4⟩ := hk.2.1 p hp
  refine wc.go [_, _, _] rfl ?_
  refine q_aload_n (pc := 0) rfl rfl rfl ?_
  refine q_iload_n (pc := 1) rfl rfl ?_
  refine q_callV (pc := 2) _ rfl rfl rfl (by exact HR.c H hl _ rfl) rfl (Nat.le_of_ble_eq_true rfl) (by omega) _ rfl ?_
  refine m_take H hl N hp ?_
  intro h s1 H f1 f1' tk
  have N := N.tf f1
  have T := T.row f1
  refine q_aload_n (pc := 5) rfl rfl rfl ?_
  refine q_iload_n (pc := 6) rfl rfl ?_
  refine q_callV (pc := 7) _ rfl rfl rfl (by exact HR.c H hl _ rfl) rfl (Nat.le_of_ble_eq_true rfl) (by omega) _ rfl ?_
  refine m_at H hl N hp ?_
  refine q_iload_n (pc := 10) rfl rfl ?_
  refine q_callS (pc := 11) _ (by decide) rfl rfl rfl rfl (Nat.le_of_ble_eq_true rfl) (by omega) _ rfl ?_
  refine m_apart k3 hc ?_
  refine q_aload_n (pc := 14) rfl rfl rfl ?_
  refine q_iload_n (pc := 15) rfl rfl ?_
  refine q_callV (pc := 16) _ rfl rfl rfl (by exact HR.c H hl _ rfl) rfl (Nat.le_of_ble_eq_true rfl) (by omega) _ rfl ?_
  refine m_takes (by omega) H hl N T hk.2.2.2.2 hk.1 tk k1 k2 hc ?_
  intro h s2 H f2
  first | refine n_iadd (pc := 19) rfl ?_ | refine q_iadd (pc := 19) rfl ?_
  refine q_iret (pc := 20) rfl (rfl) ?_
  exact kk _ _ H ((tf_gf f1).tr (tf_gf (tf_row f2))) (tk.fr f2)
theorem m_asks (hd : 20 ≤ d) (H : HR P h s) (hl : 75 ≤ P.1) (N : NW s β) (K : AOK P.2.1 β κ ik tp tz σ sz) (Mk : MK s P.2.1 κ ik tp tz C E σ sz cl) (kk : ∀ h' s', HR P h' s' → NW s' β → mf s s' → Q (some (.int (o_asks C E β x y z))) h') : wc d 172 [.ref 54, .int x, .int y, .int z] h Q := by
  have K4 := K.1.2.2.1
  have KK := K.1
  have K89 := K.2.1
  refine wc.go [_, _, _, _] rfl ?_
  refine q_aload_n (pc := 0) rfl rfl rfl ?_
  refine q_iload_n (pc := 1) rfl rfl ?_
  refine q_callV (pc := 2) _ rfl rfl rfl (by exact HR.c H hl _ rfl) rfl (Nat.le_of_ble_eq_true rfl) (by omega) _ rfl ?_
  refine m_isOne (by omega) H hl N K4 (fun p hp e => ?_) (fun g => ?_)
  · subst e
    have zp : Hd (rg (β 88) (nI p) = p) := rg_in hp (by omega)
    obtain ⟨k1, k2, k3, k4⟩ := KK.2.1 p (by omega)
    refine q_ifeq (pc := 5) rfl (fun z => absurd z (by decide)) (fun _ => ?_)
    refine q_iload_n (pc := 8) rfl rfl ?_
    refine q_callS (pc := 9) _ (by decide) rfl rfl rfl rfl (Nat.le_of_ble_eq_true rfl) (by omega) _ rfl ?_
    refine m_isCell (by omega) (fun c0 hc0 e => ?_) (fun g => ?_)
    · subst e
      have zc : Hd (rg 36 (nI c0) = c0) := rg_in hc0 (by decide)
      refine q_ifeq (pc := 12) rfl (fun z => absurd z (by decide)) (fun _ => ?_)
      refine q_iload_n (pc := 15) rfl rfl ?_
      refine q_iconst (pc := 16) rfl (nI 0) (by decide) ?_
      refine q_iconst (pc := 17) rfl (nI 3) (by decide) ?_
      refine q_callS (pc := 18) _ (by decide) rfl rfl rfl rfl (Nat.le_of_ble_eq_true rfl) (by omega) _ rfl ?_
      refine m_in0 (by decide) (fun w hw e => ?_) (fun g => ?_)
      · subst e
        have zw : Hd (rg 4 (nI w) = w) := rg_in (by omega) (by decide)
        refine q_ifne (pc := 21) rfl (fun _ => ?_) (fun z => absurd z (by decide))
        refine q_aload_n (pc := 27) rfl rfl rfl ?_
        refine q_iload_n (pc := 28) rfl rfl ?_
        refine q_callV (pc := 29) _ rfl rfl rfl (by exact HR.c H hl _ rfl) rfl (Nat.le_of_ble_eq_true rfl) (by omega) _ rfl ?_
        refine m_take H hl N (by omega) ?_
        intro h s1 H f1 f1' tk
        have N := N.tf f1
        have T := Mk.2.2.2.2.1.row f1
        refine q_iload_n (pc := 32) rfl rfl ?_
        first | refine n_ifne (pc := 33) rfl (by omega) (fun h33 => ?_) (fun h33 => ?_) | refine q_ifne (pc := 33) rfl (fun h33 => ?_) (fun h33 => ?_)
        · first
          | (exfalso; omega (config := {splitDisjunctions := false}))
          | exact absurd rfl h33
          | skip
            refine q_iload_n (pc := 44) rfl rfl ?_
            refine q_iconst (pc := 45) rfl (nI 1) (by decide) ?_
            first | refine n_icmpne (pc := 46) rfl (by omega) (by omega) (fun h46 => ?_) (fun h46 => ?_) | refine q_icmpne (pc := 46) rfl (fun h46 => ?_) (fun h46 => ?_)
            · first
              | (exfalso; omega (config := {splitDisjunctions := false}))
              | exact absurd rfl h46
              | skip
                refine q_iload_n (pc := 57) rfl rfl ?_
                refine q_iconst (pc := 58) rfl (nI 2) (by decide) ?_
                first | refine n_icmpne (pc := 59) rfl (by omega) (by omega) (fun h59 => ?_) (fun h59 => ?_) | refine q_icmpne (pc := 59) rfl (fun h59 => ?_) (fun h59 => ?_)
                · first
                  | (exfalso; omega (config := {splitDisjunctions := false}))
                  | exact absurd rfl h59
                  | skip
                    refine q_aload_n (pc := 74) rfl rfl rfl ?_
                    refine q_iload_n (pc := 75) rfl rfl ?_
                    refine q_iload_n (pc := 76) rfl rfl ?_
                    refine q_callV (pc := 77) _ rfl rfl rfl (by exact HR.c H hl _ rfl) rfl (Nat.le_of_ble_eq_true rfl) (by omega) _ rfl ?_
                    refine m_minutes (by omega) H hl N T KK (by omega) hc0 ?_
                    intro h s2 H f2 tk2
                    refine q_iret (pc := 80) rfl (rfl) ?_
                    first
                    | ((refine eqQ ?_ (kk _ _ H (N.fr (S := fun i => i = 63) f2 (by decide)) ((tf_mf f1).tr (tf_mf (tf_row f2))))
                        unfold o_asks
                        rw [zp.out, zc.out, zw.out, if_pos (by omega), if_pos (by omega)]
                        rfl))
                    | ((refine eqQ ?_ (kk _ _ H (N.fr (S := fun i => i = 63) f2 (by decide)) ((tf_mf f1).tr (tf_mf (tf_row f2))))
                        unfold o_asks
                        rw [zp.out, zc.out, zw.out, if_pos (by omega), if_neg (by omega), if_pos (by omega)]
                        rfl))
                    | ((refine eqQ ?_ (kk _ _ H (N.fr (S := fun i => i = 63) f2 (by decide)) ((tf_mf f1).tr (tf_mf (tf_row f2))))
                        unfold o_asks
                        rw [zp.out, zc.out, zw.out, if_pos (by omega), if_neg (by omega), if_neg (by omega), if_pos (by omega)]))
                    | ((refine eqQ ?_ (kk _ _ H (N.fr f2.1 (by unfold tS; omega)) ((tf_mf f1).tr (f2.mf (fun i g => by unfold tS at g; unfold mS; omega) (by unfold tF; omega))))
                        unfold o_asks
                        rw [zp.out, zc.out, zw.out, if_pos (by omega), if_neg (by omega), if_neg (by omega), if_neg (by omega), if_pos (by omega)]))
                · first
                  | (exfalso; omega (config := {splitDisjunctions := false}))
                  | exact absurd rfl h59
                  | skip
                    refine q_aload_n (pc := 62) rfl rfl rfl ?_
                    refine q_iload_n (pc := 63) rfl rfl ?_
                    refine q_callV (pc := 64) _ rfl rfl rfl (by exact HR.c H hl _ rfl) rfl (Nat.le_of_ble_eq_true rfl) (by omega) _ rfl ?_
                    refine m_at H hl N (by omega) ?_
                    refine q_iload_n (pc := 67) rfl rfl ?_
                    refine q_callS (pc := 68) _ (by decide) rfl rfl rfl rfl (Nat.le_of_ble_eq_true rfl) (by omega) _ rfl ?_
                    refine m_apart k3 hc0 ?_
                    have f2 : sf s1 s1 (fun i => i = 63) := sf.rf
                    refine q_goto (pc := 71) rfl ?_
                    refine q_iret (pc := 80) rfl (rfl) ?_
                    first
                    | ((refine eqQ ?_ (kk _ _ H (N.fr (S := fun i => i = 63) f2 (by decide)) ((tf_mf f1).tr (tf_mf (tf_row f2))))
                        unfold o_asks
                        rw [zp.out, zc.out, zw.out, if_pos (by omega), if_pos (by omega)]
                        rfl))
                    | ((refine eqQ ?_ (kk _ _ H (N.fr (S := fun i => i = 63) f2 (by decide)) ((tf_mf f1).tr (tf_mf (tf_row f2))))
                        unfold o_asks
                        rw [zp.out, zc.out, zw.out, if_pos (by omega), if_neg (by omega), if_pos (by omega)]
                        rfl))
                    | ((refine eqQ ?_ (kk _ _ H (N.fr (S := fun i => i = 63) f2 (by decide)) ((tf_mf f1).tr (tf_mf (tf_row f2))))
                        unfold o_asks
                        rw [zp.out, zc.out, zw.out, if_pos (by omega), if_neg (by omega), if_neg (by omega), if_pos (by omega)]))
                    | ((refine eqQ ?_ (kk _ _ H (N.fr f2.1 (by unfold tS; omega)) ((tf_mf f1).tr (f2.mf (fun i g => by unfold tS at g; unfold mS; omega) (by unfold tF; omega))))
                        unfold o_asks
                        rw [zp.out, zc.out, zw.out, if_pos (by omega), if_neg (by omega), if_neg (by omega), if_neg (by omega), if_pos (by omega)]))
            · first
              | (exfalso; omega (config := {splitDisjunctions := false}))
              | exact absurd rfl h46
              | skip
                refine q_aload_n (pc := 49) rfl rfl rfl ?_
                refine q_iload_n (pc := 50) rfl rfl ?_
                refine q_callV (pc := 51) _ rfl rfl rfl (by exact HR.c H hl _ rfl) rfl (Nat.le_of_ble_eq_true rfl) (by omega) _ rfl ?_
                refine m_lays (by omega) H hl N T KK.2.2.2.2 KK.1 tk k1 k2 hc0 ?_
                intro h s2 H f2
                refine q_goto (pc := 54) rfl ?_
                refine q_iret (pc := 80) rfl (rfl) ?_
                first
                | ((refine eqQ ?_ (kk _ _ H (N.fr (S := fun i => i = 63) f2 (by decide)) ((tf_mf f1).tr (tf_mf (tf_row f2))))
                    unfold o_asks
                    rw [zp.out, zc.out, zw.out, if_pos (by omega), if_pos (by omega)]
                    rfl))
                | ((refine eqQ ?_ (kk _ _ H (N.fr (S := fun i => i = 63) f2 (by decide)) ((tf_mf f1).tr (tf_mf (tf_row f2))))
                    unfold o_asks
                    rw [zp.out, zc.out, zw.out, if_pos (by omega), if_neg (by omega), if_pos (by omega)]
                    rfl))
                | ((refine eqQ ?_ (kk _ _ H (N.fr (S := fun i => i = 63) f2 (by decide)) ((tf_mf f1).tr (tf_mf (tf_row f2))))
                    unfold o_asks
                    rw [zp.out, zc.out, zw.out, if_pos (by omega), if_neg (by omega), if_neg (by omega), if_pos (by omega)]))
                | ((refine eqQ ?_ (kk _ _ H (N.fr f2.1 (by unfold tS; omega)) ((tf_mf f1).tr (f2.mf (fun i g => by unfold tS at g; unfold mS; omega) (by unfold tF; omega))))
                    unfold o_asks
                    rw [zp.out, zc.out, zw.out, if_pos (by omega), if_neg (by omega), if_neg (by omega), if_neg (by omega), if_pos (by omega)]))
        · first
          | (exfalso; omega (config := {splitDisjunctions := false}))
          | exact absurd rfl h33
          | skip
            refine q_aload_n (pc := 36) rfl rfl rfl ?_
            refine q_iload_n (pc := 37) rfl rfl ?_
            refine q_callV (pc := 38) _ rfl rfl rfl (by exact HR.c H hl _ rfl) rfl (Nat.le_of_ble_eq_true rfl) (by omega) _ rfl ?_
            refine m_takes (by omega) H hl N T KK.2.2.2.2 KK.1 tk k1 k2 hc0 ?_
            intro h s2 H f2
            refine q_goto (pc := 41) rfl ?_
            refine q_iret (pc := 80) rfl (rfl) ?_
            first
            | ((refine eqQ ?_ (kk _ _ H (N.fr (S := fun i => i = 63) f2 (by decide)) ((tf_mf f1).tr (tf_mf (tf_row f2))))
                unfold o_asks
                rw [zp.out, zc.out, zw.out, if_pos (by omega), if_pos (by omega)]
                rfl))
            | ((refine eqQ ?_ (kk _ _ H (N.fr (S := fun i => i = 63) f2 (by decide)) ((tf_mf f1).tr (tf_mf (tf_row f2))))
                unfold o_asks
                rw [zp.out, zc.out, zw.out, if_pos (by omega), if_neg (by omega), if_pos (by omega)]
                rfl))
            | ((refine eqQ ?_ (kk _ _ H (N.fr (S := fun i => i = 63) f2 (by decide)) ((tf_mf f1).tr (tf_mf (tf_row f2))))
                unfold o_asks
                rw [zp.out, zc.out, zw.out, if_pos (by omega), if_neg (by omega), if_neg (by omega), if_pos (by omega)]))
            | ((refine eqQ ?_ (kk _ _ H (N.fr f2.1 (by unfold tS; omega)) ((tf_mf f1).tr (f2.mf (fun i g => by unfold tS at g; unfold mS; omega) (by unfold tF; omega))))
                unfold o_asks
                rw [zp.out, zc.out, zw.out, if_pos (by omega), if_neg (by omega), if_neg (by omega), if_neg (by omega), if_pos (by omega)]))
      · have zw : Hd (rg 4 z = 4) := rg_out g
        refine q_ifne (pc := 21) rfl (fun z => absurd z (by decide)) (fun _ => ?_)
        refine q_bipush (pc := 24) rfl (-2) (by decide) ?_
        refine q_iret (pc := 26) rfl (rfl) ?_
        first
        | (refine eqQ (v' := o_asks C E β (nI p) (nI c0) z) ?_ (kk _ _ H N mf.rf)
           unfold o_asks
           rw [zp.out, zc.out, zw.out, if_pos (by omega), if_neg (by decide), if_neg (by decide), if_neg (by decide), if_neg (by decide)])
        | (refine eqQ (v' := o_asks C E β (nI p) y z) ?_ (kk _ _ H N mf.rf)
           unfold o_asks
           rw [zc.out, if_neg (by omega)])
        | (refine eqQ (v' := o_asks C E β x y z) ?_ (kk _ _ H N mf.rf)
           unfold o_asks
           rw [zp.out, if_neg (by omega)])
    · have zc : Hd (rg 36 y = 36) := rg_out g
      refine q_ifeq (pc := 12) rfl (fun _ => ?_) (fun z => absurd (by decide) z)
      refine q_bipush (pc := 24) rfl (-2) (by decide) ?_
      refine q_iret (pc := 26) rfl (rfl) ?_
      first
      | (refine eqQ (v' := o_asks C E β (nI p) (nI c0) z) ?_ (kk _ _ H N mf.rf)
         unfold o_asks
         rw [zp.out, zc.out, zw.out, if_pos (by omega), if_neg (by decide), if_neg (by decide), if_neg (by decide), if_neg (by decide)])
      | (refine eqQ (v' := o_asks C E β (nI p) y z) ?_ (kk _ _ H N mf.rf)
         unfold o_asks
         rw [zc.out, if_neg (by omega)])
      | (refine eqQ (v' := o_asks C E β x y z) ?_ (kk _ _ H N mf.rf)
         unfold o_asks
         rw [zp.out, if_neg (by omega)])
  · have zp : Hd (rg (β 88) x = β 88) := rg_out g
    refine q_ifeq (pc := 5) rfl (fun _ => ?_) (fun z => absurd (by decide) z)
    refine q_bipush (pc := 24) rfl (-2) (by decide) ?_
    refine q_iret (pc := 26) rfl (rfl) ?_
    first
    | (refine eqQ (v' := o_asks C E β (nI p) (nI c0) z) ?_ (kk _ _ H N mf.rf)
       unfold o_asks
       rw [zp.out, zc.out, zw.out, if_pos (by omega), if_neg (by decide), if_neg (by decide), if_neg (by decide), if_neg (by decide)])
    | (refine eqQ (v' := o_asks C E β (nI p) y z) ?_ (kk _ _ H N mf.rf)
       unfold o_asks
       rw [zc.out, if_neg (by omega)])
    | (refine eqQ (v' := o_asks C E β x y z) ?_ (kk _ _ H N mf.rf)
       unfold o_asks
       rw [zp.out, if_neg (by omega)])
def fS (i : Nat) : Prop := i = 54 ∨ i = 55 ∨ i = 63 ∨ i = 64
def fF (i : Nat) : Prop := i = 20
theorem m_flow1 {n r : Nat} (hd : 4 ≤ d) (hl : 75 ≤ P.1) (hk : bok β n) (hr : r ≤ 6) {s0 : mx_St} (N0 : NW s0 β) (T0 : MT s0 n C E) (hru : s0 54 20 = nI (β 90)) (kk : ∀ h' s', HR P h' s' → sf s0 s' (fun i => i = 63 ∨ i = 64) → (∀ j, 36 - 6 * r ≤ j → j < 36 → s' 64 j = nI (lfG C E β (β 90) j)) → wq d 173 49 [some (.ref 54), some (.int (nI r)), some (.int (nI 36))] [] h' Q) (m i : Nat) (hi : i + m = 36) (hi2 : 36 - 6 * r ≤ i) (h : mx_H) (s : mx_St) (H : HR P h s) (f : sf s0 s (fun i => i = 63 ∨ i = 64)) (c1 : ∀ j, 36 - 6 * r ≤ j → j < i → s 64 j = nI (lfG C E β (β 90) j)) : wq d 173 19 [some (.ref 54), some (.int (nI r)), some (.int (nI i))] [] h Q := by
  have N : NW s β := N0.fr f (by decide)
  have T : MT s n C E := T0.fr ⟨f.mono (fun i g => by unfold mS; omega), congrFun (f 54 (by decide)) _, congrFun (f 54 (by decide)) _, congrFun (f 54 (by decide)) _⟩
  match m, hi with
  | 0, hi =>
    obtain rfl : i = 36 := by omega
    refine q_iload_n (pc := 19) rfl rfl ?_
    refine q_bipush (pc := 20) rfl (nI 36) (by decide) ?_
    first | refine n_icmpge (pc := 22) rfl (by omega) (by omega) (fun h22 => ?_) (fun h22 => ?_) | refine q_icmpge (pc := 22) rfl (fun h22 => ?_) (fun h22 => ?_)
    · exact kk _ _ H f c1
    · first | (exfalso; omega) | exact absurd h22 (nI_pos (by omega)) | exact absurd (nI_pos' (by omega)) h22
  | m + 1, hi =>
    refine q_iload_n (pc := 19) rfl rfl ?_
    refine q_bipush (pc := 20) rfl (nI 36) (by decide) ?_
    first | refine n_icmpge (pc := 22) rfl (by omega) (by omega) (fun h22 => ?_) (fun h22 => ?_) | refine q_icmpge (pc := 22) rfl (fun h22 => ?_) (fun h22 => ?_)
    · first | (exfalso; omega) | exact absurd h22 (nI_pos (by omega)) | exact absurd (nI_pos' (by omega)) h22
    · refine q_aload_n (pc := 25) rfl rfl rfl ?_
      refine q_getf (pc := 26) rfl (by exact HR.c H hl _ rfl) rfl rfl ?_
      refine q_iload_n (pc := 29) rfl rfl ?_
      refine q_aload_n (pc := 30) rfl rfl rfl ?_
      refine q_iconst (pc := 31) rfl (nI 2) (by decide) ?_
      refine q_iload_n (pc := 32) rfl rfl ?_
      refine q_callV (pc := 33) _ rfl rfl rfl (by exact HR.c H hl _ rfl) rfl (Nat.le_of_ble_eq_true rfl) (by omega) _ rfl ?_
      refine m_tell (by omega) H hl N T hk.2.2.2.2 ((congrFun (f 54 (by decide)) 20).trans hru) (by decide) (show i < 36 by omega) hk.1 (mark := β i) (num := 0) rfl (fun z => absurd rfl z) (fun _ => rfl) (by decide) ?_
      intro h s1 H f1
      refine q_iconst (pc := 36) rfl (nI 0) (by decide) ?_
      refine q_bipush (pc := 37) rfl (nI 9) (by decide) ?_
      refine q_callS (pc := 39) _ (by decide) rfl rfl rfl rfl (Nat.le_of_ble_eq_true rfl) (by omega) _ rfl ?_
      refine m_boundX (lo := 0) (hi := 9) (by decide) (by decide) ?_
      rw [show bdN 0 9 (vtN C E β (β 90) 2 (β i) 0 i) = lfG C E β (β 90) i from rfl]
      refine r_ist2 (pc := 42) rfl H hl rfl (fun _ => rfl) rfl (by omega) (by omega) ?_
      intro h H
      first | refine n_iinc (pc := 43) rfl [_, _, _] 1 (by decide) rfl rfl ?_ | refine q_iinc (pc := 43) [_, _, _] (1) rfl rfl (by decide) rfl ?_
      refine q_goto (pc := 46) rfl ?_
      refine m_flow1 hd hl hk hr N0 T0 hru kk m (i + 1) (by omega) (by omega) h _ H ((f.tr (f1.mono (fun i g => Or.inl g))).st (Or.inr rfl)) (fun j h1 h2 => ?_)
      by_cases e : j = i
      · subst e
        exact stv_a
      · rw [stv_o e, f1 64 (by decide)]
        exact c1 j h1 (by omega)
termination_by m
theorem m_flow2 {n r : Nat} (hl : 75 ≤ P.1) (hk : bok β n) (hr : r ≤ 6) {s0 : mx_St} (c0 : ∀ j, 36 - 6 * r ≤ j → j < 36 → s0 64 j = nI (lfG C E β (β 90) j)) (kk : ∀ h' s', HR P h' s' → sf s0 s' (fun i => i = 55) → NW s' (flob C E β r) → Q none h') (m i : Nat) (hi : i + m = 36) (hi2 : 36 - 6 * r ≤ i) (h : mx_H) (s : mx_St) (H : HR P h s) (f : sf s0 s (fun i => i = 55)) (N : NW s (flo1 C E β (36 - 6 * r) i)) : wq d 173 57 [some (.ref 54), some (.int (nI r)), some (.int (nI i))] [] h Q := by
  match m, hi with
  | 0, hi =>
    obtain rfl : i = 36 := by omega
    have e89 : flo1 C E β (36 - 6 * r) 36 89 = β 89 := if_neg (by omega)
    refine q_iload_n (pc := 57) rfl rfl ?_
    refine q_bipush (pc := 58) rfl (nI 36) (by decide) ?_
    first | refine n_icmpge (pc := 60) rfl (by omega) (by omega) (fun h60 => ?_) (fun h60 => ?_) | refine q_icmpge (pc := 60) rfl (fun h60 => ?_) (fun h60 => ?_)
    · refine q_aload_n (pc := 81) rfl rfl rfl ?_
      refine q_getf (pc := 82) rfl (by exact HR.c H hl _ rfl) rfl rfl ?_
      refine q_bipush (pc := 85) rfl (nI 89) (by decide) ?_
      refine q_dup2 (pc := 87) rfl ⟨rfl, rfl⟩ ?_
      refine n_ild (pc := 88) rfl (by first | exact HR.la H hl rfl rfl N | exact HR.la0 H hl rfl rfl) rfl (by omega) (by omega) ?_
      rw [e89]
      refine q_iconst (pc := 89) rfl (nI 1) (by decide) ?_
      first | refine n_iadd (pc := 90) rfl ?_ | refine q_iadd (pc := 90) rfl ?_
      refine r_ist2 (pc := 91) rfl H hl rfl (fun _ => rfl) rfl (by omega) (by omega) ?_
      intro h H
      have N := N.up (j := 89) (u := β 89 + 1)
      rw [flo1_f hr] at N
      refine q_vret (pc := 92) rfl rfl ?_
      exact kk _ _ H (f.st rfl) N
    · first | (exfalso; omega) | exact absurd h60 (nI_pos (by omega)) | exact absurd (nI_pos' (by omega)) h60
  | m + 1, hi =>
    have e0 : s 64 i = nI (lfG C E β (β 90) i) := (congrFun (f 64 (by decide)) i).trans (c0 i hi2 (by omega))
    refine q_iload_n (pc := 57) rfl rfl ?_
    refine q_bipush (pc := 58) rfl (nI 36) (by decide) ?_
    first | refine n_icmpge (pc := 60) rfl (by omega) (by omega) (fun h60 => ?_) (fun h60 => ?_) | refine q_icmpge (pc := 60) rfl (fun h60 => ?_) (fun h60 => ?_)
    · first | (exfalso; omega) | exact absurd h60 (nI_pos (by omega)) | exact absurd (nI_pos' (by omega)) h60
    · refine q_aload_n (pc := 63) rfl rfl rfl ?_
      refine q_getf (pc := 64) rfl (by exact HR.c H hl _ rfl) rfl rfl ?_
      refine q_iload_n (pc := 67) rfl rfl ?_
      refine q_aload_n (pc := 68) rfl rfl rfl ?_
      refine q_getf (pc := 69) rfl (by exact HR.c H hl _ rfl) rfl rfl ?_
      refine q_iload_n (pc := 72) rfl rfl ?_
      refine n_ild (pc := 73) rfl (by first | exact HR.la H hl rfl rfl N | exact HR.la0 H hl rfl rfl) rfl (by omega) (by omega) ?_
      rw [e0]
      refine r_ist2 (pc := 74) rfl H hl rfl (fun _ => rfl) rfl (by omega) (by omega) ?_
      intro h H
      have N := N.up (j := i) (u := lfG C E β (β 90) i)
      rw [flo1_s C E β hi2] at N
      first | refine n_iinc (pc := 75) rfl [_, _, _] 1 (by decide) rfl rfl ?_ | refine q_iinc (pc := 75) [_, _, _] (1) rfl rfl (by decide) rfl ?_
      refine q_goto (pc := 78) rfl ?_
      exact m_flow2 hl hk hr c0 kk m (i + 1) (by omega) (by omega) h _ H (f.st rfl) N
termination_by m
theorem m_flowS {r : Nat} {z2 : Option Value} (hl : 75 ≤ P.1) (hr : r ≤ 6) (kk : wq d 173 57 [some (.ref 54), some (.int (nI r)), some (.int (nI (36 - 6 * r)))] [] h Q) : wq d 173 49 [some (.ref 54), some (.int (nI r)), z2] [] h Q := by
  refine q_bipush (pc := 49) rfl (nI 36) (by decide) ?_
  refine q_bipush (pc := 51) rfl (nI 6) (by decide) ?_
  refine q_iload_n (pc := 53) rfl rfl ?_
  first | refine n_imul (pc := 54) rfl ?_ | refine q_imul (pc := 54) rfl ?_
  first | refine n_isub (pc := 55) rfl (by omega) ?_ | refine q_isub (pc := 55) rfl ?_
  refine q_istore_n (pc := 56) [_, _, _] rfl (Nat.le_of_ble_eq_true rfl) rfl ?_
  exact kk
theorem m_flow {n r : Nat} (hd : 4 ≤ d) (H : HR P h s) (hl : 75 ≤ P.1) (N : NW s β) (T : MT s n C E) (hk : bok β n) (hr : r ≤ 6) (kk : ∀ h' s', HR P h' s' → gf fS fF s s' → NW s' (flob C E β r) → Q none h') : wc d 173 [.ref 54, .int (nI r)] h Q := by
  refine wc.go [_, _, _] rfl ?_
  refine q_aload_n (pc := 0) rfl rfl rfl ?_
  refine q_aload_n (pc := 1) rfl rfl rfl ?_
  refine q_getf (pc := 2) rfl (by exact HR.c H hl _ rfl) rfl rfl ?_
  refine q_bipush (pc := 5) rfl (nI 90) (by decide) ?_
  refine n_ild (pc := 7) rfl (by first | exact HR.la H hl rfl rfl N | exact HR.la0 H hl rfl rfl) rfl (by omega) (by omega) ?_
  refine r_pf2 (pc := 8) (i := 20) rfl H hl rfl rfl rfl rfl (Nat.le_of_ble_eq_true rfl) rfl rfl ?_
  intro h H
  refine q_bipush (pc := 11) rfl (nI 36) (by decide) ?_
  refine q_bipush (pc := 13) rfl (nI 6) (by decide) ?_
  refine q_iload_n (pc := 15) rfl rfl ?_
  first | refine n_imul (pc := 16) rfl ?_ | refine q_imul (pc := 16) rfl ?_
  first | refine n_isub (pc := 17) rfl (by omega) ?_ | refine q_isub (pc := 17) rfl ?_
  refine q_istore_n (pc := 18) [_, _, _] rfl (Nat.le_of_ble_eq_true rfl) rfl ?_
  have f0 : gf fS fF s (stv s 54 20 (nI (β 90))) := gf.fd (Or.inl rfl) rfl
  refine m_flow1 hd hl hk hr (N.fr (S := fun i => i = 54) (sf.rf.st rfl) (by decide) : NW (stv s 54 20 (nI (β 90))) β) (T.fr (f0.mf (fun i g => by unfold fS at g; unfold mS; omega) (by unfold fF; decide))) stv_a (fun h' s' H f c1 => ?_) (36 - (36 - 6 * r)) (36 - 6 * r) (by omega) (Nat.le_refl _) h _ H sf.rf (fun j h1 h2 => by omega)
  exact m_flowS hl hr (m_flow2 hl hk hr c1 (fun h2 s2 H f2 N2 => kk _ _ H ((f0.tr (gf.of f (fun i g => by unfold fS; omega) (by decide))).tr (gf.of f2 (fun i g => by unfold fS; omega) (by decide))) N2) (36 - (36 - 6 * r)) (36 - 6 * r) (by omega) (Nat.le_refl _) h' s' H sf.rf (by rw [flo1_0]; exact (N.fr (S := fun i => i = 54) (s' := stv s 54 20 (nI (β 90))) (sf.rf.st rfl) (by decide)).fr f (by decide)))
theorem m_tide (hd : 20 ≤ d) (H : HR P h s) (hl : 75 ≤ P.1) (N : NW s β) (K : AOK P.2.1 β κ ik tp tz σ sz) (Mk : MK s P.2.1 κ ik tp tz C E σ sz cl) (kk : ∀ h' s', HR P h' s' → NW s' (n_tide C E β x) → mf s s' → Q (some (.int (o_tide C E β x))) h') : wc d 175 [.ref 54, .int x] h Q := by
  have K4 := K.1.2.2.1
  have KK := K.1
  have K89 := K.2.1
  refine wc.go [_, _] rfl ?_
  refine q_iload_n (pc := 0) rfl rfl ?_
  refine q_iconst (pc := 1) rfl (nI 0) (by decide) ?_
  refine q_bipush (pc := 2) rfl (nI 6) (by decide) ?_
  refine q_callS (pc := 4) _ (by decide) rfl rfl rfl rfl (Nat.le_of_ble_eq_true rfl) (by omega) _ rfl ?_
  refine m_in0 (by decide) (fun w hw e => ?_) (fun g => ?_)
  · subst e
    have z1 : Hd (rg 7 (nI w) = w) := rg_in (by omega) (by decide)
    refine q_ifne (pc := 7) rfl (fun _ => ?_) (fun z => absurd z (by decide))
    refine q_aload_n (pc := 13) rfl rfl rfl ?_
    refine q_getf (pc := 14) rfl (by exact HR.c H hl _ rfl) rfl rfl ?_
    refine q_bipush (pc := 17) rfl (nI 89) (by decide) ?_
    refine n_ild (pc := 19) rfl (by first | exact HR.la H hl rfl rfl N | exact HR.la0 H hl rfl rfl) rfl (by omega) (by omega) ?_
    refine q_sipush (pc := 20) rfl (nI 999) (by decide) ?_
    first | refine n_icmpne (pc := 23) rfl (by omega) (by omega) (fun h23 => ?_) (fun h23 => ?_) | refine q_icmpne (pc := 23) rfl (fun h23 => ?_) (fun h23 => ?_)
    · first
      | (exfalso; omega (config := {splitDisjunctions := false}))
      | exact absurd rfl h23
      | skip
        refine q_aload_n (pc := 29) rfl rfl rfl ?_
        refine q_iload_n (pc := 30) rfl rfl ?_
        refine q_callV (pc := 31) _ rfl rfl rfl (by exact HR.c H hl _ rfl) rfl (Nat.le_of_ble_eq_true rfl) (by omega) _ rfl ?_
        refine m_flow (by omega) H hl N Mk.2.2.2.2.1 KK hw ?_
        intro h s1 H f1 N
        refine q_aload_n (pc := 34) rfl rfl rfl ?_
        refine q_callV (pc := 35) _ rfl rfl rfl (by exact HR.c H hl _ rfl) rfl (Nat.le_of_ble_eq_true rfl) (by omega) _ rfl ?_
        refine m_wrongs (by omega) H hl N (bok_flo (C := C) (E := E) (r := w) KK K89).1 ?_
        refine q_iret (pc := 38) rfl (rfl) ?_
        unfold o_tide n_tide at kk
        rw [z1.out, if_pos (by omega), if_pos (by omega), if_pos (by omega)] at kk
        exact kk _ _ H N (f1.mf (fun i g => by unfold fS at g; unfold mS; omega) (by unfold fF; decide))
    · first
      | (exfalso; omega (config := {splitDisjunctions := false}))
      | exact absurd rfl h23
      | skip
        refine q_bipush (pc := 26) rfl (-3) (by decide) ?_
        refine q_iret (pc := 28) rfl (rfl) ?_
        unfold o_tide n_tide at kk
        rw [z1.out, if_neg (by omega), if_pos (by omega), if_neg (by omega)] at kk
        exact kk _ _ H N mf.rf
  · have z1 : Hd (rg 7 x = 7) := rg_out g
    refine q_ifne (pc := 7) rfl (fun z => absurd z (by decide)) (fun _ => ?_)
    refine q_bipush (pc := 10) rfl (-2) (by decide) ?_
    refine q_iret (pc := 12) rfl (rfl) ?_
    unfold o_tide n_tide at kk
    rw [z1.out, if_neg (by omega), if_neg (by omega)] at kk
    exact kk _ _ H N mf.rf
def lS (i : Nat) : Prop := i = 54 ∨ i = 55 ∨ i = 63
theorem m_laid {n : Nat} (hd : 6 ≤ d) (H : HR P h s) (hl : 75 ≤ P.1) (N : NW s β) (T : MT s n C E) (hk : bok β n) (hp : p < 4) (hc : c < 36) (kk : ∀ h' s', HR P h' s' → gf lS tF s s' → NW s' (layb C E β p c) → Q (some (.int (nI (mnN C E β p c)))) h') : wc d 176 [.ref 54, .int (nI p), .int (nI c)] h Q := by
  obtain ⟨k1, k2, k3, k4⟩ := hk.2.1 p hp
  refine wc.go [_, _, _, _] rfl ?_
  refine q_aload_n (pc := 0) rfl rfl rfl ?_
  refine q_iload_n (pc := 1) rfl rfl ?_
  refine q_iload_n (pc := 2) rfl rfl ?_
  refine q_callV (pc := 3) _ rfl rfl rfl (by exact HR.c H hl _ rfl) rfl (Nat.le_of_ble_eq_true rfl) (by omega) _ rfl ?_
  refine m_minutes (by omega) H hl N T hk hp hc ?_
  intro h s1 H f1 tk
  have N := N.fr f1.1 (by unfold tS; decide)
  have T := T.fr (f1.mf (fun i g => by unfold tS at g; unfold mS; omega) (by unfold tF; omega))
  refine q_istore_n (pc := 6) [_, _, _, _] rfl (Nat.le_of_ble_eq_true rfl) rfl ?_
  refine q_aload_n (pc := 7) rfl rfl rfl ?_
  refine q_getf (pc := 8) rfl (by exact HR.c H hl _ rfl) rfl rfl ?_
  refine q_iload_n (pc := 11) rfl rfl ?_
  refine q_aload_n (pc := 12) rfl rfl rfl ?_
  refine q_iload_n (pc := 13) rfl rfl ?_
  refine q_callV (pc := 14) _ rfl rfl rfl (by exact HR.c H hl _ rfl) rfl (Nat.le_of_ble_eq_true rfl) (by omega) _ rfl ?_
  refine m_lays (by omega) H hl N T hk.2.2.2.2 hk.1 tk k1 k2 hc ?_
  intro h s2 H f2
  have N := N.fr f2 (by decide)
  refine r_ist2 (pc := 17) rfl H hl rfl (fun _ => rfl) rfl (by omega) (by omega) ?_
  intro h H
  have N := N.up (j := c) (u := lyG C E β (β (72 + 4 * p)) (β (72 + 4 * p + 1)) (β 90) c)
  refine q_aload_n (pc := 18) rfl rfl rfl ?_
  refine q_getf (pc := 19) rfl (by exact HR.c H hl _ rfl) rfl rfl ?_
  refine q_bipush (pc := 22) rfl (nI 72) (by decide) ?_
  refine q_iconst (pc := 24) rfl (nI 4) (by decide) ?_
  refine q_iload_n (pc := 25) rfl rfl ?_
  first | refine n_imul (pc := 26) rfl ?_ | refine q_imul (pc := 26) rfl ?_
  first | refine n_iadd (pc := 27) rfl ?_ | refine q_iadd (pc := 27) rfl ?_
  refine q_iconst (pc := 28) rfl (nI 2) (by decide) ?_
  first | refine n_iadd (pc := 29) rfl ?_ | refine q_iadd (pc := 29) rfl ?_
  refine q_iload_n (pc := 30) rfl rfl ?_
  refine r_ist2 (pc := 31) rfl H hl rfl (fun _ => rfl) rfl (by omega) (by omega) ?_
  intro h H
  have N := N.up (j := 72 + 4 * p + 2) (u := c)
  refine q_aload_n (pc := 32) rfl rfl rfl ?_
  refine q_getf (pc := 33) rfl (by exact HR.c H hl _ rfl) rfl rfl ?_
  refine q_bipush (pc := 36) rfl (nI 72) (by decide) ?_
  refine q_iconst (pc := 38) rfl (nI 4) (by decide) ?_
  refine q_iload_n (pc := 39) rfl rfl ?_
  first | refine n_imul (pc := 40) rfl ?_ | refine q_imul (pc := 40) rfl ?_
  first | refine n_iadd (pc := 41) rfl ?_ | refine q_iadd (pc := 41) rfl ?_
  refine q_iconst (pc := 42) rfl (nI 3) (by decide) ?_
  first | refine n_iadd (pc := 43) rfl ?_ | refine q_iadd (pc := 43) rfl ?_
  refine q_sipush (pc := 44) rfl (nI 9999) (by decide) ?_
  refine q_aload_n (pc := 47) rfl rfl rfl ?_
  refine q_getf (pc := 48) rfl (by exact HR.c H hl _ rfl) rfl rfl ?_
  refine q_bipush (pc := 51) rfl (nI 72) (by decide) ?_
  refine q_iconst (pc := 53) rfl (nI 4) (by decide) ?_
  refine q_iload_n (pc := 54) rfl rfl ?_
  first | refine n_imul (pc := 55) rfl ?_ | refine q_imul (pc := 55) rfl ?_
  first | refine n_iadd (pc := 56) rfl ?_ | refine q_iadd (pc := 56) rfl ?_
  refine q_iconst (pc := 57) rfl (nI 3) (by decide) ?_
  first | refine n_iadd (pc := 58) rfl ?_ | refine q_iadd (pc := 58) rfl ?_
  refine n_ild (pc := 59) rfl (by first | exact HR.la H hl rfl rfl N | exact HR.la0 H hl rfl rfl) rfl (by omega) (by omega) ?_
  rw [upN_n (by omega), upN_n (by omega)]
  refine q_iconst (pc := 60) rfl (nI 1) (by decide) ?_
  first | refine n_iadd (pc := 61) rfl ?_ | refine q_iadd (pc := 61) rfl ?_
  first | refine n_min (pc := 62) rfl rfl (by omega) (by omega) ?_ | refine q_min (pc := 62) rfl rfl ?_
  rw [Nat.min_comm]
  refine r_ist2 (pc := 65) rfl H hl rfl (fun _ => rfl) rfl (by omega) (by omega) ?_
  intro h H
  have N := N.up (j := 72 + 4 * p + 3) (u := min (β (72 + 4 * p + 3) + 1) 9999)
  refine q_iload_n (pc := 66) rfl rfl ?_
  refine q_iret (pc := 67) rfl (rfl) ?_
  exact kk _ _ H ((f1.mono (fun i g => by unfold tS at g; unfold lS; omega) (fun i g => g)).tr (((gf.of (S := lS) (F := tF) f2 (fun i g => by unfold lS; omega) (by decide)).tr (gf.wr (b := 55) (by unfold lS; omega) (by decide))).tr ((gf.wr (b := 55) (by unfold lS; omega) (by decide)).tr (gf.wr (b := 55) (by unfold lS; omega) (by decide))))) N
theorem m_relay (hd : 20 ≤ d) (H : HR P h s) (hl : 75 ≤ P.1) (N : NW s β) (K : AOK P.2.1 β κ ik tp tz σ sz) (Mk : MK s P.2.1 κ ik tp tz C E σ sz cl) (kk : ∀ h' s', HR P h' s' → NW s' (n_relay C E β x y) → mf s s' → Q (some (.int (o_relay C E β x y))) h') : wc d 177 [.ref 54, .int x, .int y] h Q := by
  have K4 := K.1.2.2.1
  have KK := K.1
  have K89 := K.2.1
  refine wc.go [_, _, _] rfl ?_
  refine q_aload_n (pc := 0) rfl rfl rfl ?_
  refine q_iload_n (pc := 1) rfl rfl ?_
  refine q_callV (pc := 2) _ rfl rfl rfl (by exact HR.c H hl _ rfl) rfl (Nat.le_of_ble_eq_true rfl) (by omega) _ rfl ?_
  refine m_isOne (by omega) H hl N K4 (fun p hp e => ?_) (fun g => ?_)
  · subst e
    have zp : Hd (rg (β 88) (nI p) = p) := rg_in hp (by omega)
    refine q_ifeq (pc := 5) rfl (fun z => absurd z (by decide)) (fun _ => ?_)
    refine q_iload_n (pc := 8) rfl rfl ?_
    refine q_callS (pc := 9) _ (by decide) rfl rfl rfl rfl (Nat.le_of_ble_eq_true rfl) (by omega) _ rfl ?_
    refine m_isCell (by omega) (fun c0 hc0 e => ?_) (fun g => ?_)
    · subst e
      have zc : Hd (rg 36 (nI c0) = c0) := rg_in hc0 (by decide)
      refine q_ifeq (pc := 12) rfl (fun z => absurd z (by decide)) (fun _ => ?_)
      refine q_aload_n (pc := 15) rfl rfl rfl ?_
      refine q_iload_n (pc := 16) rfl rfl ?_
      refine q_iload_n (pc := 17) rfl rfl ?_
      refine q_callV (pc := 18) _ rfl rfl rfl (by exact HR.c H hl _ rfl) rfl (Nat.le_of_ble_eq_true rfl) (by omega) _ rfl ?_
      refine m_laid (by omega) H hl N Mk.2.2.2.2.1 KK (by omega) hc0 ?_
      intro h s1 H f1 N
      refine q_goto (pc := 21) rfl ?_
      refine q_iret (pc := 26) rfl (rfl) ?_
      unfold o_relay n_relay at kk
      first
      | (rw [zp.out, zc.out, if_pos (by omega), if_pos (by omega)] at kk
         exact kk _ _ H N (f1.mf (fun i g => by unfold lS at g; unfold mS; omega) (by unfold tF; omega)))
      | (rw [zp.out, if_neg (by omega), if_neg (by omega)] at kk
         exact kk _ _ H N mf.rf)
      | (rw [zc.out, if_neg (by omega), if_neg (by omega)] at kk
         exact kk _ _ H N mf.rf)
    · have zc : Hd (rg 36 y = 36) := rg_out g
      refine q_ifeq (pc := 12) rfl (fun _ => ?_) (fun z => absurd (by decide) z)
      refine q_bipush (pc := 24) rfl (-2) (by decide) ?_
      refine q_iret (pc := 26) rfl (rfl) ?_
      unfold o_relay n_relay at kk
      first
      | (rw [zp.out, zc.out, if_pos (by omega), if_pos (by omega)] at kk
         exact kk _ _ H N (f1.mf (fun i g => by unfold lS at g; unfold mS; omega) (by unfold tF; omega)))
      | (rw [zp.out, if_neg (by omega), if_neg (by omega)] at kk
         exact kk _ _ H N mf.rf)
      | (rw [zc.out, if_neg (by omega), if_neg (by omega)] at kk
         exact kk _ _ H N mf.rf)
  · have zp : Hd (rg (β 88) x = β 88) := rg_out g
    refine q_ifeq (pc := 5) rfl (fun _ => ?_) (fun z => absurd (by decide) z)
    refine q_bipush (pc := 24) rfl (-2) (by decide) ?_
    refine q_iret (pc := 26) rfl (rfl) ?_
    unfold o_relay n_relay at kk
    first
    | (rw [zp.out, zc.out, if_pos (by omega), if_pos (by omega)] at kk
       exact kk _ _ H N (f1.mf (fun i g => by unfold lS at g; unfold mS; omega) (by unfold tF; omega)))
    | (rw [zp.out, if_neg (by omega), if_neg (by omega)] at kk
       exact kk _ _ H N mf.rf)
    | (rw [zc.out, if_neg (by omega), if_neg (by omega)] at kk
       exact kk _ _ H N mf.rf)
end P49
