/-! ===== the reference: set, staff, told, force, image, back, count ===== -/
section P47
variable {d k pc a i j c p b t n m part q : Nat} {v : Int} {L L' : mx_L} {st r : List Value} {P : mx_Pm} {h : mx_H} {s : mx_St} {Q : Option Value → mx_H → Prop} {x y w z u : Int32} {β κ : Nat → Nat} {C : Nat → Nat → Int32} {E : Nat → Nat → Nat} {ik tz : Nat} {tp : Nat → Nat} {σ : Nat → Int32} {sz : Nat → Nat} {cl : Nat → Nat → Int32}
theorem z_in {j n : Nat} (g : nI j < 0 ∨ nI n ≤ nI j) (h : j < n) (hn : n < 2 ^ 31) : False := x_out h hn g
theorem m_in0 {n : Nat} (hn : n < 2 ^ 30) (ht : ∀ j, j ≤ n → x = nI j → Q (some (.int 1)) h) (hf : (x < 0 ∨ nI (n + 1) ≤ x) → Q (some (.int 0)) h) : wc d 132 [.int x, .int (nI 0), .int (nI n)] h Q := by
  refine c_isIn (fun h1 h2 => ?_) (fun g => hf (out_of (by omega) (fun ⟨j, hj, e⟩ => g ?_)))
  · obtain ⟨j, hj, rfl⟩ := x_of (Int32.not_lt.mpr h1)
    exact ht j (x_le h2 hj (by omega)) rfl
  · subst e
    exact ⟨nI_pos' (by omega), (nI_leI (by omega) (by omega)).mpr (by omega)⟩
theorem m_told (hd : 20 ≤ d) (H : HR P h s) (hl : 75 ≤ P.1) (N : NW s β) (K : AOK P.2.1 β κ ik tp tz σ sz) (kk : ∀ h' s', HR P h' s' → NW s' β → mf s s' → Q (some (.int (o_told β x y))) h') : wc d 145 [.ref 54, .int x, .int y] h Q := by
  have K4 := K.1.2.2.1
  have KK := K.1
  have K89 := K.2.1
  rcases rgc 7 (by decide) y with ⟨w, hw7, rfl, z1⟩ | ⟨g, z1⟩
  · by_cases hw : w < 5
    ·
      refine wc.go [_, _, _] rfl ?_
      refine q_iload_n (pc := 0) rfl rfl ?_
      refine q_iconst (pc := 1) rfl (nI 0) (by decide) ?_
      refine q_bipush (pc := 2) rfl (nI 6) (by decide) ?_
      refine q_callS (pc := 4) _ (by decide) rfl rfl rfl rfl (Nat.le_of_ble_eq_true rfl) (by omega) _ rfl ?_
      refine m_in0 (by decide) (fun w hw e => ?_) (fun g => ?_)
      · obtain rfl := x_eq e.symm (by omega) (by omega)
        refine q_ifeq (pc := 7) rfl (fun z => absurd z (by decide)) (fun _ => ?_)
        refine q_aload_n (pc := 10) rfl rfl rfl ?_
        refine q_iload_n (pc := 11) rfl rfl ?_
        refine q_iload_n (pc := 12) rfl rfl ?_
        refine q_callV (pc := 13) _ rfl rfl rfl (by exact HR.c H hl _ rfl) rfl (Nat.le_of_ble_eq_true rfl) (by omega) _ rfl ?_
        refine m_place4 (by omega) H hl N K4 hw (fun hj => ?_) (fun hj => ?_)
        · have hj5 := nI_m1 (m := plt β x (nI w)) (by omega)
          refine q_iconst (pc := 16) rfl (-1) (by decide) ?_
          refine q_icmpne (pc := 17) rfl (fun h17 => ?_) (fun h17 => ?_)
          · 
            first
            | (exfalso; omega (config := {splitDisjunctions := false}))
            | exact absurd rfl h17
            | skip
              refine q_iload_n (pc := 23) rfl rfl ?_
              refine q_iconst (pc := 24) rfl (nI 5) (by decide) ?_
              first | refine n_icmpge (pc := 25) rfl (by omega) (by omega) (fun h25 => ?_) (fun h25 => ?_) | refine q_icmpge (pc := 25) rfl (fun h25 => ?_) (fun h25 => ?_)
              · exfalso; omega
              · first
                | (exfalso; omega (config := {splitDisjunctions := false}))
                | skip
                  refine q_aload_n (pc := 28) rfl rfl rfl ?_
                  refine q_getf (pc := 29) rfl (by exact HR.c H hl _ rfl) rfl rfl ?_
                  refine q_aload_n (pc := 32) rfl rfl rfl ?_
                  refine q_iload_n (pc := 33) rfl rfl ?_
                  refine q_iload_n (pc := 34) rfl rfl ?_
                  refine q_callV (pc := 35) _ rfl rfl rfl (by exact HR.c H hl _ rfl) rfl (Nat.le_of_ble_eq_true rfl) (by omega) _ rfl ?_
                  refine m_place4 (by omega) H hl N K4 hw (fun hj => ?_) (fun hj2 => absurd hj hj2)
                  refine n_ild (pc := 38) rfl (by first | exact HR.la H hl rfl rfl N | exact HR.la0 H hl rfl rfl) rfl (by omega) (by omega) ?_
                  refine q_goto (pc := 39) rfl ?_
                  refine q_iret (pc := 64) rfl (rfl) ?_
                  first
                  | (exact absurd rfl h17)
                  | ((unfold o_told at kk; rw [if_pos hj] at kk; exact kk _ _ H N mf.rf))
          · 
            first
            | (exfalso; omega (config := {splitDisjunctions := false}))
            | exact absurd rfl h17
            | skip
              refine q_bipush (pc := 20) rfl (-2) (by decide) ?_
              refine q_iret (pc := 22) rfl (rfl) ?_
              first
              | ((unfold o_told at kk; rw [if_neg hj] at kk; exact kk _ _ H N mf.rf))
              | (exact absurd h17 hj5)
        · refine q_iconst (pc := 16) rfl (-1) (by decide) ?_
          refine q_icmpne (pc := 17) rfl (fun h17 => ?_) (fun h17 => ?_)
          · 
            first
            | (exfalso; omega (config := {splitDisjunctions := false}))
            | exact absurd rfl h17
            | skip
              refine q_iload_n (pc := 23) rfl rfl ?_
              refine q_iconst (pc := 24) rfl (nI 5) (by decide) ?_
              first | refine n_icmpge (pc := 25) rfl (by omega) (by omega) (fun h25 => ?_) (fun h25 => ?_) | refine q_icmpge (pc := 25) rfl (fun h25 => ?_) (fun h25 => ?_)
              · exfalso; omega
              · first
                | (exfalso; omega (config := {splitDisjunctions := false}))
                | skip
                  refine q_aload_n (pc := 28) rfl rfl rfl ?_
                  refine q_getf (pc := 29) rfl (by exact HR.c H hl _ rfl) rfl rfl ?_
                  refine q_aload_n (pc := 32) rfl rfl rfl ?_
                  refine q_iload_n (pc := 33) rfl rfl ?_
                  refine q_iload_n (pc := 34) rfl rfl ?_
                  refine q_callV (pc := 35) _ rfl rfl rfl (by exact HR.c H hl _ rfl) rfl (Nat.le_of_ble_eq_true rfl) (by omega) _ rfl ?_
                  refine m_place4 (by omega) H hl N K4 hw (fun hj => ?_) (fun hj2 => absurd hj hj2)
                  refine n_ild (pc := 38) rfl (by first | exact HR.la H hl rfl rfl N | exact HR.la0 H hl rfl rfl) rfl (by omega) (by omega) ?_
                  refine q_goto (pc := 39) rfl ?_
                  refine q_iret (pc := 64) rfl (rfl) ?_
                  first
                  | (exact absurd rfl h17)
                  | ((unfold o_told at kk; rw [if_pos hj] at kk; exact kk _ _ H N mf.rf))
          · 
            first
            | (exfalso; omega (config := {splitDisjunctions := false}))
            | exact absurd rfl h17
            | skip
              refine q_bipush (pc := 20) rfl (-2) (by decide) ?_
              refine q_iret (pc := 22) rfl (rfl) ?_
              first
              | ((unfold o_told at kk; rw [if_neg hj] at kk; exact kk _ _ H N mf.rf))
              | (exact absurd h17 hj5)
      · exact (z_in g (by omega) (by decide)).elim
    · have hplt : plt β x (nI w) = if rg (β 88) x < β 88 then (if w = 5 then 72 + 4 * rg (β 88) x else 72 + 4 * rg (β 88) x + 3) else 91 := by
        unfold plt
        rw [z1.out, if_neg (by omega), if_neg (by omega), if_neg (by omega)]
        rcases (show w = 5 ∨ w = 6 by omega) with rfl | rfl
        · rw [if_neg (show ¬ (5 : Nat) = 3 by decide), if_neg (show ¬ (5 : Nat) = 4 by decide), if_pos (show (5 : Nat) = 5 from rfl), if_pos (show (5 : Nat) = 5 from rfl)]
        · rw [if_neg (show ¬ (6 : Nat) = 3 by decide), if_neg (show ¬ (6 : Nat) = 4 by decide), if_neg (show ¬ (6 : Nat) = 5 by decide), if_pos (show (6 : Nat) = 6 from rfl), if_neg (show ¬ (6 : Nat) = 5 by decide)]
      refine wc.go [_, _, _] rfl ?_
      refine q_iload_n (pc := 0) rfl rfl ?_
      refine q_iconst (pc := 1) rfl (nI 0) (by decide) ?_
      refine q_bipush (pc := 2) rfl (nI 6) (by decide) ?_
      refine q_callS (pc := 4) _ (by decide) rfl rfl rfl rfl (Nat.le_of_ble_eq_true rfl) (by omega) _ rfl ?_
      refine m_in0 (by decide) (fun w hw e => ?_) (fun g => ?_)
      · obtain rfl := x_eq e.symm (by omega) (by omega)
        refine q_ifeq (pc := 7) rfl (fun z => absurd z (by decide)) (fun _ => ?_)
        refine q_aload_n (pc := 10) rfl rfl rfl ?_
        refine q_iload_n (pc := 11) rfl rfl ?_
        refine q_iload_n (pc := 12) rfl rfl ?_
        refine q_callV (pc := 13) _ rfl rfl rfl (by exact HR.c H hl _ rfl) rfl (Nat.le_of_ble_eq_true rfl) (by omega) _ rfl ?_
        refine m_place (by omega) H hl N K4 hw7 (fun z => absurd z (by omega)) (fun _ _ z _ => absurd z (by omega)) (fun z _ => absurd z (by omega)) (fun _ p hp e => ?_) (fun _ g => ?_)
        · subst e
          have zp : rg (β 88) (nI p) = p := rg_in hp (by omega)
          rw [zp, if_pos hp] at hplt
          refine q_iconst (pc := 16) rfl (-1) (by decide) ?_
          refine q_icmpne (pc := 17) rfl (fun h17 => ?_) (fun h17 => ?_)
          · 
            first
            | (exfalso; omega (config := {splitDisjunctions := false}))
            | exact absurd rfl h17
            | skip
              refine q_iload_n (pc := 23) rfl rfl ?_
              refine q_iconst (pc := 24) rfl (nI 5) (by decide) ?_
              first | refine n_icmpge (pc := 25) rfl (by omega) (by omega) (fun h25 => ?_) (fun h25 => ?_) | refine q_icmpge (pc := 25) rfl (fun h25 => ?_) (fun h25 => ?_)
              · first
                | (exfalso; omega (config := {splitDisjunctions := false}))
                | skip
                  refine q_aload_n (pc := 42) rfl rfl rfl ?_
                  refine q_getf (pc := 43) rfl (by exact HR.c H hl _ rfl) rfl rfl ?_
                  refine q_bipush (pc := 46) rfl (nI 72) (by decide) ?_
                  refine q_iconst (pc := 48) rfl (nI 4) (by decide) ?_
                  refine q_iload_n (pc := 49) rfl rfl ?_
                  first | refine n_imul (pc := 50) rfl ?_ | refine q_imul (pc := 50) rfl ?_
                  first | refine n_iadd (pc := 51) rfl ?_ | refine q_iadd (pc := 51) rfl ?_
                  refine q_iload_n (pc := 52) rfl rfl ?_
                  refine q_iconst (pc := 53) rfl (nI 5) (by decide) ?_
                  first | refine n_icmpne (pc := 54) rfl (by omega) (by omega) (fun h54 => ?_) (fun h54 => ?_) | refine q_icmpne (pc := 54) rfl (fun h54 => ?_) (fun h54 => ?_)
                  · first
                    | (exfalso; omega (config := {splitDisjunctions := false}))
                    | exact absurd rfl h54
                    | skip
                      refine q_iconst (pc := 61) rfl (nI 3) (by decide) ?_
                      first | refine n_iadd (pc := 62) rfl ?_ | refine q_iadd (pc := 62) rfl ?_
                      refine n_ild (pc := 63) rfl (by first | exact HR.la H hl rfl rfl N | exact HR.la0 H hl rfl rfl) rfl (by omega) (by omega) ?_
                      refine q_iret (pc := 64) rfl (rfl) ?_
                      first
                      | (exact absurd rfl h17)
                      | ((rw [if_pos (show w = 5 by omega)] at hplt; unfold o_told at kk; rw [hplt, if_pos (by omega)] at kk; exact kk _ _ H N mf.rf))
                      | ((rw [if_neg (show ¬ w = 5 by omega)] at hplt; unfold o_told at kk; rw [hplt, if_pos (by omega)] at kk; exact kk _ _ H N mf.rf))
                  · first
                    | (exfalso; omega (config := {splitDisjunctions := false}))
                    | exact absurd rfl h54
                    | skip
                      refine q_iconst (pc := 57) rfl (nI 0) (by decide) ?_
                      refine q_goto (pc := 58) rfl ?_
                      first | refine n_iadd (pc := 62) rfl ?_ | refine q_iadd (pc := 62) rfl ?_
                      refine n_ild (pc := 63) rfl (by first | exact HR.la H hl rfl rfl N | exact HR.la0 H hl rfl rfl) rfl (by omega) (by omega) ?_
                      refine q_iret (pc := 64) rfl (rfl) ?_
                      first
                      | (exact absurd rfl h17)
                      | ((rw [if_pos (show w = 5 by omega)] at hplt; unfold o_told at kk; rw [hplt, if_pos (by omega)] at kk; exact kk _ _ H N mf.rf))
                      | ((rw [if_neg (show ¬ w = 5 by omega)] at hplt; unfold o_told at kk; rw [hplt, if_pos (by omega)] at kk; exact kk _ _ H N mf.rf))
              · exfalso; omega
          · 
            first
            | (exfalso; omega (config := {splitDisjunctions := false}))
            | exact absurd rfl h17
            | skip
              refine q_bipush (pc := 20) rfl (-2) (by decide) ?_
              refine q_iret (pc := 22) rfl (rfl) ?_
              first
              | (exact absurd h17 (nI_m1 (by omega)))
              | ((unfold o_told at kk; rw [hplt, if_neg (by decide)] at kk; exact kk _ _ H N mf.rf))
        · have zp : rg (β 88) x = β 88 := rg_out g
          rw [zp, if_neg (by omega)] at hplt
          refine q_iconst (pc := 16) rfl (-1) (by decide) ?_
          refine q_icmpne (pc := 17) rfl (fun h17 => ?_) (fun h17 => ?_)
          · 
            first
            | (exfalso; omega (config := {splitDisjunctions := false}))
            | exact absurd rfl h17
            | skip
              refine q_iload_n (pc := 23) rfl rfl ?_
              refine q_iconst (pc := 24) rfl (nI 5) (by decide) ?_
              first | refine n_icmpge (pc := 25) rfl (by omega) (by omega) (fun h25 => ?_) (fun h25 => ?_) | refine q_icmpge (pc := 25) rfl (fun h25 => ?_) (fun h25 => ?_)
              · first
                | (exfalso; omega (config := {splitDisjunctions := false}))
                | skip
                  refine q_aload_n (pc := 42) rfl rfl rfl ?_
                  refine q_getf (pc := 43) rfl (by exact HR.c H hl _ rfl) rfl rfl ?_
                  refine q_bipush (pc := 46) rfl (nI 72) (by decide) ?_
                  refine q_iconst (pc := 48) rfl (nI 4) (by decide) ?_
                  refine q_iload_n (pc := 49) rfl rfl ?_
                  first | refine n_imul (pc := 50) rfl ?_ | refine q_imul (pc := 50) rfl ?_
                  first | refine n_iadd (pc := 51) rfl ?_ | refine q_iadd (pc := 51) rfl ?_
                  refine q_iload_n (pc := 52) rfl rfl ?_
                  refine q_iconst (pc := 53) rfl (nI 5) (by decide) ?_
                  first | refine n_icmpne (pc := 54) rfl (by omega) (by omega) (fun h54 => ?_) (fun h54 => ?_) | refine q_icmpne (pc := 54) rfl (fun h54 => ?_) (fun h54 => ?_)
                  · first
                    | (exfalso; omega (config := {splitDisjunctions := false}))
                    | exact absurd rfl h54
                    | skip
                      refine q_iconst (pc := 61) rfl (nI 3) (by decide) ?_
                      first | refine n_iadd (pc := 62) rfl ?_ | refine q_iadd (pc := 62) rfl ?_
                      refine n_ild (pc := 63) rfl (by first | exact HR.la H hl rfl rfl N | exact HR.la0 H hl rfl rfl) rfl (by omega) (by omega) ?_
                      refine q_iret (pc := 64) rfl (rfl) ?_
                      first
                      | (exact absurd rfl h17)
                      | ((rw [if_pos (show w = 5 by omega)] at hplt; unfold o_told at kk; rw [hplt, if_pos (by omega)] at kk; exact kk _ _ H N mf.rf))
                      | ((rw [if_neg (show ¬ w = 5 by omega)] at hplt; unfold o_told at kk; rw [hplt, if_pos (by omega)] at kk; exact kk _ _ H N mf.rf))
                  · first
                    | (exfalso; omega (config := {splitDisjunctions := false}))
                    | exact absurd rfl h54
                    | skip
                      refine q_iconst (pc := 57) rfl (nI 0) (by decide) ?_
                      refine q_goto (pc := 58) rfl ?_
                      first | refine n_iadd (pc := 62) rfl ?_ | refine q_iadd (pc := 62) rfl ?_
                      refine n_ild (pc := 63) rfl (by first | exact HR.la H hl rfl rfl N | exact HR.la0 H hl rfl rfl) rfl (by omega) (by omega) ?_
                      refine q_iret (pc := 64) rfl (rfl) ?_
                      first
                      | (exact absurd rfl h17)
                      | ((rw [if_pos (show w = 5 by omega)] at hplt; unfold o_told at kk; rw [hplt, if_pos (by omega)] at kk; exact kk _ _ H N mf.rf))
                      | ((rw [if_neg (show ¬ w = 5 by omega)] at hplt; unfold o_told at kk; rw [hplt, if_pos (by omega)] at kk; exact kk _ _ H N mf.rf))
              · exfalso; omega
          · 
            first
            | (exfalso; omega (config := {splitDisjunctions := false}))
            | exact absurd rfl h17
            | skip
              refine q_bipush (pc := 20) rfl (-2) (by decide) ?_
              refine q_iret (pc := 22) rfl (rfl) ?_
              first
              | (exact absurd h17 (nI_m1 (by omega)))
              | ((unfold o_told at kk; rw [hplt, if_neg (by decide)] at kk; exact kk _ _ H N mf.rf))
      · exact (z_in g (by omega) (by decide)).elim
  · have hplt : plt β x y = 91 := by
      unfold plt
      rw [z1.out, if_neg (by decide), if_neg (by decide), if_neg (by decide)]
      split
      · rw [if_neg (by decide), if_neg (by decide), if_neg (by decide), if_neg (by decide)]
      · rfl
    refine wc.go [_, _, _] rfl ?_
    refine q_iload_n (pc := 0) rfl rfl ?_
    refine q_iconst (pc := 1) rfl (nI 0) (by decide) ?_
    refine q_bipush (pc := 2) rfl (nI 6) (by decide) ?_
    refine q_callS (pc := 4) _ (by decide) rfl rfl rfl rfl (Nat.le_of_ble_eq_true rfl) (by omega) _ rfl ?_
    refine m_in0 (by decide) (fun w hw e => ?_) (fun g2 => ?_)
    · exact (rg_no g e ⟨by omega, by decide⟩).elim
    · refine q_ifeq (pc := 7) rfl (fun _ => ?_) (fun z => absurd (by decide) z)
      refine q_bipush (pc := 20) rfl (-2) (by decide) ?_
      refine q_iret (pc := 22) rfl (rfl) ?_
      unfold o_told at kk
      rw [hplt, if_neg (by decide)] at kk
      exact kk _ _ H N mf.rf
theorem m_set (hd : 20 ≤ d) (H : HR P h s) (hl : 75 ≤ P.1) (N : NW s β) (K : AOK P.2.1 β κ ik tp tz σ sz) (kk : ∀ h' s', HR P h' s' → NW s' (n_set β x y z) → mf s s' → Q (some (.int (o_set β x y z))) h') : wc d 143 [.ref 54, .int x, .int y, .int z] h Q := by
  have K4 := K.1.2.2.1
  have KK := K.1
  have K89 := K.2.1
  rcases rgc 5 (by decide) x with ⟨w, hw, rfl, z1⟩ | ⟨g, z1⟩
  · have hm : mst (nI w) = if w = 0 then 1000 else if w = 4 then 36 else 10 := by
      unfold mst
      rw [z1.out]
    have hmb : 1 ≤ mst (nI w) ∧ mst (nI w) ≤ 1000 := by
      rw [hm]
      (repeat' split) <;> omega
    have key : wq d 143 33 [some (.ref 54), some (.int (nI w)), some (.int y), some (.int z), none] [.int (nI (mst (nI w) - 1)), .int (nI 0), .int z] h Q := by
      refine q_callS (pc := 33) _ (by decide) rfl rfl rfl rfl (Nat.le_of_ble_eq_true rfl) (by omega) _ rfl ?_
      refine m_in0 (n := mst (nI w) - 1) (by omega) (fun v hv e => ?_) (fun g => ?_)
      · subst e
        have hv2 : v < mst (nI w) := by omega
        have zv : rg (mst (nI w)) (nI v) = v := rg_in hv2 (by omega)
        refine q_ifeq (pc := 36) rfl (fun z => absurd z (by decide)) (fun _ => ?_)
        refine q_aload_n (pc := 39) rfl rfl rfl ?_
        refine q_iload_n (pc := 40) rfl rfl ?_
        refine q_iload_n (pc := 41) rfl rfl ?_
        refine q_callV (pc := 42) _ rfl rfl rfl (by exact HR.c H hl _ rfl) rfl (Nat.le_of_ble_eq_true rfl) (by omega) _ rfl ?_
        refine m_place4 (by omega) H hl N K4 hw (fun hj => ?_) (fun hj => ?_)
        · refine q_iconst (pc := 45) rfl (-1) (by decide) ?_
          refine q_icmpne (pc := 46) rfl (fun h46 => ?_) (fun h46 => ?_)
          · 
            first
            | (exfalso; omega (config := {splitDisjunctions := false}))
            | exact absurd rfl h46
            | skip
              refine q_aload_n (pc := 52) rfl rfl rfl ?_
              refine q_getf (pc := 53) rfl (by exact HR.c H hl _ rfl) rfl rfl ?_
              refine q_aload_n (pc := 56) rfl rfl rfl ?_
              refine q_iload_n (pc := 57) rfl rfl ?_
              refine q_iload_n (pc := 58) rfl rfl ?_
              refine q_callV (pc := 59) _ rfl rfl rfl (by exact HR.c H hl _ rfl) rfl (Nat.le_of_ble_eq_true rfl) (by omega) _ rfl ?_
              refine m_place4 (by omega) H hl N K4 hw (fun hj => ?_) (fun hj2 => absurd hj hj2)
              refine n_ild (pc := 62) rfl (by first | exact HR.la H hl rfl rfl N | exact HR.la0 H hl rfl rfl) rfl (by omega) (by omega) ?_
              refine q_istore (pc := 63) [_, _, _, _, _] rfl (Nat.le_of_ble_eq_true rfl) rfl ?_
              refine q_aload_n (pc := 65) rfl rfl rfl ?_
              refine q_getf (pc := 66) rfl (by exact HR.c H hl _ rfl) rfl rfl ?_
              refine q_aload_n (pc := 69) rfl rfl rfl ?_
              refine q_iload_n (pc := 70) rfl rfl ?_
              refine q_iload_n (pc := 71) rfl rfl ?_
              refine q_callV (pc := 72) _ rfl rfl rfl (by exact HR.c H hl _ rfl) rfl (Nat.le_of_ble_eq_true rfl) (by omega) _ rfl ?_
              refine m_place4 (by omega) H hl N K4 hw (fun hj => ?_) (fun hj2 => absurd hj hj2)
              refine q_iload_n (pc := 75) rfl rfl ?_
              refine r_ist2 (pc := 76) rfl H hl rfl (fun _ => rfl) rfl (by omega) (by omega) ?_
              intro h H
              refine q_iload (pc := 77) rfl rfl ?_
              refine q_iret (pc := 79) rfl (rfl) ?_
              first
              | (exact absurd rfl h46)
              | ((unfold o_set n_set o_told at kk; rw [z1.out, zv, if_pos (by omega), if_pos (by omega), if_pos (by omega)] at kk; exact kk _ _ H N.up (mf.wr (Or.inr (Or.inl rfl)) (by decide))))
          · 
            first
            | (exfalso; omega (config := {splitDisjunctions := false}))
            | exact absurd rfl h46
            | skip
              refine q_bipush (pc := 49) rfl (-2) (by decide) ?_
              refine q_iret (pc := 51) rfl (rfl) ?_
              first
              | (exact absurd h46 (nI_m1 (by omega)))
              | ((unfold o_set n_set o_told at kk; rw [z1.out, zv, if_neg (by omega), if_neg (by omega)] at kk; exact kk _ _ H N mf.rf))
              | ((unfold o_set n_set o_told at kk; rw [z1.out, zv, if_neg (by omega), if_pos (by omega), if_neg (by omega)] at kk; exact kk _ _ H N mf.rf))
        · refine q_iconst (pc := 45) rfl (-1) (by decide) ?_
          refine q_icmpne (pc := 46) rfl (fun h46 => ?_) (fun h46 => ?_)
          · 
            first
            | (exfalso; omega (config := {splitDisjunctions := false}))
            | exact absurd rfl h46
            | skip
              refine q_aload_n (pc := 52) rfl rfl rfl ?_
              refine q_getf (pc := 53) rfl (by exact HR.c H hl _ rfl) rfl rfl ?_
              refine q_aload_n (pc := 56) rfl rfl rfl ?_
              refine q_iload_n (pc := 57) rfl rfl ?_
              refine q_iload_n (pc := 58) rfl rfl ?_
              refine q_callV (pc := 59) _ rfl rfl rfl (by exact HR.c H hl _ rfl) rfl (Nat.le_of_ble_eq_true rfl) (by omega) _ rfl ?_
              refine m_place4 (by omega) H hl N K4 hw (fun hj => ?_) (fun hj2 => absurd hj hj2)
              refine n_ild (pc := 62) rfl (by first | exact HR.la H hl rfl rfl N | exact HR.la0 H hl rfl rfl) rfl (by omega) (by omega) ?_
              refine q_istore (pc := 63) [_, _, _, _, _] rfl (Nat.le_of_ble_eq_true rfl) rfl ?_
              refine q_aload_n (pc := 65) rfl rfl rfl ?_
              refine q_getf (pc := 66) rfl (by exact HR.c H hl _ rfl) rfl rfl ?_
              refine q_aload_n (pc := 69) rfl rfl rfl ?_
              refine q_iload_n (pc := 70) rfl rfl ?_
              refine q_iload_n (pc := 71) rfl rfl ?_
              refine q_callV (pc := 72) _ rfl rfl rfl (by exact HR.c H hl _ rfl) rfl (Nat.le_of_ble_eq_true rfl) (by omega) _ rfl ?_
              refine m_place4 (by omega) H hl N K4 hw (fun hj => ?_) (fun hj2 => absurd hj hj2)
              refine q_iload_n (pc := 75) rfl rfl ?_
              refine r_ist2 (pc := 76) rfl H hl rfl (fun _ => rfl) rfl (by omega) (by omega) ?_
              intro h H
              refine q_iload (pc := 77) rfl rfl ?_
              refine q_iret (pc := 79) rfl (rfl) ?_
              first
              | (exact absurd rfl h46)
              | ((unfold o_set n_set o_told at kk; rw [z1.out, zv, if_pos (by omega), if_pos (by omega), if_pos (by omega)] at kk; exact kk _ _ H N.up (mf.wr (Or.inr (Or.inl rfl)) (by decide))))
          · 
            first
            | (exfalso; omega (config := {splitDisjunctions := false}))
            | exact absurd rfl h46
            | skip
              refine q_bipush (pc := 49) rfl (-2) (by decide) ?_
              refine q_iret (pc := 51) rfl (rfl) ?_
              first
              | (exact absurd h46 (nI_m1 (by omega)))
              | ((unfold o_set n_set o_told at kk; rw [z1.out, zv, if_neg (by omega), if_neg (by omega)] at kk; exact kk _ _ H N mf.rf))
              | ((unfold o_set n_set o_told at kk; rw [z1.out, zv, if_neg (by omega), if_pos (by omega), if_neg (by omega)] at kk; exact kk _ _ H N mf.rf))
      · have g : z < 0 ∨ nI (mst (nI w)) ≤ z := by rw [show mst (nI w) - 1 + 1 = mst (nI w) by omega] at g; exact g
        have zv : rg (mst (nI w)) z = mst (nI w) := rg_out g
        refine q_ifeq (pc := 36) rfl (fun _ => ?_) (fun z => absurd (by decide) z)
        refine q_bipush (pc := 49) rfl (-2) (by decide) ?_
        refine q_iret (pc := 51) rfl (rfl) ?_
        first
        | (exact absurd h46 (nI_m1 (by omega)))
        | ((unfold o_set n_set o_told at kk; rw [z1.out, zv, if_neg (by omega), if_neg (by omega)] at kk; exact kk _ _ H N mf.rf))
        | ((unfold o_set n_set o_told at kk; rw [z1.out, zv, if_neg (by omega), if_pos (by omega), if_neg (by omega)] at kk; exact kk _ _ H N mf.rf))
    refine wc.go [_, _, _, _, _] rfl ?_
    refine q_iload_n (pc := 0) rfl rfl ?_
    refine q_iconst (pc := 1) rfl (nI 0) (by decide) ?_
    refine q_iconst (pc := 2) rfl (nI 4) (by decide) ?_
    refine q_callS (pc := 3) _ (by decide) rfl rfl rfl rfl (Nat.le_of_ble_eq_true rfl) (by omega) _ rfl ?_
    refine m_in0 (by decide) (fun w2 hw2 e => ?_) (fun g => ?_)
    · obtain rfl := x_eq e.symm (by omega) (by omega)
      refine q_ifeq (pc := 6) rfl (fun z => absurd z (by decide)) (fun _ => ?_)
      refine q_iload_n (pc := 9) rfl rfl ?_
      refine q_iconst (pc := 10) rfl (nI 0) (by decide) ?_
      refine q_iload_n (pc := 11) rfl rfl ?_
      first | refine n_ifne (pc := 12) rfl (by omega) (fun h12 => ?_) (fun h12 => ?_) | refine q_ifne (pc := 12) rfl (fun h12 => ?_) (fun h12 => ?_)
      · first
        | (exfalso; omega (config := {splitDisjunctions := false}))
        | exact absurd rfl h12
        | skip
          refine q_iload_n (pc := 21) rfl rfl ?_
          refine q_iconst (pc := 22) rfl (nI 4) (by decide) ?_
          first | refine n_icmpne (pc := 23) rfl (by omega) (by omega) (fun h23 => ?_) (fun h23 => ?_) | refine q_icmpne (pc := 23) rfl (fun h23 => ?_) (fun h23 => ?_)
          · first
            | (exfalso; omega (config := {splitDisjunctions := false}))
            | exact absurd rfl h23
            | skip
              refine q_bipush (pc := 31) rfl (nI 9) (by decide) ?_
              first
              | ((rw [hm, if_pos (by omega)] at key; exact key))
              | ((rw [hm, if_neg (by omega), if_pos (by omega)] at key; exact key))
              | ((rw [hm, if_neg (by omega), if_neg (by omega)] at key; exact key))
          · first
            | (exfalso; omega (config := {splitDisjunctions := false}))
            | exact absurd rfl h23
            | skip
              refine q_bipush (pc := 26) rfl (nI 35) (by decide) ?_
              refine q_goto (pc := 28) rfl ?_
              first
              | ((rw [hm, if_pos (by omega)] at key; exact key))
              | ((rw [hm, if_neg (by omega), if_pos (by omega)] at key; exact key))
              | ((rw [hm, if_neg (by omega), if_neg (by omega)] at key; exact key))
      · first
        | (exfalso; omega (config := {splitDisjunctions := false}))
        | exact absurd rfl h12
        | skip
          refine q_sipush (pc := 15) rfl (nI 999) (by decide) ?_
          refine q_goto (pc := 18) rfl ?_
          first
          | ((rw [hm, if_pos (by omega)] at key; exact key))
          | ((rw [hm, if_neg (by omega), if_pos (by omega)] at key; exact key))
          | ((rw [hm, if_neg (by omega), if_neg (by omega)] at key; exact key))
    · exact (z_in g (by omega) (by decide)).elim
  · have e1 : o_set β x y z = -2 ∧ n_set β x y z = β := by
      unfold o_set n_set
      rw [z1.out, if_neg (by omega), if_neg (by omega)]
      exact ⟨rfl, rfl⟩
    rw [e1.1, e1.2] at kk
    refine wc.go [_, _, _, _, _] rfl ?_
    refine q_iload_n (pc := 0) rfl rfl ?_
    refine q_iconst (pc := 1) rfl (nI 0) (by decide) ?_
    refine q_iconst (pc := 2) rfl (nI 4) (by decide) ?_
    refine q_callS (pc := 3) _ (by decide) rfl rfl rfl rfl (Nat.le_of_ble_eq_true rfl) (by omega) _ rfl ?_
    refine m_in0 (by decide) (fun w hw e => ?_) (fun g2 => ?_)
    · exact (rg_no g e ⟨by omega, by decide⟩).elim
    · refine q_ifeq (pc := 6) rfl (fun _ => ?_) (fun z => absurd (by decide) z)
      refine q_bipush (pc := 49) rfl (-2) (by decide) ?_
      refine q_iret (pc := 51) rfl (rfl) ?_
      exact kk _ _ H N mf.rf
theorem m_staff (hd : 20 ≤ d) (H : HR P h s) (hl : 75 ≤ P.1) (N : NW s β) (K : AOK P.2.1 β κ ik tp tz σ sz) (kk : ∀ h' s', HR P h' s' → NW s' (n_staff β x y z) → mf s s' → Q (some (.int (o_staff β x y z))) h') : wc d 144 [.ref 54, .int x, .int y, .int z] h Q := by
  have K4 := K.1.2.2.1
  have KK := K.1
  have K89 := K.2.1
  refine wc.go [_, _, _, _, _] rfl ?_
  refine q_iload_n (pc := 0) rfl rfl ?_
  refine q_iconst (pc := 1) rfl (nI 0) (by decide) ?_
  refine q_iconst (pc := 2) rfl (nI 5) (by decide) ?_
  refine q_callS (pc := 3) _ (by decide) rfl rfl rfl rfl (Nat.le_of_ble_eq_true rfl) (by omega) _ rfl ?_
  refine m_in0 (by decide) (fun k0 hk0 e => ?_) (fun g => ?_)
  · subst e
    have z1 : Hd (rg 6 (nI k0) = k0) := rg_in (by omega) (by decide)
    refine q_ifeq (pc := 6) rfl (fun z => absurd z (by decide)) (fun _ => ?_)
    refine q_iload_n (pc := 9) rfl rfl ?_
    refine q_iconst (pc := 10) rfl (nI 0) (by decide) ?_
    refine q_bipush (pc := 11) rfl (nI 9) (by decide) ?_
    refine q_callS (pc := 13) _ (by decide) rfl rfl rfl rfl (Nat.le_of_ble_eq_true rfl) (by omega) _ rfl ?_
    refine m_in0 (by decide) (fun n0 hn0 e => ?_) (fun g => ?_)
    · subst e
      have z2 : Hd (rg 10 (nI n0) = n0) := rg_in (by omega) (by decide)
      refine q_ifeq (pc := 16) rfl (fun z => absurd z (by decide)) (fun _ => ?_)
      refine q_iload_n (pc := 19) rfl rfl ?_
      refine q_callS (pc := 20) _ (by decide) rfl rfl rfl rfl (Nat.le_of_ble_eq_true rfl) (by omega) _ rfl ?_
      refine m_isCell (by omega) (fun c0 hc0 e => ?_) (fun g => ?_)
      · subst e
        have z3 : Hd (rg 36 (nI c0) = c0) := rg_in hc0 (by decide)
        refine q_ifne (pc := 23) rfl (fun _ => ?_) (fun z => absurd z (by decide))
        refine q_aload_n (pc := 29) rfl rfl rfl ?_
        refine q_callV (pc := 30) _ rfl rfl rfl (by exact HR.c H hl _ rfl) rfl (Nat.le_of_ble_eq_true rfl) (by omega) _ rfl ?_
        refine m_many H hl N ?_
        refine q_iconst (pc := 33) rfl (nI 4) (by decide) ?_
        first | refine n_icmpne (pc := 34) rfl (by omega) (by omega) (fun h34 => ?_) (fun h34 => ?_) | refine q_icmpne (pc := 34) rfl (fun h34 => ?_) (fun h34 => ?_)
        · first
          | (exfalso; omega (config := {splitDisjunctions := false}))
          | exact absurd rfl h34
          | skip
            refine q_aload_n (pc := 40) rfl rfl rfl ?_
            refine q_callV (pc := 41) _ rfl rfl rfl (by exact HR.c H hl _ rfl) rfl (Nat.le_of_ble_eq_true rfl) (by omega) _ rfl ?_
            refine m_many H hl N ?_
            refine q_istore (pc := 44) [_, _, _, _, _] rfl (Nat.le_of_ble_eq_true rfl) rfl ?_
            refine q_aload_n (pc := 46) rfl rfl rfl ?_
            refine q_getf (pc := 47) rfl (by exact HR.c H hl _ rfl) rfl rfl ?_
            refine q_bipush (pc := 50) rfl (nI 72) (by decide) ?_
            refine q_iconst (pc := 52) rfl (nI 4) (by decide) ?_
            refine q_iload (pc := 53) rfl rfl ?_
            first | refine n_imul (pc := 55) rfl ?_ | refine q_imul (pc := 55) rfl ?_
            first | refine n_iadd (pc := 56) rfl ?_ | refine q_iadd (pc := 56) rfl ?_
            refine q_iload_n (pc := 57) rfl rfl ?_
            refine r_ist2 (pc := 58) rfl H hl rfl (fun _ => rfl) rfl (by omega) (by omega) ?_
            intro h H
            have N := N.up (j := 72 + 4 * β 88) (u := k0)
            refine q_aload_n (pc := 59) rfl rfl rfl ?_
            refine q_getf (pc := 60) rfl (by exact HR.c H hl _ rfl) rfl rfl ?_
            refine q_bipush (pc := 63) rfl (nI 72) (by decide) ?_
            refine q_iconst (pc := 65) rfl (nI 4) (by decide) ?_
            refine q_iload (pc := 66) rfl rfl ?_
            first | refine n_imul (pc := 68) rfl ?_ | refine q_imul (pc := 68) rfl ?_
            first | refine n_iadd (pc := 69) rfl ?_ | refine q_iadd (pc := 69) rfl ?_
            refine q_iconst (pc := 70) rfl (nI 1) (by decide) ?_
            first | refine n_iadd (pc := 71) rfl ?_ | refine q_iadd (pc := 71) rfl ?_
            refine q_iload_n (pc := 72) rfl rfl ?_
            refine r_ist2 (pc := 73) rfl H hl rfl (fun _ => rfl) rfl (by omega) (by omega) ?_
            intro h H
            have N := N.up (j := 72 + 4 * β 88 + 1) (u := n0)
            refine q_aload_n (pc := 74) rfl rfl rfl ?_
            refine q_getf (pc := 75) rfl (by exact HR.c H hl _ rfl) rfl rfl ?_
            refine q_bipush (pc := 78) rfl (nI 72) (by decide) ?_
            refine q_iconst (pc := 80) rfl (nI 4) (by decide) ?_
            refine q_iload (pc := 81) rfl rfl ?_
            first | refine n_imul (pc := 83) rfl ?_ | refine q_imul (pc := 83) rfl ?_
            first | refine n_iadd (pc := 84) rfl ?_ | refine q_iadd (pc := 84) rfl ?_
            refine q_iconst (pc := 85) rfl (nI 2) (by decide) ?_
            first | refine n_iadd (pc := 86) rfl ?_ | refine q_iadd (pc := 86) rfl ?_
            refine q_iload_n (pc := 87) rfl rfl ?_
            refine r_ist2 (pc := 88) rfl H hl rfl (fun _ => rfl) rfl (by omega) (by omega) ?_
            intro h H
            have N := N.up (j := 72 + 4 * β 88 + 2) (u := c0)
            refine q_aload_n (pc := 89) rfl rfl rfl ?_
            refine q_getf (pc := 90) rfl (by exact HR.c H hl _ rfl) rfl rfl ?_
            refine q_bipush (pc := 93) rfl (nI 72) (by decide) ?_
            refine q_iconst (pc := 95) rfl (nI 4) (by decide) ?_
            refine q_iload (pc := 96) rfl rfl ?_
            first | refine n_imul (pc := 98) rfl ?_ | refine q_imul (pc := 98) rfl ?_
            first | refine n_iadd (pc := 99) rfl ?_ | refine q_iadd (pc := 99) rfl ?_
            refine q_iconst (pc := 100) rfl (nI 3) (by decide) ?_
            first | refine n_iadd (pc := 101) rfl ?_ | refine q_iadd (pc := 101) rfl ?_
            refine q_iconst (pc := 102) rfl (nI 0) (by decide) ?_
            refine r_ist2 (pc := 103) rfl H hl rfl (fun _ => rfl) rfl (by omega) (by omega) ?_
            intro h H
            have N := N.up (j := 72 + 4 * β 88 + 3) (u := 0)
            refine q_aload_n (pc := 104) rfl rfl rfl ?_
            refine q_getf (pc := 105) rfl (by exact HR.c H hl _ rfl) rfl rfl ?_
            refine q_bipush (pc := 108) rfl (nI 88) (by decide) ?_
            refine q_dup2 (pc := 110) rfl ⟨rfl, rfl⟩ ?_
            refine n_ild (pc := 111) rfl (by first | exact HR.la H hl rfl rfl N | exact HR.la0 H hl rfl rfl) rfl (by omega) (by omega) ?_
            rw [upN_n (by omega), upN_n (by omega), upN_n (by omega), upN_n (by omega)]
            refine q_iconst (pc := 112) rfl (nI 1) (by decide) ?_
            first | refine n_iadd (pc := 113) rfl ?_ | refine q_iadd (pc := 113) rfl ?_
            refine r_ist2 (pc := 114) rfl H hl rfl (fun _ => rfl) rfl (by omega) (by omega) ?_
            intro h H
            have N := N.up (j := 88) (u := β 88 + 1)
            refine q_iload (pc := 115) rfl rfl ?_
            refine q_iret (pc := 117) rfl (rfl) ?_
            have e1 : o_staff β (nI k0) (nI n0) (nI c0) = nI (β 88) ∧ n_staff β (nI k0) (nI n0) (nI c0) = joinb β k0 n0 c0 := by
              unfold o_staff n_staff
              rw [z1.out, z2.out, z3.out, if_pos (by omega), if_pos (by omega), if_pos (by omega)]
              exact ⟨rfl, rfl⟩
            rw [e1.1, e1.2] at kk
            exact kk _ _ H N (((((mf.wr (by unfold mS; omega) (by decide)).tr (mf.wr (by unfold mS; omega) (by decide))).tr (mf.wr (by unfold mS; omega) (by decide))).tr (mf.wr (by unfold mS; omega) (by decide))).tr (mf.wr (by unfold mS; omega) (by decide)))
        · first
          | (exfalso; omega (config := {splitDisjunctions := false}))
          | exact absurd rfl h34
          | skip
            refine q_bipush (pc := 37) rfl (-4) (by decide) ?_
            refine q_iret (pc := 39) rfl (rfl) ?_
            have e1 : o_staff β (nI k0) (nI n0) (nI c0) = -4 ∧ n_staff β (nI k0) (nI n0) (nI c0) = β := by
              unfold o_staff n_staff
              rw [z1.out, z2.out, z3.out, if_pos (by omega), if_neg (by omega), if_neg (by omega)]
              exact ⟨rfl, rfl⟩
            rw [e1.1, e1.2] at kk
            exact kk _ _ H N mf.rf
      · have z3 : Hd (rg 36 z = 36) := rg_out g
        refine q_ifne (pc := 23) rfl (fun z => absurd z (by decide)) (fun _ => ?_)
        refine q_bipush (pc := 26) rfl (-2) (by decide) ?_
        refine q_iret (pc := 28) rfl (rfl) ?_
        first
        | (have e1 : o_staff β (nI k0) (nI n0) z = -2 ∧ n_staff β (nI k0) (nI n0) z = β := by
             unfold o_staff n_staff
             rw [z3.out, if_neg (by omega), if_neg (by omega)]
             exact ⟨rfl, rfl⟩
           rw [e1.1, e1.2] at kk
           exact kk _ _ H N mf.rf)
        | (have e1 : o_staff β (nI k0) y z = -2 ∧ n_staff β (nI k0) y z = β := by
             unfold o_staff n_staff
             rw [z2.out, if_neg (by omega), if_neg (by omega)]
             exact ⟨rfl, rfl⟩
           rw [e1.1, e1.2] at kk
           exact kk _ _ H N mf.rf)
        | (have e1 : o_staff β x y z = -2 ∧ n_staff β x y z = β := by
             unfold o_staff n_staff
             rw [z1.out, if_neg (by omega), if_neg (by omega)]
             exact ⟨rfl, rfl⟩
           rw [e1.1, e1.2] at kk
           exact kk _ _ H N mf.rf)
    · have z2 : Hd (rg 10 y = 10) := rg_out g
      refine q_ifeq (pc := 16) rfl (fun _ => ?_) (fun z => absurd (by decide) z)
      refine q_bipush (pc := 26) rfl (-2) (by decide) ?_
      refine q_iret (pc := 28) rfl (rfl) ?_
      first
      | (have e1 : o_staff β (nI k0) (nI n0) z = -2 ∧ n_staff β (nI k0) (nI n0) z = β := by
           unfold o_staff n_staff
           rw [z3.out, if_neg (by omega), if_neg (by omega)]
           exact ⟨rfl, rfl⟩
         rw [e1.1, e1.2] at kk
         exact kk _ _ H N mf.rf)
      | (have e1 : o_staff β (nI k0) y z = -2 ∧ n_staff β (nI k0) y z = β := by
           unfold o_staff n_staff
           rw [z2.out, if_neg (by omega), if_neg (by omega)]
           exact ⟨rfl, rfl⟩
         rw [e1.1, e1.2] at kk
         exact kk _ _ H N mf.rf)
      | (have e1 : o_staff β x y z = -2 ∧ n_staff β x y z = β := by
           unfold o_staff n_staff
           rw [z1.out, if_neg (by omega), if_neg (by omega)]
           exact ⟨rfl, rfl⟩
         rw [e1.1, e1.2] at kk
         exact kk _ _ H N mf.rf)
  · have z1 : Hd (rg 6 x = 6) := rg_out g
    refine q_ifeq (pc := 6) rfl (fun _ => ?_) (fun z => absurd (by decide) z)
    refine q_bipush (pc := 26) rfl (-2) (by decide) ?_
    refine q_iret (pc := 28) rfl (rfl) ?_
    first
    | (have e1 : o_staff β (nI k0) (nI n0) z = -2 ∧ n_staff β (nI k0) (nI n0) z = β := by
         unfold o_staff n_staff
         rw [z3.out, if_neg (by omega), if_neg (by omega)]
         exact ⟨rfl, rfl⟩
       rw [e1.1, e1.2] at kk
       exact kk _ _ H N mf.rf)
    | (have e1 : o_staff β (nI k0) y z = -2 ∧ n_staff β (nI k0) y z = β := by
         unfold o_staff n_staff
         rw [z2.out, if_neg (by omega), if_neg (by omega)]
         exact ⟨rfl, rfl⟩
       rw [e1.1, e1.2] at kk
       exact kk _ _ H N mf.rf)
    | (have e1 : o_staff β x y z = -2 ∧ n_staff β x y z = β := by
         unfold o_staff n_staff
         rw [z1.out, if_neg (by omega), if_neg (by omega)]
         exact ⟨rfl, rfl⟩
       rw [e1.1, e1.2] at kk
       exact kk _ _ H N mf.rf)
theorem m_force (hd : 20 ≤ d) (H : HR P h s) (hl : 75 ≤ P.1) (N : NW s β) (K : AOK P.2.1 β κ ik tp tz σ sz) (Mk : MK s P.2.1 κ ik tp tz C E σ sz cl) (kk : ∀ h' s', HR P h' s' → NW s' (n_force β P.2.1 x) → mf s s' → Q (some (.int (o_force β P.2.1 x))) h') : wc d 163 [.ref 54, .int x] h Q := by
  have K4 := K.1.2.2.1
  have KK := K.1
  have K89 := K.2.1
  have hn6 := Mk.2.2.2.2.1.2.1
  refine wc.go [_, _, _] rfl ?_
  refine q_iload_n (pc := 0) rfl rfl ?_
  refine q_iconst (pc := 1) rfl (nI 0) (by decide) ?_
  refine q_aload_n (pc := 2) rfl rfl rfl ?_
  refine q_getf (pc := 3) rfl (by exact HR.c H hl _ rfl) rfl rfl ?_
  rw [Mk.2.2.2.2.1.1]
  refine q_iconst (pc := 6) rfl (nI 1) (by decide) ?_
  refine q_isub (pc := 7) rfl ?_
  refine q_callS (pc := 8) _ (by decide) rfl rfl rfl rfl (Nat.le_of_ble_eq_true rfl) (by omega) _ rfl ?_
  refine m_inX (by omega) (fun t ht e => ?_) (fun g => ?_)
  · subst e
    have z1 : Hd (rg P.2.1 (nI t) = t) := rg_in ht (by omega)
    refine q_ifne (pc := 11) rfl (fun _ => ?_) (fun z => absurd z (by decide))
    refine q_aload_n (pc := 17) rfl rfl rfl ?_
    refine q_getf (pc := 18) rfl (by exact HR.c H hl _ rfl) rfl rfl ?_
    refine q_bipush (pc := 21) rfl (nI 90) (by decide) ?_
    refine n_ild (pc := 23) rfl (by first | exact HR.la H hl rfl rfl N | exact HR.la0 H hl rfl rfl) rfl (by omega) (by omega) ?_
    refine q_istore_n (pc := 24) [_, _, _] rfl (Nat.le_of_ble_eq_true rfl) rfl ?_
    refine q_aload_n (pc := 25) rfl rfl rfl ?_
    refine q_getf (pc := 26) rfl (by exact HR.c H hl _ rfl) rfl rfl ?_
    refine q_bipush (pc := 29) rfl (nI 90) (by decide) ?_
    refine q_iload_n (pc := 31) rfl rfl ?_
    refine r_ist2 (pc := 32) rfl H hl rfl (fun _ => rfl) rfl (by omega) (by omega) ?_
    intro h H
    have N := N.up (j := 90) (u := t)
    refine q_iload_n (pc := 33) rfl rfl ?_
    refine q_iret (pc := 34) rfl (rfl) ?_
    unfold o_force n_force at kk
    rw [z1.out, if_pos ht, if_pos ht] at kk
    exact kk _ _ H N (mf.wr (by unfold mS; omega) (by decide))
  · have z1 : Hd (rg P.2.1 x = P.2.1) := rg_out g
    refine q_ifne (pc := 11) rfl (fun z => absurd z (by decide)) (fun _ => ?_)
    refine q_bipush (pc := 14) rfl (-2) (by decide) ?_
    refine q_iret (pc := 16) rfl (rfl) ?_
    unfold o_force n_force at kk
    rw [z1.out, if_neg (by omega), if_neg (by omega)] at kk
    exact kk _ _ H N mf.rf
theorem m_image (hd : 20 ≤ d) (H : HR P h s) (hl : 75 ≤ P.1) (N : NW s β) (K : AOK P.2.1 β κ ik tp tz σ sz) (Mk : MK s P.2.1 κ ik tp tz C E σ sz cl) (kk : ∀ h' s', HR P h' s' → NW s' β → MK s' P.2.1 β 1 tp tz C E σ sz cl → sf s s' (fun i => i = 54 ∨ i = 56) → Q (some (.int (nI (β 88)))) h') : wc d 209 [.ref 54] h Q := by
  refine wc.go [_] rfl ?_
  refine q_aload_n (pc := 0) rfl rfl rfl ?_
  refine q_aload_n (pc := 1) rfl rfl rfl ?_
  refine q_getf (pc := 2) rfl (by exact HR.c H hl _ rfl) rfl rfl ?_
  refine q_callV (pc := 5) _ rfl rfl rfl (by exact HR.c H hl _ rfl) rfl (Nat.le_of_ble_eq_true rfl) (by omega) _ rfl ?_
  refine m_keep H hl (Or.inl rfl) N ?_
  intro h s1 H f W1
  have N := N.fr f (by decide)
  refine q_aload_n (pc := 8) rfl rfl rfl ?_
  refine q_iconst (pc := 9) rfl (nI 1) (by decide) ?_
  refine r_pf2 (pc := 10) (i := 3) rfl H hl rfl rfl rfl rfl (Nat.le_of_ble_eq_true rfl) rfl rfl ?_
  intro h H
  have N : NW (stv s1 54 3 (nI 1)) β := N.fr (S := fun i => i = 54) (sf.rf.st rfl) (by decide)
  refine q_aload_n (pc := 13) rfl rfl rfl ?_
  refine q_callV (pc := 14) _ rfl rfl rfl (by exact HR.c H hl _ rfl) rfl (Nat.le_of_ble_eq_true rfl) (by omega) _ rfl ?_
  refine m_many H hl N ?_
  refine q_iret (pc := 17) rfl (rfl) ?_
  have f2 : sf s (stv s1 54 3 (nI 1)) (fun i => i = 54 ∨ i = 56) := (f.mono (fun i g => Or.inr g)).st (Or.inl rfl)
  obtain ⟨a1, a2, a3, a4, ⟨b1, b2, b3⟩, a6, a7, a8⟩ := Mk
  have e54 : ∀ j, j ≠ 3 → stv s1 54 3 (nI 1) 54 j = s 54 j := fun j hj => (stv_o hj).trans (congrFun (f 54 (by decide)) j)
  refine kk _ _ H N ⟨fun i hi => (congrFun (stv_n (by decide)) _).trans (W1 i hi), stv_a, fun i hi => (congrFun (f2 58 (by decide)) _).trans (a3 i hi), (e54 5 (by decide)).trans a4, ⟨(e54 12 (by decide)).trans b1, b2, fun t ht => ?_⟩, fun q hq => ?_, fun k hk i hi => (congrFun (f2 61 (by decide)) _).trans (a7 k hk i hi), fun i hi => (congrFun (f2 74 (by decide)) _).trans (a8 i hi)⟩ f2
  · obtain ⟨g1, g2, g3⟩ := b3 t ht
    exact ⟨fun i hi => (congrFun (f2 59 (by decide)) _).trans (g1 i hi), fun p hp => (congrFun (f2 60 (by decide)) _).trans (g2 p hp), g3⟩
  · obtain ⟨g1, g2, g3⟩ := a6 q hq
    exact ⟨(congrFun (f2 70 (by decide)) _).trans g1, (congrFun (f2 71 (by decide)) _).trans g2, fun i hi => (congrFun (f2 72 (by decide)) _).trans (g3 i hi)⟩
theorem m_back (hd : 20 ≤ d) (H : HR P h s) (hl : 75 ≤ P.1) (N : NW s β) (K : AOK P.2.1 β κ ik tp tz σ sz) (Mk : MK s P.2.1 κ ik tp tz C E σ sz cl) (kk : ∀ h' s', HR P h' s' → NW s' (n_back ik β κ) → mf s s' → Q (some (.int (o_back ik κ))) h') : wc d 210 [.ref 54] h Q := by
  have K4 := K.1.2.2.1
  have KK := K.1
  have K89 := K.2.1
  have hi := K.2.2.2.2.1
  refine wc.go [_] rfl ?_
  refine q_aload_n (pc := 0) rfl rfl rfl ?_
  refine q_getf (pc := 1) rfl (by exact HR.c H hl _ rfl) rfl rfl ?_
  rw [Mk.2.1]
  first | refine n_ifne (pc := 4) rfl (by omega) (fun h4 => ?_) (fun h4 => ?_) | refine q_ifne (pc := 4) rfl (fun h4 => ?_) (fun h4 => ?_)
  · first
    | (exfalso; omega (config := {splitDisjunctions := false}))
    | exact absurd rfl h4
    | skip
      refine q_aload_n (pc := 10) rfl rfl rfl ?_
      refine q_aload_n (pc := 11) rfl rfl rfl ?_
      refine q_getf (pc := 12) rfl (by exact HR.c H hl _ rfl) rfl rfl ?_
      refine q_callV (pc := 15) _ rfl rfl rfl (by exact HR.c H hl _ rfl) rfl (Nat.le_of_ble_eq_true rfl) (by omega) _ rfl ?_
      refine m_lay H hl (Or.inl rfl) Mk.1 ?_
      intro h s1 H f N
      refine q_aload_n (pc := 18) rfl rfl rfl ?_
      refine q_callV (pc := 19) _ rfl rfl rfl (by exact HR.c H hl _ rfl) rfl (Nat.le_of_ble_eq_true rfl) (by omega) _ rfl ?_
      refine m_many H hl N ?_
      refine q_iret (pc := 22) rfl (rfl) ?_
      unfold o_back n_back at kk
      rw [if_neg (by omega), if_neg (by omega)] at kk
      exact kk _ _ H N ⟨f.mono (fun i g => by unfold mS; omega), congrFun (f 54 (by decide)) _, congrFun (f 54 (by decide)) _, congrFun (f 54 (by decide)) _⟩
  · first
    | (exfalso; omega (config := {splitDisjunctions := false}))
    | exact absurd rfl h4
    | skip
      refine q_bipush (pc := 7) rfl (-3) (by decide) ?_
      refine q_iret (pc := 9) rfl (rfl) ?_
      unfold o_back n_back at kk
      rw [if_pos (by omega), if_pos (by omega)] at kk
      exact kk _ _ H N mf.rf
theorem m_count (hd : 20 ≤ d) (H : HR P h s) (hl : 75 ≤ P.1) (N : NW s β) (K : AOK P.2.1 β κ ik tp tz σ sz) (Mk : MK s P.2.1 κ ik tp tz C E σ sz cl) (kk : ∀ h' s', HR P h' s' → NW s' β → mf s s' → Q (some (.int (o_count P.2.1 tz β x))) h') : wc d 211 [.ref 54, .int x] h Q := by
  have K4 := K.1.2.2.1
  have KK := K.1
  have K89 := K.2.1
  refine wc.go [_, _] rfl ?_
  refine q_iload_n (pc := 0) rfl rfl ?_
  rcases rgc 6 (by decide) x with ⟨w, hw, rfl, z1⟩ | ⟨g, z1⟩
  rcases p6 hw with rfl | rfl | rfl | rfl | rfl | rfl
  · refine q_tsw (pc := 1) (t := 40) rfl (by decide) ?_
    refine q_aload_n (pc := 40) rfl rfl rfl ?_
    refine q_callV (pc := 41) _ rfl rfl rfl (by exact HR.c H hl _ rfl) rfl (Nat.le_of_ble_eq_true rfl) (by omega) _ rfl ?_
    refine m_many H hl N ?_
    refine q_iret (pc := 44) rfl (rfl) ?_
    refine eqQ ?_ (kk _ _ H N mf.rf)
    unfold o_count
    rw [z1.out]
    rfl
  · refine q_tsw (pc := 1) (t := 45) rfl (by decide) ?_
    refine q_aload_n (pc := 45) rfl rfl rfl ?_
    refine q_callV (pc := 46) _ rfl rfl rfl (by exact HR.c H hl _ rfl) rfl (Nat.le_of_ble_eq_true rfl) (by omega) _ rfl ?_
    refine m_wrongs (by omega) H hl N KK.1 ?_
    refine q_iret (pc := 49) rfl (rfl) ?_
    refine eqQ ?_ (kk _ _ H N mf.rf)
    unfold o_count
    rw [z1.out]
    rfl
  · refine q_tsw (pc := 1) (t := 50) rfl (by decide) ?_
    refine q_aload_n (pc := 50) rfl rfl rfl ?_
    refine q_getf (pc := 51) rfl (by exact HR.c H hl _ rfl) rfl rfl ?_
    refine q_bipush (pc := 54) rfl (nI 89) (by decide) ?_
    refine n_ild (pc := 56) rfl (by first | exact HR.la H hl rfl rfl N | exact HR.la0 H hl rfl rfl) rfl (by omega) (by omega) ?_
    refine q_iret (pc := 57) rfl (rfl) ?_
    refine eqQ ?_ (kk _ _ H N mf.rf)
    unfold o_count
    rw [z1.out]
    rfl
  · refine q_tsw (pc := 1) (t := 58) rfl (by decide) ?_
    refine q_aload_n (pc := 58) rfl rfl rfl ?_
    refine q_getf (pc := 59) rfl (by exact HR.c H hl _ rfl) rfl rfl ?_
    rw [Mk.2.2.2.2.1.1]
    refine q_iret (pc := 62) rfl (rfl) ?_
    refine eqQ ?_ (kk _ _ H N mf.rf)
    unfold o_count
    rw [z1.out]
    rfl
  · refine q_tsw (pc := 1) (t := 63) rfl (by decide) ?_
    refine q_aload_n (pc := 63) rfl rfl rfl ?_
    refine q_getf (pc := 64) rfl (by exact HR.c H hl _ rfl) rfl rfl ?_
    rw [Mk.2.2.2.1]
    refine q_iret (pc := 67) rfl (rfl) ?_
    refine eqQ ?_ (kk _ _ H N mf.rf)
    unfold o_count
    rw [z1.out]
    rfl
  · refine q_tsw (pc := 1) (t := 68) rfl (by decide) ?_
    refine q_aload_n (pc := 68) rfl rfl rfl ?_
    refine q_getf (pc := 69) rfl (by exact HR.c H hl _ rfl) rfl rfl ?_
    refine q_bipush (pc := 72) rfl (nI 90) (by decide) ?_
    refine n_ild (pc := 74) rfl (by first | exact HR.la H hl rfl rfl N | exact HR.la0 H hl rfl rfl) rfl (by omega) (by omega) ?_
    refine q_iret (pc := 75) rfl (rfl) ?_
    refine eqQ ?_ (kk _ _ H N mf.rf)
    unfold o_count
    rw [z1.out]
    rfl
  · refine q_tsw (pc := 1) (t := 76) rfl ((tsw_d g (by decide) (by decide)).trans rfl) ?_
    refine q_bipush (pc := 76) rfl (-2) (by decide) ?_
    refine q_iret (pc := 78) rfl (rfl) ?_
    refine eqQ ?_ (kk _ _ H N mf.rf)
    unfold o_count
    rw [z1.out]
    rfl
end P47
