/-! ===== the reference: the next sign of the tape ===== -/
section P64
variable {d k pc a i j c p b t n m part q : Nat} {v : Int} {L L' : mx_L} {st r : List Value} {P : mx_Pm} {h : mx_H} {s : mx_St} {Q : Option Value → mx_H → Prop} {x y w z u : Int32} {β κ : Nat → Nat} {C : Nat → Nat → Int32} {E : Nat → Nat → Nat} {ik tz : Nat} {tp : Nat → Nat} {σ : Nat → Int32} {sz : Nat → Nat} {cl : Nat → Nat → Int32}
def srV (b : Nat) : Nat := if b = 256 then 0 else if ltB b = true then 1 else if dgB b = true then 2 else 3
theorem srV_le (b : Nat) : srV b ≤ 3 := by
  unfold srV
  (repeat' split) <;> omega
def TX (s : mx_St) (n : Nat) (tp : Nat → Nat) (tz : Nat) : Prop := s 54 5 = nI tz ∧ (∀ i, i < tz → s 58 i = nI (tp i)) ∧ (tz ≤ 160 ∧ ∀ i, i < tz → tp i ≤ 255) ∧ (∀ k, k < 12 → ∀ i, i < 6 → s 61 (6 * k + i) = wMb k i) ∧ s 54 12 = nI n ∧ n ≤ 5
def qS (i : Nat) : Prop := i = 54 ∨ i = 59 ∨ i = 62
def qF (j : Nat) : Prop := (6 ≤ j ∧ j ≤ 9) ∨ j = 13 ∨ j = 16
theorem TX.fr {s s' : mx_St} (x : TX s n tp tz) (f : gf qS qF s s') : TX s' n tp tz := ⟨(f.2 5 (by unfold qF; omega)).trans x.1, fun i hi => (congrFun (f.1 58 (by unfold qS; omega)) _).trans (x.2.1 i hi), x.2.2.1, fun k hk i hi => (congrFun (f.1 61 (by unfold qS; omega)) _).trans (x.2.2.2.1 k hk i hi), (f.2 12 (by unfold qF; omega)).trans x.2.2.2.2.1, x.2.2.2.2.2⟩
def xS (i : Nat) : Prop := i = 54
def xF (j : Nat) : Prop := 6 ≤ j ∧ j ≤ 8
theorem xq {s s' : mx_St} (f : gf xS xF s s') : gf qS qF s s' := f.mono (fun i g => Or.inl g) (fun j g => by unfold xF at g; unfold qF; omega)
theorem by_in (h : i < tz) : byN tp tz i = tp i := if_pos h
theorem srV_0 (h : tz ≤ i) : srV (byN tp tz i) = 0 := by
  rw [by_far h]
  rfl
theorem srV_1 (hi : i < tz) (h : 97 ≤ tp i ∧ tp i ≤ 122) : srV (byN tp tz i) = 1 := by
  rw [by_in hi]
  unfold srV ltB
  rw [if_neg (by omega), decide_eq_true h, if_pos rfl]
theorem srV_2 (hi : i < tz) (h0 : ¬ (97 ≤ tp i ∧ tp i ≤ 122)) (h : 48 ≤ tp i ∧ tp i ≤ 57) : srV (byN tp tz i) = 2 := by
  rw [by_in hi]
  unfold srV ltB dgB
  rw [if_neg (by omega), decide_eq_false h0, if_neg (by decide), decide_eq_true h, if_pos rfl]
theorem srV_3 (hi : i < tz) (hb : tp i ≤ 255) (h0 : ¬ (97 ≤ tp i ∧ tp i ≤ 122)) (h : ¬ (48 ≤ tp i ∧ tp i ≤ 57)) : srV (byN tp tz i) = 3 := by
  rw [by_in hi]
  unfold srV ltB dgB
  rw [if_neg (by omega), decide_eq_false h0, if_neg (by decide), decide_eq_false h, if_neg (by decide)]
theorem m_sortAt (hd : 1 ≤ d) (H : HR P h s) (hl : 75 ≤ P.1) (hx : TX s n tp tz) (hi : i < 2 ^ 31) (hq : Q (some (.int (nI (srV (byN tp tz i))))) h) : wc d 148 [.ref 54, .int (nI i)] h Q := by
  obtain ⟨x1, x2, ⟨x3, x4⟩, x5, x6⟩ := hx
  refine wc.go [_, _] rfl ?_
  refine q_iload_n (pc := 0) rfl rfl ?_
  refine q_aload_n (pc := 1) rfl rfl rfl ?_
  refine q_getf (pc := 2) rfl (by exact HR.c H hl _ rfl) rfl rfl ?_
  rw [x1]
  first | refine n_icmplt (pc := 5) rfl (by omega) (by omega) (fun h5 => ?_) (fun h5 => ?_) | refine q_icmplt (pc := 5) rfl (fun h5 => ?_) (fun h5 => ?_)
  · have qA : i < tz := by omega
    have x4i := x4 i qA
    first
    | (exfalso; omega (config := {splitDisjunctions := false}))
    | skip
      refine q_aload_n (pc := 12) rfl rfl rfl ?_
      refine q_getf (pc := 13) rfl (by exact HR.c H hl _ rfl) rfl rfl ?_
      refine q_iload_n (pc := 16) rfl rfl ?_
      refine n_ild (pc := 17) rfl (by first | exact HR.la H hl rfl rfl N | exact HR.la0 H hl rfl rfl) rfl (by omega) (by omega) ?_
      rw [x2 i qA]
      refine q_bipush (pc := 18) rfl (nI 97) (by decide) ?_
      refine q_bipush (pc := 20) rfl (nI 122) (by decide) ?_
      refine q_callS (pc := 22) _ (by decide) rfl rfl rfl rfl (Nat.le_of_ble_eq_true rfl) (by omega) _ rfl ?_
      refine m_inR (by decide) (fun j h1 h2 e => ?_) (fun g => ?_)
      · have qB : 97 ≤ tp i ∧ tp i ≤ 122 := by
          have := x_eq e (by omega) (by omega)
          omega
        refine q_ifeq (pc := 25) rfl (fun z => absurd z (by decide)) (fun _ => ?_)
        refine q_iconst (pc := 28) rfl (nI 1) (by decide) ?_
        refine q_goto (pc := 29) rfl ?_
        refine q_iret (pc := 53) rfl (rfl) ?_
        first
        | (rw [srV_0 qA0] at hq
           exact hq)
        | (rw [srV_1 qA qB] at hq
           exact hq)
        | (rw [srV_2 qA qB0 qC] at hq
           exact hq)
        | (rw [srV_3 qA x4i qB0 qC0] at hq
           exact hq)
      · have qB0 : ¬ (97 ≤ tp i ∧ tp i ≤ 122) := fun e => g (tp i) e.1 e.2 rfl
        refine q_ifeq (pc := 25) rfl (fun _ => ?_) (fun z => absurd (by decide) z)
        refine q_aload_n (pc := 32) rfl rfl rfl ?_
        refine q_getf (pc := 33) rfl (by exact HR.c H hl _ rfl) rfl rfl ?_
        refine q_iload_n (pc := 36) rfl rfl ?_
        refine n_ild (pc := 37) rfl (by first | exact HR.la H hl rfl rfl N | exact HR.la0 H hl rfl rfl) rfl (by omega) (by omega) ?_
        rw [x2 i qA]
        refine q_bipush (pc := 38) rfl (nI 48) (by decide) ?_
        refine q_bipush (pc := 40) rfl (nI 57) (by decide) ?_
        refine q_callS (pc := 42) _ (by decide) rfl rfl rfl rfl (Nat.le_of_ble_eq_true rfl) (by omega) _ rfl ?_
        refine m_inR (by decide) (fun j h3 h4 e2 => ?_) (fun g2 => ?_)
        · have qC : 48 ≤ tp i ∧ tp i ≤ 57 := by
            have := x_eq e2 (by omega) (by omega)
            omega
          refine q_ifeq (pc := 45) rfl (fun z => absurd z (by decide)) (fun _ => ?_)
          refine q_iconst (pc := 48) rfl (nI 2) (by decide) ?_
          refine q_goto (pc := 49) rfl ?_
          refine q_iret (pc := 53) rfl (rfl) ?_
          first
          | (rw [srV_0 qA0] at hq
             exact hq)
          | (rw [srV_1 qA qB] at hq
             exact hq)
          | (rw [srV_2 qA qB0 qC] at hq
             exact hq)
          | (rw [srV_3 qA x4i qB0 qC0] at hq
             exact hq)
        · have qC0 : ¬ (48 ≤ tp i ∧ tp i ≤ 57) := fun e => g2 (tp i) e.1 e.2 rfl
          refine q_ifeq (pc := 45) rfl (fun _ => ?_) (fun z => absurd (by decide) z)
          refine q_iconst (pc := 52) rfl (nI 3) (by decide) ?_
          refine q_iret (pc := 53) rfl (rfl) ?_
          first
          | (rw [srV_0 qA0] at hq
             exact hq)
          | (rw [srV_1 qA qB] at hq
             exact hq)
          | (rw [srV_2 qA qB0 qC] at hq
             exact hq)
          | (rw [srV_3 qA x4i qB0 qC0] at hq
             exact hq)
  · have qA0 : tz ≤ i := by omega
    first
    | (exfalso; omega (config := {splitDisjunctions := false}))
    | skip
      refine q_iconst (pc := 8) rfl (nI 0) (by decide) ?_
      refine q_goto (pc := 9) rfl ?_
      refine q_iret (pc := 53) rfl (rfl) ?_
      first
      | (rw [srV_0 qA0] at hq
         exact hq)
      | (rw [srV_1 qA qB] at hq
         exact hq)
      | (rw [srV_2 qA qB0 qC] at hq
         exact hq)
      | (rw [srV_3 qA x4i qB0 qC0] at hq
         exact hq)
theorem m_nextA {R : Nat} (hl : 75 ≤ P.1) {s0 : mx_St} (hx0 : TX s0 n tp tz) (kk : ∀ h' s', HR P h' s' → gf xS xF s0 s' → s' 54 6 = nI R → wq d 149 52 [some (.ref 54)] [] h' Q) (u j : Nat) (hj : j ≤ tz) (hn : tz ≤ u + j) (hr : rnB (fun i => blB (byN tp tz i)) u j = R) (h : mx_H) (s : mx_St) (H : HR P h s) (f : gf xS xF s0 s) (e6 : s 54 6 = nI j) : wq d 149 0 [some (.ref 54)] [] h Q := by
  have hx := hx0.fr (xq f)
  have x1 := hx.1
  have x3 := hx.2.2.1
  match u, hr with
  | 0, hr =>
    have hr : j = R := hr
    subst hr
    refine q_aload_n (pc := 0) rfl rfl rfl ?_
    refine q_getf (pc := 1) rfl (by exact HR.c H hl _ rfl) rfl rfl ?_
    rw [e6]
    refine q_aload_n (pc := 4) rfl rfl rfl ?_
    refine q_getf (pc := 5) rfl (by exact HR.c H hl _ rfl) rfl rfl ?_
    rw [x1]
    first | refine n_icmpge (pc := 8) rfl (by omega) (by omega) (fun h8 => ?_) (fun h8 => ?_) | refine q_icmpge (pc := 8) rfl (fun h8 => ?_) (fun h8 => ?_)
    · exact kk _ _ H f e6
    · first | (exfalso; omega) | exact absurd h8 (nI_pos (by omega)) | exact absurd (nI_pos' (by omega)) h8
  | u + 1, hr =>
    have hr : (if blB (byN tp tz j) = true then rnB (fun i => blB (byN tp tz i)) u (j + 1) else j) = R := hr
    by_cases g : j < tz
    · have x2 := hx.2.1 j g
      have x4 := x3.2 j g
      have eb : byN tp tz j = tp j := by_in g
      by_cases g2 : blB (byN tp tz j) = true
      · rw [if_pos g2] at hr
        have g3 : tp j = 32 ∨ tp j = 10 := by
          rw [eb] at g2
          exact of_decide_eq_true g2
        refine q_aload_n (pc := 0) rfl rfl rfl ?_
        refine q_getf (pc := 1) rfl (by exact HR.c H hl _ rfl) rfl rfl ?_
        rw [e6]
        refine q_aload_n (pc := 4) rfl rfl rfl ?_
        refine q_getf (pc := 5) rfl (by exact HR.c H hl _ rfl) rfl rfl ?_
        rw [x1]
        first | refine n_icmpge (pc := 8) rfl (by omega) (by omega) (fun h8 => ?_) (fun h8 => ?_) | refine q_icmpge (pc := 8) rfl (fun h8 => ?_) (fun h8 => ?_)
        · first | (exfalso; omega) | exact absurd h8 (nI_pos (by omega)) | exact absurd (nI_pos' (by omega)) h8
        · refine q_aload_n (pc := 11) rfl rfl rfl ?_
          refine q_getf (pc := 12) rfl (by exact HR.c H hl _ rfl) rfl rfl ?_
          refine q_aload_n (pc := 15) rfl rfl rfl ?_
          refine q_getf (pc := 16) rfl (by exact HR.c H hl _ rfl) rfl rfl ?_
          rw [e6]
          refine n_ild (pc := 19) rfl (by first | exact HR.la H hl rfl rfl N | exact HR.la0 H hl rfl rfl) rfl (by omega) (by omega) ?_
          rw [x2]
          refine q_bipush (pc := 20) rfl (nI 32) (by decide) ?_
          first | refine n_icmpeq (pc := 22) rfl (by omega) (by omega) (fun h22 => ?_) (fun h22 => ?_) | refine q_icmpeq (pc := 22) rfl (fun h22 => ?_) (fun h22 => ?_)
          · first
            | (exfalso; omega (config := {splitDisjunctions := false}))
            | exact absurd rfl h22
            | skip
              refine q_aload_n (pc := 39) rfl rfl rfl ?_
              refine q_dup (pc := 40) rfl rfl ?_
              refine q_getf (pc := 41) rfl (by exact HR.c H hl _ rfl) rfl rfl ?_
              rw [e6]
              refine q_iconst (pc := 44) rfl (nI 1) (by decide) ?_
              first | refine n_iadd (pc := 45) rfl ?_ | refine q_iadd (pc := 45) rfl ?_
              refine r_pf2 (pc := 46) (i := 6) rfl H hl rfl rfl rfl rfl (Nat.le_of_ble_eq_true rfl) rfl rfl ?_
              intro h H
              refine q_goto (pc := 49) rfl ?_
              exact m_nextA hl hx0 kk u (j + 1) (by omega) (by omega) hr h _ H (f.tr (gf.fd rfl ⟨by omega, by omega⟩)) stv_a
          · first
            | (exfalso; omega (config := {splitDisjunctions := false}))
            | exact absurd rfl h22
            | skip
              refine q_aload_n (pc := 25) rfl rfl rfl ?_
              refine q_getf (pc := 26) rfl (by exact HR.c H hl _ rfl) rfl rfl ?_
              refine q_aload_n (pc := 29) rfl rfl rfl ?_
              refine q_getf (pc := 30) rfl (by exact HR.c H hl _ rfl) rfl rfl ?_
              rw [e6]
              refine n_ild (pc := 33) rfl (by first | exact HR.la H hl rfl rfl N | exact HR.la0 H hl rfl rfl) rfl (by omega) (by omega) ?_
              rw [x2]
              refine q_bipush (pc := 34) rfl (nI 10) (by decide) ?_
              first | refine n_icmpne (pc := 36) rfl (by omega) (by omega) (fun h36 => ?_) (fun h36 => ?_) | refine q_icmpne (pc := 36) rfl (fun h36 => ?_) (fun h36 => ?_)
              · exact absurd g3 (by omega)
              · first
                | (exfalso; omega (config := {splitDisjunctions := false}))
                | exact absurd rfl h36
                | skip
                  refine q_aload_n (pc := 39) rfl rfl rfl ?_
                  refine q_dup (pc := 40) rfl rfl ?_
                  refine q_getf (pc := 41) rfl (by exact HR.c H hl _ rfl) rfl rfl ?_
                  rw [e6]
                  refine q_iconst (pc := 44) rfl (nI 1) (by decide) ?_
                  first | refine n_iadd (pc := 45) rfl ?_ | refine q_iadd (pc := 45) rfl ?_
                  refine r_pf2 (pc := 46) (i := 6) rfl H hl rfl rfl rfl rfl (Nat.le_of_ble_eq_true rfl) rfl rfl ?_
                  intro h H
                  refine q_goto (pc := 49) rfl ?_
                  exact m_nextA hl hx0 kk u (j + 1) (by omega) (by omega) hr h _ H (f.tr (gf.fd rfl ⟨by omega, by omega⟩)) stv_a
      · rw [if_neg g2] at hr
        subst hr
        have g3 : ¬ (tp j = 32 ∨ tp j = 10) := fun e => g2 (by rw [eb]; exact decide_eq_true e)
        refine q_aload_n (pc := 0) rfl rfl rfl ?_
        refine q_getf (pc := 1) rfl (by exact HR.c H hl _ rfl) rfl rfl ?_
        rw [e6]
        refine q_aload_n (pc := 4) rfl rfl rfl ?_
        refine q_getf (pc := 5) rfl (by exact HR.c H hl _ rfl) rfl rfl ?_
        rw [x1]
        first | refine n_icmpge (pc := 8) rfl (by omega) (by omega) (fun h8 => ?_) (fun h8 => ?_) | refine q_icmpge (pc := 8) rfl (fun h8 => ?_) (fun h8 => ?_)
        · first | (exfalso; omega) | exact absurd h8 (nI_pos (by omega)) | exact absurd (nI_pos' (by omega)) h8
        · refine q_aload_n (pc := 11) rfl rfl rfl ?_
          refine q_getf (pc := 12) rfl (by exact HR.c H hl _ rfl) rfl rfl ?_
          refine q_aload_n (pc := 15) rfl rfl rfl ?_
          refine q_getf (pc := 16) rfl (by exact HR.c H hl _ rfl) rfl rfl ?_
          rw [e6]
          refine n_ild (pc := 19) rfl (by first | exact HR.la H hl rfl rfl N | exact HR.la0 H hl rfl rfl) rfl (by omega) (by omega) ?_
          rw [x2]
          refine q_bipush (pc := 20) rfl (nI 32) (by decide) ?_
          first | refine n_icmpeq (pc := 22) rfl (by omega) (by omega) (fun h22 => ?_) (fun h22 => ?_) | refine q_icmpeq (pc := 22) rfl (fun h22 => ?_) (fun h22 => ?_)
          · first
            | (exfalso; omega (config := {splitDisjunctions := false}))
            | exact absurd rfl h22
            | skip
              exact absurd (show tp j = 32 ∨ tp j = 10 by omega) g3
          · first
            | (exfalso; omega (config := {splitDisjunctions := false}))
            | exact absurd rfl h22
            | skip
              refine q_aload_n (pc := 25) rfl rfl rfl ?_
              refine q_getf (pc := 26) rfl (by exact HR.c H hl _ rfl) rfl rfl ?_
              refine q_aload_n (pc := 29) rfl rfl rfl ?_
              refine q_getf (pc := 30) rfl (by exact HR.c H hl _ rfl) rfl rfl ?_
              rw [e6]
              refine n_ild (pc := 33) rfl (by first | exact HR.la H hl rfl rfl N | exact HR.la0 H hl rfl rfl) rfl (by omega) (by omega) ?_
              rw [x2]
              refine q_bipush (pc := 34) rfl (nI 10) (by decide) ?_
              first | refine n_icmpne (pc := 36) rfl (by omega) (by omega) (fun h36 => ?_) (fun h36 => ?_) | refine q_icmpne (pc := 36) rfl (fun h36 => ?_) (fun h36 => ?_)
              · first
                | (exfalso; omega (config := {splitDisjunctions := false}))
                | exact absurd rfl h36
                | skip
                  exact kk _ _ H f e6
              · first
                | (exfalso; omega (config := {splitDisjunctions := false}))
                | exact absurd rfl h36
                | skip
                  exact absurd (show tp j = 32 ∨ tp j = 10 by omega) g3
    · rw [if_neg (by rw [by_far (by omega)]; decide)] at hr
      subst hr
      refine q_aload_n (pc := 0) rfl rfl rfl ?_
      refine q_getf (pc := 1) rfl (by exact HR.c H hl _ rfl) rfl rfl ?_
      rw [e6]
      refine q_aload_n (pc := 4) rfl rfl rfl ?_
      refine q_getf (pc := 5) rfl (by exact HR.c H hl _ rfl) rfl rfl ?_
      rw [x1]
      first | refine n_icmpge (pc := 8) rfl (by omega) (by omega) (fun h8 => ?_) (fun h8 => ?_) | refine q_icmpge (pc := 8) rfl (fun h8 => ?_) (fun h8 => ?_)
      · exact kk _ _ H f e6
      · first | (exfalso; omega) | exact absurd h8 (nI_pos (by omega)) | exact absurd (nI_pos' (by omega)) h8
termination_by u
theorem m_nextB {R c : Nat} (hd : 2 ≤ d) (hl : 75 ≤ P.1) (hc : c = 1 ∨ c = 2) {s0 : mx_St} (hx0 : TX s0 n tp tz) (e80 : s0 54 8 = nI c) (e70 : s0 54 7 = nI a) (kk : ∀ h' s', HR P h' s' → gf xS xF s0 s' → s' 54 6 = nI R → s' 54 7 = nI a → s' 54 8 = nI c → Q none h') (u j : Nat) (hj : j ≤ tz) (hn : tz ≤ u + j) (hr : rnB (fun i => decide (srV (byN tp tz i) = c)) u j = R) (h : mx_H) (s : mx_St) (H : HR P h s) (f : gf xS xF s0 s) (e6 : s 54 6 = nI j) (e7 : s 54 7 = nI a) (e8 : s 54 8 = nI c) : wq d 149 89 [some (.ref 54)] [] h Q := by
  have hx := hx0.fr (xq f)
  have x3 := hx.2.2.1
  match u, hr with
  | 0, hr =>
    have hr : j = R := hr
    subst hr
    have e0 : srV (byN tp tz j) = 0 := srV_0 (by omega)
    refine q_aload_n (pc := 89) rfl rfl rfl ?_
    refine q_getf (pc := 90) rfl (by exact HR.c H hl _ rfl) rfl rfl ?_
    rw [e8]
    refine q_iconst (pc := 93) rfl (nI 3) (by decide) ?_
    first | refine n_icmpge (pc := 94) rfl (by omega) (by omega) (fun h94 => ?_) (fun h94 => ?_) | refine q_icmpge (pc := 94) rfl (fun h94 => ?_) (fun h94 => ?_)
    · first | (exfalso; omega) | exact absurd h94 (nI_pos (by omega)) | exact absurd (nI_pos' (by omega)) h94
    · refine q_aload_n (pc := 97) rfl rfl rfl ?_
      refine q_aload_n (pc := 98) rfl rfl rfl ?_
      refine q_getf (pc := 99) rfl (by exact HR.c H hl _ rfl) rfl rfl ?_
      rw [e6]
      refine q_callV (pc := 102) _ rfl rfl rfl (by exact HR.c H hl _ rfl) rfl (Nat.le_of_ble_eq_true rfl) (by omega) _ rfl ?_
      refine m_sortAt (by omega) H hl hx (by omega) ?_
      rw [e0]
      refine q_aload_n (pc := 105) rfl rfl rfl ?_
      refine q_getf (pc := 106) rfl (by exact HR.c H hl _ rfl) rfl rfl ?_
      rw [e8]
      first | refine n_icmpne (pc := 109) rfl (by omega) (by omega) (fun h109 => ?_) (fun h109 => ?_) | refine q_icmpne (pc := 109) rfl (fun h109 => ?_) (fun h109 => ?_)
      · refine q_vret (pc := 125) rfl rfl ?_
        exact kk _ _ H f e6 e7 e8
      · first | (exfalso; omega) | exact absurd h109 (nI_pos (by omega)) | exact absurd (nI_pos' (by omega)) h109
  | u + 1, hr =>
    have hr : (if decide (srV (byN tp tz j) = c) = true then rnB (fun i => decide (srV (byN tp tz i) = c)) u (j + 1) else j) = R := hr
    have b3 := srV_le (byN tp tz j)
    by_cases g : srV (byN tp tz j) = c
    · rw [if_pos (decide_eq_true g)] at hr
      have hjt : j < tz := by
        refine Classical.byContradiction (fun q => ?_)
        have := srV_0 (tp := tp) (tz := tz) (i := j) (by omega)
        omega
      refine q_aload_n (pc := 89) rfl rfl rfl ?_
      refine q_getf (pc := 90) rfl (by exact HR.c H hl _ rfl) rfl rfl ?_
      rw [e8]
      refine q_iconst (pc := 93) rfl (nI 3) (by decide) ?_
      first | refine n_icmpge (pc := 94) rfl (by omega) (by omega) (fun h94 => ?_) (fun h94 => ?_) | refine q_icmpge (pc := 94) rfl (fun h94 => ?_) (fun h94 => ?_)
      · first | (exfalso; omega) | exact absurd h94 (nI_pos (by omega)) | exact absurd (nI_pos' (by omega)) h94
      · refine q_aload_n (pc := 97) rfl rfl rfl ?_
        refine q_aload_n (pc := 98) rfl rfl rfl ?_
        refine q_getf (pc := 99) rfl (by exact HR.c H hl _ rfl) rfl rfl ?_
        rw [e6]
        refine q_callV (pc := 102) _ rfl rfl rfl (by exact HR.c H hl _ rfl) rfl (Nat.le_of_ble_eq_true rfl) (by omega) _ rfl ?_
        refine m_sortAt (by omega) H hl hx (by omega) ?_
        rw [g]
        refine q_aload_n (pc := 105) rfl rfl rfl ?_
        refine q_getf (pc := 106) rfl (by exact HR.c H hl _ rfl) rfl rfl ?_
        rw [e8]
        first | refine n_icmpne (pc := 109) rfl (by omega) (by omega) (fun h109 => ?_) (fun h109 => ?_) | refine q_icmpne (pc := 109) rfl (fun h109 => ?_) (fun h109 => ?_)
        · first | (exfalso; omega) | exact absurd h109 (nI_pos (by omega)) | exact absurd (nI_pos' (by omega)) h109
        · refine q_aload_n (pc := 112) rfl rfl rfl ?_
          refine q_dup (pc := 113) rfl rfl ?_
          refine q_getf (pc := 114) rfl (by exact HR.c H hl _ rfl) rfl rfl ?_
          rw [e6]
          refine q_iconst (pc := 117) rfl (nI 1) (by decide) ?_
          first | refine n_iadd (pc := 118) rfl ?_ | refine q_iadd (pc := 118) rfl ?_
          refine r_pf2 (pc := 119) (i := 6) rfl H hl rfl rfl rfl rfl (Nat.le_of_ble_eq_true rfl) rfl rfl ?_
          intro h H
          refine q_goto (pc := 122) rfl ?_
          exact m_nextB hd hl hc hx0 e80 e70 kk u (j + 1) (by omega) (by omega) hr h _ H (f.tr (gf.fd rfl ⟨by omega, by omega⟩)) stv_a ((stv_o (by decide)).trans e7) ((stv_o (by decide)).trans e8)
    · rw [if_neg (by rw [decide_eq_false g]; decide)] at hr
      subst hr
      refine q_aload_n (pc := 89) rfl rfl rfl ?_
      refine q_getf (pc := 90) rfl (by exact HR.c H hl _ rfl) rfl rfl ?_
      rw [e8]
      refine q_iconst (pc := 93) rfl (nI 3) (by decide) ?_
      first | refine n_icmpge (pc := 94) rfl (by omega) (by omega) (fun h94 => ?_) (fun h94 => ?_) | refine q_icmpge (pc := 94) rfl (fun h94 => ?_) (fun h94 => ?_)
      · first | (exfalso; omega) | exact absurd h94 (nI_pos (by omega)) | exact absurd (nI_pos' (by omega)) h94
      · refine q_aload_n (pc := 97) rfl rfl rfl ?_
        refine q_aload_n (pc := 98) rfl rfl rfl ?_
        refine q_getf (pc := 99) rfl (by exact HR.c H hl _ rfl) rfl rfl ?_
        rw [e6]
        refine q_callV (pc := 102) _ rfl rfl rfl (by exact HR.c H hl _ rfl) rfl (Nat.le_of_ble_eq_true rfl) (by omega) _ rfl ?_
        refine m_sortAt (by omega) H hl hx (by omega) ?_
        refine q_aload_n (pc := 105) rfl rfl rfl ?_
        refine q_getf (pc := 106) rfl (by exact HR.c H hl _ rfl) rfl rfl ?_
        rw [e8]
        first | refine n_icmpne (pc := 109) rfl (by omega) (by omega) (fun h109 => ?_) (fun h109 => ?_) | refine q_icmpne (pc := 109) rfl (fun h109 => ?_) (fun h109 => ?_)
        · refine q_vret (pc := 125) rfl rfl ?_
          exact kk _ _ H f e6 e7 e8
        · first | (exfalso; omega) | exact absurd h109 (nI_pos (by omega)) | exact absurd (nI_pos' (by omega)) h109
termination_by u
def LX (s : mx_St) (tp : Nat → Nat) (tz i : Nat) : Prop := s 54 6 = nI (if srV (byN tp tz (tpl tp tz i)) = 0 then tpl tp tz i else stP tp tz (i + 1)) ∧ s 54 7 = nI (tpl tp tz i) ∧ s 54 8 = nI (srV (byN tp tz (tpl tp tz i)))
theorem rnB_cg {p q : Nat → Bool} (h : ∀ i, p i = q i) (n j : Nat) : rnB p n j = rnB q n j := by
  rw [show p = q from funext h]
theorem sr1 (b : Nat) : decide (srV b = 1) = ltB b := by
  unfold srV
  by_cases e : b = 256
  · subst e
    rfl
  · rw [if_neg e]
    cases ltB b
    · rw [if_neg (by decide)]
      split <;> rfl
    · rfl
theorem sr2 (b : Nat) : decide (srV b = 2) = dgB b := by
  unfold srV
  by_cases e : b = 256
  · subst e
    rfl
  · rw [if_neg e]
    cases g : ltB b
    · rw [if_neg (by decide)]
      cases dgB b <;> rfl
    · rw [if_pos rfl]
      unfold ltB at g
      have := of_decide_eq_true g
      unfold dgB
      rw [decide_eq_false (show ¬ (48 ≤ b ∧ b ≤ 57) by omega)]
      rfl
theorem en_1 {j : Nat} (h : srV (byN tp tz j) = 1) : enN tp tz j = rnB (fun i => decide (srV (byN tp tz i) = 1)) 160 (j + 1) := by
  unfold enN
  rw [if_pos (by rw [← sr1, h]; rfl)]
  exact rnB_cg (fun i => (sr1 _).symm) _ _
theorem en_2 {j : Nat} (h : srV (byN tp tz j) = 2) : enN tp tz j = rnB (fun i => decide (srV (byN tp tz i) = 2)) 160 (j + 1) := by
  unfold enN
  rw [if_neg (by rw [← sr1, h]; decide), if_pos (by rw [← sr2, h]; rfl)]
  exact rnB_cg (fun i => (sr2 _).symm) _ _
theorem en_3 {j : Nat} (h : srV (byN tp tz j) = 3) : enN tp tz j = j + 1 := by
  unfold enN
  rw [if_neg (by rw [← sr1, h]; decide), if_neg (by rw [← sr2, h]; decide)]
theorem m_nextE (hl : 75 ≤ P.1) (H : HR P h s) (e8 : s 54 8 = nI 3) (kk : Q none h) : wq d 149 89 [some (.ref 54)] [] h Q := by
  refine q_aload_n (pc := 89) rfl rfl rfl ?_
  refine q_getf (pc := 90) rfl (by exact HR.c H hl _ rfl) rfl rfl ?_
  rw [e8]
  refine q_iconst (pc := 93) rfl (nI 3) (by decide) ?_
  first | refine n_icmpge (pc := 94) rfl (by omega) (by omega) (fun h94 => ?_) (fun h94 => ?_) | refine q_icmpge (pc := 94) rfl (fun h94 => ?_) (fun h94 => ?_)
  · refine q_vret (pc := 125) rfl rfl ?_
    exact kk
  · first | (exfalso; omega) | exact absurd h94 (nI_pos (by omega)) | exact absurd (nI_pos' (by omega)) h94
theorem m_nextM (hd : 3 ≤ d) (H : HR P h s) (hl : 75 ≤ P.1) {s0 : mx_St} (hx0 : TX s0 n tp tz) (f : gf xS xF s0 s) (e6 : s 54 6 = nI (tpl tp tz i)) (hz : tpl tp tz i ≤ tz) (kk : ∀ h' s', HR P h' s' → gf xS xF s0 s' → LX s' tp tz i → Q none h') : wq d 149 52 [some (.ref 54)] [] h Q := by
  have hx := hx0.fr (xq f)
  have x3 := hx.2.2.1
  have hs1 : stP tp tz (i + 1) = enN tp tz (tpl tp tz i) := rfl
  have b3 := srV_le (byN tp tz (tpl tp tz i))
  have hlt : srV (byN tp tz (tpl tp tz i)) ≠ 0 → tpl tp tz i < tz := fun e => by
    refine Classical.byContradiction (fun q => e (srV_0 (by omega)))
  refine q_aload_n (pc := 52) rfl rfl rfl ?_
  refine q_aload_n (pc := 53) rfl rfl rfl ?_
  refine q_getf (pc := 54) rfl (by exact HR.c H hl _ rfl) rfl rfl ?_
  rw [e6]
  refine r_pf2 (pc := 57) (i := 7) rfl H hl rfl rfl rfl rfl (Nat.le_of_ble_eq_true rfl) rfl rfl ?_
  intro h H
  refine q_aload_n (pc := 60) rfl rfl rfl ?_
  refine q_aload_n (pc := 61) rfl rfl rfl ?_
  refine q_aload_n (pc := 62) rfl rfl rfl ?_
  refine q_getf (pc := 63) rfl (by exact HR.c H hl _ rfl) rfl rfl ?_
  rw [show stv s 54 7 (nI (tpl tp tz i)) 54 6 = nI (tpl tp tz i) from (stv_o (by decide)).trans e6]
  refine q_callV (pc := 66) _ rfl rfl rfl (by exact HR.c H hl _ rfl) rfl (Nat.le_of_ble_eq_true rfl) (by omega) _ rfl ?_
  have hx2 : TX (stv s 54 7 (nI (tpl tp tz i))) n tp tz := hx.fr (xq (gf.fd rfl ⟨by omega, by omega⟩))
  refine m_sortAt (by omega) H hl hx2 (by omega) ?_
  refine r_pf2 (pc := 69) (i := 8) rfl H hl rfl rfl rfl rfl (Nat.le_of_ble_eq_true rfl) rfl rfl ?_
  intro h H
  have g2 : gf xS xF s0 (stv (stv s 54 7 (nI (tpl tp tz i))) 54 8 (nI (srV (byN tp tz (tpl tp tz i))))) := f.tr ((gf.fd (S := xS) (F := xF) rfl ⟨by omega, by omega⟩).tr (gf.fd (S := xS) (F := xF) rfl ⟨by omega, by omega⟩))
  have c6 : (stv (stv s 54 7 (nI (tpl tp tz i))) 54 8 (nI (srV (byN tp tz (tpl tp tz i))))) 54 6 = nI (tpl tp tz i) := (stv_o (by decide)).trans ((stv_o (by decide)).trans e6)
  have c7 : (stv (stv s 54 7 (nI (tpl tp tz i))) 54 8 (nI (srV (byN tp tz (tpl tp tz i))))) 54 7 = nI (tpl tp tz i) := (stv_o (by decide)).trans stv_a
  have c8 : (stv (stv s 54 7 (nI (tpl tp tz i))) 54 8 (nI (srV (byN tp tz (tpl tp tz i))))) 54 8 = nI (srV (byN tp tz (tpl tp tz i))) := stv_a
  refine q_aload_n (pc := 72) rfl rfl rfl ?_
  refine q_getf (pc := 73) rfl (by exact HR.c H hl _ rfl) rfl rfl ?_
  rw [c8]
  first | refine n_ifle (pc := 76) rfl (by omega) (fun h76 => ?_) (fun h76 => ?_) | refine q_ifle (pc := 76) rfl (fun h76 => ?_) (fun h76 => ?_)
  · have q0 : srV (byN tp tz (tpl tp tz i)) = 0 := by omega
    first
    | (exfalso; omega (config := {splitDisjunctions := false}))
    | skip
      refine q_vret (pc := 125) rfl rfl ?_
      exact kk _ _ H g2 ⟨by rw [if_pos q0]; exact c6, c7, c8⟩
  · have q0f : srV (byN tp tz (tpl tp tz i)) ≠ 0 := by omega
    have hlt := hlt q0f
    first
    | (exfalso; omega (config := {splitDisjunctions := false}))
    | skip
      refine q_aload_n (pc := 79) rfl rfl rfl ?_
      refine q_dup (pc := 80) rfl rfl ?_
      refine q_getf (pc := 81) rfl (by exact HR.c H hl _ rfl) rfl rfl ?_
      rw [c6]
      refine q_iconst (pc := 84) rfl (nI 1) (by decide) ?_
      first | refine n_iadd (pc := 85) rfl ?_ | refine q_iadd (pc := 85) rfl ?_
      refine r_pf2 (pc := 86) (i := 6) rfl H hl rfl rfl rfl rfl (Nat.le_of_ble_eq_true rfl) rfl rfl ?_
      intro h H
      have g3 : gf xS xF s0 (stv (stv (stv s 54 7 (nI (tpl tp tz i))) 54 8 (nI (srV (byN tp tz (tpl tp tz i))))) 54 6 (nI (tpl tp tz i + 1))) := g2.tr (gf.fd rfl ⟨by omega, by omega⟩)
      have k6 : (stv (stv (stv s 54 7 (nI (tpl tp tz i))) 54 8 (nI (srV (byN tp tz (tpl tp tz i))))) 54 6 (nI (tpl tp tz i + 1))) 54 6 = nI (tpl tp tz i + 1) := stv_a
      have k7 : (stv (stv (stv s 54 7 (nI (tpl tp tz i))) 54 8 (nI (srV (byN tp tz (tpl tp tz i))))) 54 6 (nI (tpl tp tz i + 1))) 54 7 = nI (tpl tp tz i) := (stv_o (by decide)).trans c7
      have k8 : (stv (stv (stv s 54 7 (nI (tpl tp tz i))) 54 8 (nI (srV (byN tp tz (tpl tp tz i))))) 54 6 (nI (tpl tp tz i + 1))) 54 8 = nI (srV (byN tp tz (tpl tp tz i))) := (stv_o (by decide)).trans c8
      rcases (show srV (byN tp tz (tpl tp tz i)) = 3 ∨ (srV (byN tp tz (tpl tp tz i)) = 1 ∨ srV (byN tp tz (tpl tp tz i)) = 2) by omega) with q3 | q3f
      · exact m_nextE hl H (by rw [k8, q3]) (kk _ _ H g3 ⟨by rw [if_neg q0f, hs1, en_3 q3]; exact k6, k7, k8⟩)
      refine m_nextB (c := srV (byN tp tz (tpl tp tz i))) (by omega) hl q3f (hx0.fr (xq g3)) k8 k7 (fun h' s' H f e1 e2 e3 => kk _ _ H (g3.tr f) ⟨?_, e2, e3⟩) 160 (tpl tp tz i + 1) (by omega) (by omega) rfl h _ H gf.rf k6 k7 k8
      rw [if_neg q0f, hs1, e1]
      rcases q3f with q | q
      · rw [en_1 q, q]
      · rw [en_2 q, q]
theorem m_next (hd : 3 ≤ d) (H : HR P h s) (hl : 75 ≤ P.1) (hx : TX s n tp tz) (h6 : s 54 6 = nI (stP tp tz i)) (hz : stP tp tz i ≤ tz) (kk : ∀ h' s', HR P h' s' → gf xS xF s s' → LX s' tp tz i → Q none h') : wc d 149 [.ref 54] h Q := by
  have x3 := hx.2.2.1
  have hsk := skN_le (tp := tp) (tz := tz) (j := stP tp tz i)
  have ht : tpl tp tz i = skN tp tz (stP tp tz i) := rfl
  have hs1 : stP tp tz (i + 1) = enN tp tz (tpl tp tz i) := rfl
  have b3 := srV_le (byN tp tz (tpl tp tz i))
  refine wc.go [_] rfl ?_
  refine m_nextA hl hx (fun h s1 H f1 e6 => ?_) 160 (stP tp tz i) hz (by omega) (show _ = tpl tp tz i from rfl) h s H gf.rf h6
  exact m_nextM hd H hl hx f1 e6 (by omega) kk
end P64
