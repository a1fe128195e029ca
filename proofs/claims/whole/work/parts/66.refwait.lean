/-! ===== the reference: signs, what waits is settled ===== -/
section P66
variable {d k pc a i j c p b t n m part q : Nat} {v : Int} {L L' : mx_L} {st r : List Value} {P : mx_Pm} {h : mx_H} {s : mx_St} {Q : Option Value → mx_H → Prop} {x y w z u : Int32} {β κ : Nat → Nat} {C : Nat → Nat → Int32} {E : Nat → Nat → Nat} {ik tz : Nat} {tp : Nat → Nat} {σ : Nat → Int32} {sz : Nat → Nat} {cl : Nat → Nat → Int32}
variable {out : List Int32} {S : List Nat} {o : Nat} {T : Nat → Int32}
def sgP (c : Nat) (x : Int32) : Prop := (c = 40 ∧ x = -16) ∨ (c = 41 ∧ x = -17) ∨ (c = 59 ∧ x = -18) ∨ (c = 43 ∧ x = -12) ∨ (c = 45 ∧ x = -13) ∨ (c = 42 ∧ x = -14) ∨ (c = 60 ∧ x = -10) ∨ (c = 61 ∧ x = -11)
theorem sgV_iff {c : Nat} (hp : sgP c x) : ∀ b, b < 257 → (sgV b = x ↔ b = c) := by
  rcases hp with ⟨rfl, rfl⟩ | ⟨rfl, rfl⟩ | ⟨rfl, rfl⟩ | ⟨rfl, rfl⟩ | ⟨rfl, rfl⟩ | ⟨rfl, rfl⟩ | ⟨rfl, rfl⟩ | ⟨rfl, rfl⟩ <;> decide +kernel
theorem wcd_sg {c : Nat} (hp : sgP c x) : ∀ k, k < 13 → wcd k ≠ x := by
  rcases hp with ⟨rfl, rfl⟩ | ⟨rfl, rfl⟩ | ⟨rfl, rfl⟩ | ⟨rfl, rfl⟩ | ⟨rfl, rfl⟩ | ⟨rfl, rfl⟩ | ⟨rfl, rfl⟩ | ⟨rfl, rfl⟩ <;> decide
theorem sg_neg {c : Nat} (hp : sgP c x) : x < 0 ∧ x ≠ -23 := by
  rcases hp with ⟨rfl, rfl⟩ | ⟨rfl, rfl⟩ | ⟨rfl, rfl⟩ | ⟨rfl, rfl⟩ | ⟨rfl, rfl⟩ | ⟨rfl, rfl⟩ | ⟨rfl, rfl⟩ | ⟨rfl, rfl⟩ <;> decide
theorem sg_no {c : Nat} (hp : sgP c x) (hz : tz ≤ 160 ∧ ∀ i, i < tz → tp i ≤ 255) (h : srV (byN tp tz (tpl tp tz i)) ≠ 3) : tkT tp tz i ≠ x := by
  obtain ⟨n1, n2⟩ := sg_neg hp
  have h3 := srV_le (byN tp tz (tpl tp tz i))
  rcases (show srV (byN tp tz (tpl tp tz i)) = 0 ∨ srV (byN tp tz (tpl tp tz i)) = 1 ∨ srV (byN tp tz (tpl tp tz i)) = 2 by omega) with g | g | g
  · rw [tk_3 (by omega) (by omega)]
    have hb := byN_le (tp := tp) (tz := tz) (j := tpl tp tz i) hz.2
    intro e
    have e2 := (sgV_iff hp _ (by omega)).mp e
    unfold srV at g
    split at g
    · rename_i e3
      rw [e3] at e2
      rcases hp with q | q | q | q | q | q | q | q <;> omega
    · (repeat' split at g) <;> omega
  · rw [tk_1 g]
    exact wcd_sg hp _ (by have := wdN_le (tp := tp) (tz := tz) (u := tpl tp tz i) (w := stP tp tz (i + 1)); omega)
  · rw [tk_2 g]
    split
    · exact fun e => n2 e.symm
    · rename_i g4
      have := nm_lt (tp := tp) (tz := tz) (u := tpl tp tz i) (l := stP tp tz (i + 1) - tpl tp tz i) hz (by omega)
      have h31 : nmF tp tz (tpl tp tz i) (stP tp tz (i + 1) - tpl tp tz i) < 2 ^ 31 := by omega
      exact fun e => nI_pos h31 (by rw [e]; exact n1)
theorem m_isSign {c : Nat} (H : HR P h s) (hl : 75 ≤ P.1) (hx : TX s n tp tz) (X : LX s tp tz i) (hp : sgP c x) (ht : tkT tp tz i = x → Q (some (.int 1)) h) (hf : tkT tp tz i ≠ x → Q (some (.int 0)) h) : wc d 151 [.ref 54, .int (nI c)] h Q := by
  obtain ⟨e6, e7, e8⟩ := X
  have x3 := hx.2.2.1
  have hs3 := srV_le (byN tp tz (tpl tp tz i))
  have hc : c < 100 := by rcases hp with q | q | q | q | q | q | q | q <;> omega
  have hb := byN_le (tp := tp) (tz := tz) (j := tpl tp tz i) x3.2
  have si := sgV_iff hp (byN tp tz (tpl tp tz i)) (by omega)
  refine wc.go [_, _] rfl ?_
  refine q_aload_n (pc := 0) rfl rfl rfl ?_
  refine q_getf (pc := 1) rfl (by exact HR.c H hl _ rfl) rfl rfl ?_
  rw [e8]
  refine q_iconst (pc := 4) rfl (nI 3) (by decide) ?_
  first | refine n_icmpne (pc := 5) rfl (by omega) (by omega) (fun h5 => ?_) (fun h5 => ?_) | refine q_icmpne (pc := 5) rfl (fun h5 => ?_) (fun h5 => ?_)
  · have q5 : tkT tp tz i ≠ x := sg_no hp x3 (by omega)
    first
    | (exfalso; omega (config := {splitDisjunctions := false}))
    | exact absurd rfl h5
    | skip
      refine q_iconst (pc := 25) rfl (nI 0) (by decide) ?_
      refine q_iret (pc := 26) rfl (rfl) ?_
      first
      | (exact ht q18)
      | (exact hf q5)
  · have q5 : srV (byN tp tz (tpl tp tz i)) = 3 := by omega
    have q6 := sr_in (u := tpl tp tz i) (tp := tp) (tz := tz) (by omega)
    have x2i := hx.2.1 (tpl tp tz i) q6
    have x4i := x3.2 (tpl tp tz i) q6
    rw [by_in q6] at si
    have et : tkT tp tz i = sgV (tp (tpl tp tz i)) := by
      rw [tk_3 (by omega) (by omega), by_in q6]
    rw [← et] at si
    first
    | (exfalso; omega (config := {splitDisjunctions := false}))
    | exact absurd rfl h5
    | skip
      refine q_aload_n (pc := 8) rfl rfl rfl ?_
      refine q_getf (pc := 9) rfl (by exact HR.c H hl _ rfl) rfl rfl ?_
      refine q_aload_n (pc := 12) rfl rfl rfl ?_
      refine q_getf (pc := 13) rfl (by exact HR.c H hl _ rfl) rfl rfl ?_
      rw [e7]
      refine n_ild (pc := 16) rfl (by first | exact HR.la H hl rfl rfl N | exact HR.la0 H hl rfl rfl) rfl (by omega) (by omega) ?_
      rw [x2i]
      refine q_iload_n (pc := 17) rfl rfl ?_
      first | refine n_icmpne (pc := 18) rfl (by omega) (by omega) (fun h18 => ?_) (fun h18 => ?_) | refine q_icmpne (pc := 18) rfl (fun h18 => ?_) (fun h18 => ?_)
      · have q5 : tkT tp tz i ≠ x := fun e => h18 (si.mp e)
        first
        | (exfalso; omega (config := {splitDisjunctions := false}))
        | exact absurd rfl h18
        | skip
          refine q_iconst (pc := 25) rfl (nI 0) (by decide) ?_
          refine q_iret (pc := 26) rfl (rfl) ?_
          first
          | (exact ht q18)
          | (exact hf q5)
      · have q18 : tkT tp tz i = x := si.mpr (by omega)
        first
        | (exfalso; omega (config := {splitDisjunctions := false}))
        | exact absurd rfl h18
        | skip
          refine q_iconst (pc := 21) rfl (nI 1) (by decide) ?_
          refine q_goto (pc := 22) rfl ?_
          refine q_iret (pc := 26) rfl (rfl) ?_
          first
          | (exact ht q18)
          | (exact hf q5)
theorem m_numL {u w : Nat} (hl : 75 ≤ P.1) (hx : TX s n tp tz) (H : HR P h s) (e6 : s 54 6 = nI w) (huw : u ≤ w ∧ w ≤ tz) (hd4 : w - u ≤ 4) (hdg : ∀ j, u ≤ j → j < w → dgB (byN tp tz j) = true) (hq : Q (some (.int (nI (nmF tp tz u (w - u))))) h) (m i : Nat) (hi : i + m = w - u) : wq d 158 7 [some (.ref 54), some (.int (nI (nmF tp tz u i))), some (.int (nI (u + i)))] [] h Q := by
  have x3 := hx.2.2.1
  match m, hi with
  | 0, hi =>
    obtain rfl : i = w - u := by omega
    refine q_iload_n (pc := 7) rfl rfl ?_
    refine q_aload_n (pc := 8) rfl rfl rfl ?_
    refine q_getf (pc := 9) rfl (by exact HR.c H hl _ rfl) rfl rfl ?_
    rw [e6]
    first | refine n_icmpge (pc := 12) rfl (by omega) (by omega) (fun h12 => ?_) (fun h12 => ?_) | refine q_icmpge (pc := 12) rfl (fun h12 => ?_) (fun h12 => ?_)
    · refine q_iload_n (pc := 36) rfl rfl ?_
      refine q_iret (pc := 37) rfl (rfl) ?_
      exact hq
    · first | (exfalso; omega) | exact absurd h12 (nI_pos (by omega)) | exact absurd (nI_pos' (by omega)) h12
  | m + 1, hi =>
    have x2 := hx.2.1 (u + i) (by omega)
    have g := hdg (u + i) (by omega) (by omega)
    rw [by_in (by omega)] at g
    have g := of_decide_eq_true g
    refine q_iload_n (pc := 7) rfl rfl ?_
    refine q_aload_n (pc := 8) rfl rfl rfl ?_
    refine q_getf (pc := 9) rfl (by exact HR.c H hl _ rfl) rfl rfl ?_
    rw [e6]
    first | refine n_icmpge (pc := 12) rfl (by omega) (by omega) (fun h12 => ?_) (fun h12 => ?_) | refine q_icmpge (pc := 12) rfl (fun h12 => ?_) (fun h12 => ?_)
    · first | (exfalso; omega) | exact absurd h12 (nI_pos (by omega)) | exact absurd (nI_pos' (by omega)) h12
    · refine q_bipush (pc := 15) rfl (nI 10) (by decide) ?_
      refine q_iload_n (pc := 17) rfl rfl ?_
      first | refine n_imul (pc := 18) rfl ?_ | refine q_imul (pc := 18) rfl ?_
      refine q_aload_n (pc := 19) rfl rfl rfl ?_
      refine q_getf (pc := 20) rfl (by exact HR.c H hl _ rfl) rfl rfl ?_
      refine q_iload_n (pc := 23) rfl rfl ?_
      refine n_ild (pc := 24) rfl (by first | exact HR.la H hl rfl rfl N | exact HR.la0 H hl rfl rfl) rfl (by omega) (by omega) ?_
      rw [x2]
      first | refine n_iadd (pc := 25) rfl ?_ | refine q_iadd (pc := 25) rfl ?_
      refine q_bipush (pc := 26) rfl (nI 48) (by decide) ?_
      first | refine n_isub (pc := 28) rfl (by omega) ?_ | refine q_isub (pc := 28) rfl ?_
      refine q_istore_n (pc := 29) [_, _, _] rfl (Nat.le_of_ble_eq_true rfl) rfl ?_
      first | refine n_iinc (pc := 30) rfl [_, _, _] 1 (by decide) rfl rfl ?_ | refine q_iinc (pc := 30) [_, _, _] (1) rfl rfl (by decide) rfl ?_
      refine q_goto (pc := 33) rfl ?_
      have e : 10 * nmF tp tz u i + tp (u + i) - 48 = nmF tp tz u (i + 1) := by
        rw [nmF, by_in (by omega), Nat.mul_comm]
      rw [e]
      exact m_numL hl hx H e6 huw hd4 hdg hq m (i + 1) (by omega)
termination_by m
theorem m_number (H : HR P h s) (hl : 75 ≤ P.1) (hx : TX s n tp tz) (X : LX s tp tz i) (h2 : srV (byN tp tz (tpl tp tz i)) = 2) (h4 : stP tp tz (i + 1) - tpl tp tz i ≤ 4) (hq : Q (some (.int (nI (nmF tp tz (tpl tp tz i) (stP tp tz (i + 1) - tpl tp tz i))))) h) : wc d 158 [.ref 54] h Q := by
  obtain ⟨e6, e7, e8⟩ := X
  rw [if_neg (by omega)] at e6
  have hst := stP_n (tp := tp) (tz := tz) (i := i) (by omega)
  have hdg : ∀ j, tpl tp tz i ≤ j → j < stP tp tz (i + 1) → dgB (byN tp tz j) = true := fun j h1 h3 => by
    rcases Nat.eq_or_lt_of_le h1 with e | e
    · rw [← e, ← sr2, h2]
      rfl
    · have e4 : stP tp tz (i + 1) = enN tp tz (tpl tp tz i) := rfl
      rw [e4] at h3
      unfold enN at h3
      rw [if_neg (by rw [← sr1, h2]; decide), if_pos (by rw [← sr2, h2]; rfl)] at h3
      exact rnB_all (p := fun i => dgB (byN tp tz i)) _ _ j e h3
  refine wc.go [_, _, _] rfl ?_
  refine q_iconst (pc := 0) rfl (nI 0) (by decide) ?_
  refine q_istore_n (pc := 1) [_, _, _] rfl (Nat.le_of_ble_eq_true rfl) rfl ?_
  refine q_aload_n (pc := 2) rfl rfl rfl ?_
  refine q_getf (pc := 3) rfl (by exact HR.c H hl _ rfl) rfl rfl ?_
  rw [e7]
  refine q_istore_n (pc := 6) [_, _, _] rfl (Nat.le_of_ble_eq_true rfl) rfl ?_
  exact m_numL hl hx H e6 ⟨by omega, hst.2⟩ h4 hdg hq (stP tp tz (i + 1) - tpl tp tz i) 0 (by omega)
def mk (x : Nat) : Int32 := if x = 0 then 0 else -13 - nI x
def WTA (s : mx_St) : List Nat → Prop
  | [] => True
  | x :: S => s 62 S.length = mk x ∧ WTA s S
theorem WTA.wr {v : Int32} {j : Nat} : ∀ S : List Nat, WTA s S → S.length ≤ j → WTA (stv s 62 j v) S := by
  intro S
  induction S with
  | nil => intro _ _; exact trivial
  | cons x S ih =>
    intro h hj
    have hj : S.length + 1 ≤ j := hj
    exact ⟨(stv_o (by omega)).trans h.1, ih h.2 (by omega)⟩
theorem WTA.cg {s' : mx_St} (e : s' 62 = s 62) : ∀ S : List Nat, WTA s S → WTA s' S := by
  intro S
  induction S with
  | nil => intro _; exact trivial
  | cons x S ih =>
    intro h
    exact ⟨(congrFun e _).trans h.1, ih h.2⟩
def PSM (s : mx_St) (n o : Nat) (out : List Int32) (S : List Nat) : Prop := s 54 9 = nI o ∧ s 54 13 = nI out.length ∧ s 54 16 = nI S.length ∧ (∀ j, j < out.length → s 59 (160 * n + j) = mc (out.getD j 0)) ∧ WTA s S
def yF (j : Nat) : Prop := j = 9 ∨ j = 13 ∨ j = 16
def yf (n : Nat) (s s' : mx_St) : Prop := gf qS yF s s' ∧ ∀ j, j < 160 * n → s' 59 j = s 59 j
theorem yf.rf : yf n s s := ⟨gf.rf, fun _ _ => rfl⟩
theorem yf.tr {s s1 s2 : mx_St} (a : yf n s s1) (b : yf n s1 s2) : yf n s s2 := ⟨a.1.tr b.1, fun j hj => (b.2 j hj).trans (a.2 j hj)⟩
theorem yf.qf {s s' : mx_St} (a : yf n s s') : gf qS qF s s' := a.1.mono (fun i g => g) (fun j g => by unfold yF at g; unfold qF; omega)
theorem LX.fr {s s' : mx_St} {S F : Nat → Prop} (X : LX s tp tz i) (f : gf S F s s') (h : ¬ F 6 ∧ ¬ F 7 ∧ ¬ F 8) : LX s' tp tz i := ⟨(f.2 6 h.1).trans X.1, (f.2 7 h.2.1).trans X.2.1, (f.2 8 h.2.2).trans X.2.2⟩
theorem LX.yf {s s' : mx_St} (X : LX s tp tz i) (f : yf n s s') : LX s' tp tz i := X.fr f.1 ⟨by unfold yF; omega, by unfold yF; omega, by unfold yF; omega⟩
theorem yf.fd {v : Int32} {j : Nat} (hj : yF j) : yf n s (stv s 54 j v) := ⟨gf.fd (Or.inl rfl) hj, fun j _ => congrFun (stv_n (by decide)) _⟩
theorem yf.w62 {v : Int32} {j : Nat} : yf n s (stv s 62 j v) := ⟨gf.wr (Or.inr (Or.inr rfl)) (by decide), fun j _ => congrFun (stv_n (by decide)) _⟩
theorem yf.w59 {v : Int32} {j : Nat} (hj : 160 * n ≤ j) : yf n s (stv s 59 j v) := ⟨gf.wr (Or.inr (Or.inl rfl)) (by decide), fun i hi => stv_o (by omega)⟩
theorem getD_a {l : List Int32} {w : Int32} : (l ++ [w]).getD l.length 0 = w := by
  rw [List.getD_eq_getElem?_getD, List.getElem?_append_right (Nat.le_refl _), Nat.sub_self]
  rfl
theorem getD_l {l : List Int32} {w : Int32} {j : Nat} (h : j < l.length) : (l ++ [w]).getD j 0 = l.getD j 0 := by
  rw [List.getD_eq_getElem?_getD, List.getD_eq_getElem?_getD, List.getElem?_append_left h]
theorem m_write {w : Int32} (hl : 75 ≤ P.1) (H : HR P h s) (hx : TX s n tp tz) (ps : PSM s n o out S) (hv : u = mc w) (hn : out.length < 160) (kk : ∀ h' s', HR P h' s' → yf n s s' → s' 62 = s 62 → PSM s' n o (out ++ [w]) S → Q none h') : wc d 152 [.ref 54, .int u] h Q := by
  obtain ⟨p1, p2, p3, p4, p5⟩ := ps
  have x6 := hx.2.2.2.2
  have hle : (out ++ [w]).length = out.length + 1 := by rw [List.length_append]; rfl
  refine wc.go [_, _] rfl ?_
  refine q_aload_n (pc := 0) rfl rfl rfl ?_
  refine q_getf (pc := 1) rfl (by exact HR.c H hl _ rfl) rfl rfl ?_
  refine q_sipush (pc := 4) rfl (nI 160) (by decide) ?_
  refine q_aload_n (pc := 7) rfl rfl rfl ?_
  refine q_getf (pc := 8) rfl (by exact HR.c H hl _ rfl) rfl rfl ?_
  rw [x6.1]
  first | refine n_imul (pc := 11) rfl ?_ | refine q_imul (pc := 11) rfl ?_
  refine q_aload_n (pc := 12) rfl rfl rfl ?_
  refine q_getf (pc := 13) rfl (by exact HR.c H hl _ rfl) rfl rfl ?_
  rw [p2]
  first | refine n_iadd (pc := 16) rfl ?_ | refine q_iadd (pc := 16) rfl ?_
  refine q_iload_n (pc := 17) rfl rfl ?_
  refine r_ist2 (pc := 18) rfl H hl rfl (fun _ => rfl) rfl (by omega) (by omega) ?_
  intro h H
  refine q_aload_n (pc := 19) rfl rfl rfl ?_
  refine q_dup (pc := 20) rfl rfl ?_
  refine q_getf (pc := 21) rfl (by exact HR.c H hl _ rfl) rfl rfl ?_
  rw [show stv s 59 (160 * n + out.length) u 54 13 = nI out.length from (congrFun (stv_n (by decide)) _).trans p2]
  refine q_iconst (pc := 24) rfl (nI 1) (by decide) ?_
  first | refine n_iadd (pc := 25) rfl ?_ | refine q_iadd (pc := 25) rfl ?_
  refine r_pf2 (pc := 26) (i := 13) rfl H hl rfl rfl rfl rfl (Nat.le_of_ble_eq_true rfl) rfl rfl ?_
  intro h H
  refine q_vret (pc := 29) rfl rfl ?_
  exact kk _ _ H ((yf.w59 (by omega)).tr (yf.fd (Or.inr (Or.inl rfl)))) (by rw [stv_n (by decide), stv_n (by decide)]) ⟨(stv_o (by decide)).trans ((congrFun (stv_n (by decide)) _).trans p1), by rw [hle]; exact stv_a, (stv_o (by decide)).trans ((congrFun (stv_n (by decide)) _).trans p3), fun j hj => by
    rw [stv_n (by decide)]
    rcases Nat.lt_succ_iff_lt_or_eq.mp (show j < out.length + 1 by omega) with e | e
    · rw [stv_o (by omega), getD_l e]
      exact p4 j e
    · rw [e, stv_a, getD_a]
      exact hv, WTA.cg (by rw [stv_n (by decide), stv_n (by decide)]) S p5⟩
def rkM (y : Int32) : Int32 := if y = 0 then 0 else if y = -20 then 1 else if y = -21 then 2 else if y = -22 then 3 else if y = -23 then 4 else if y = -24 then 4 else if y = -27 then 6 else if y = -28 then 7 else 5
theorem rkM_eq : ∀ x, x < 16 → x = 0 ∨ 7 ≤ x → rkM (mk x) = nI (rk x) := by decide
theorem mk_mc : ∀ x, x < 16 → 7 ≤ x → mk x = mc (dc x) := by decide
theorem mk_u : ∀ x, x < 16 → x = 0 ∨ 7 ≤ x → (mk x = -22 ↔ x = 9) ∧ (mk x = -28 ↔ x = 15) := by decide
theorem m_rank0 (hq : Q (some (.int (rkM x))) h) : wc d 153 [.int x] h Q := by
  unfold rkM at hq
  refine wc.go [_] rfl ?_
  refine q_iload_n (pc := 0) rfl rfl ?_
  refine q_ifne (pc := 1) rfl (fun h1 => ?_) (fun h1 => ?_)
  · refine q_iload_n (pc := 8) rfl rfl ?_
    refine q_bipush (pc := 9) rfl (-20) (by decide) ?_
    refine q_icmpne (pc := 11) rfl (fun h11 => ?_) (fun h11 => ?_)
    · refine q_iload_n (pc := 18) rfl rfl ?_
      refine q_bipush (pc := 19) rfl (-21) (by decide) ?_
      refine q_icmpne (pc := 21) rfl (fun h21 => ?_) (fun h21 => ?_)
      · refine q_iload_n (pc := 28) rfl rfl ?_
        refine q_bipush (pc := 29) rfl (-22) (by decide) ?_
        refine q_icmpne (pc := 31) rfl (fun h31 => ?_) (fun h31 => ?_)
        · refine q_iload_n (pc := 38) rfl rfl ?_
          refine q_bipush (pc := 39) rfl (-23) (by decide) ?_
          refine q_icmpeq (pc := 41) rfl (fun h41 => ?_) (fun h41 => ?_)
          · refine q_iconst (pc := 50) rfl (nI 4) (by decide) ?_
            refine q_goto (pc := 51) rfl ?_
            refine q_iret (pc := 77) rfl (rfl) ?_
            (repeat' split at hq) <;> first | exact hq | contradiction
          · refine q_iload_n (pc := 44) rfl rfl ?_
            refine q_bipush (pc := 45) rfl (-24) (by decide) ?_
            refine q_icmpne (pc := 47) rfl (fun h47 => ?_) (fun h47 => ?_)
            · refine q_iload_n (pc := 54) rfl rfl ?_
              refine q_bipush (pc := 55) rfl (-27) (by decide) ?_
              refine q_icmpne (pc := 57) rfl (fun h57 => ?_) (fun h57 => ?_)
              · refine q_iload_n (pc := 65) rfl rfl ?_
                refine q_bipush (pc := 66) rfl (-28) (by decide) ?_
                refine q_icmpne (pc := 68) rfl (fun h68 => ?_) (fun h68 => ?_)
                · refine q_iconst (pc := 76) rfl (nI 5) (by decide) ?_
                  refine q_iret (pc := 77) rfl (rfl) ?_
                  (repeat' split at hq) <;> first | exact hq | contradiction
                · refine q_bipush (pc := 71) rfl (nI 7) (by decide) ?_
                  refine q_goto (pc := 73) rfl ?_
                  refine q_iret (pc := 77) rfl (rfl) ?_
                  (repeat' split at hq) <;> first | exact hq | contradiction
              · refine q_bipush (pc := 60) rfl (nI 6) (by decide) ?_
                refine q_goto (pc := 62) rfl ?_
                refine q_iret (pc := 77) rfl (rfl) ?_
                (repeat' split at hq) <;> first | exact hq | contradiction
            · refine q_iconst (pc := 50) rfl (nI 4) (by decide) ?_
              refine q_goto (pc := 51) rfl ?_
              refine q_iret (pc := 77) rfl (rfl) ?_
              (repeat' split at hq) <;> first | exact hq | contradiction
        · refine q_iconst (pc := 34) rfl (nI 3) (by decide) ?_
          refine q_goto (pc := 35) rfl ?_
          refine q_iret (pc := 77) rfl (rfl) ?_
          (repeat' split at hq) <;> first | exact hq | contradiction
      · refine q_iconst (pc := 24) rfl (nI 2) (by decide) ?_
        refine q_goto (pc := 25) rfl ?_
        refine q_iret (pc := 77) rfl (rfl) ?_
        (repeat' split at hq) <;> first | exact hq | contradiction
    · refine q_iconst (pc := 14) rfl (nI 1) (by decide) ?_
      refine q_goto (pc := 15) rfl ?_
      refine q_iret (pc := 77) rfl (rfl) ?_
      (repeat' split at hq) <;> first | exact hq | contradiction
  · refine q_iconst (pc := 4) rfl (nI 0) (by decide) ?_
    refine q_goto (pc := 5) rfl ?_
    refine q_iret (pc := 77) rfl (rfl) ?_
    (repeat' split at hq) <;> first | exact hq | contradiction
def okx (x : Nat) : Prop := x < 16 ∧ (x = 0 ∨ 7 ≤ x)
theorem m_rank {x : Nat} (hx : okx x) (hq : Q (some (.int (nI (rk x)))) h) : wc d 153 [.int (mk x)] h Q := m_rank0 (by rw [rkM_eq x hx.1 hx.2]; exact hq)
theorem rk_le (x : Nat) : rk x ≤ 7 := by
  unfold rk
  (repeat' split) <;> omega
theorem lr_le (S : List Nat) : lr S ≤ 7 := by
  cases S with
  | nil => exact Nat.zero_le _
  | cons x S => exact rk_le x
theorem m_last (hd : 1 ≤ d) (H : HR P h s) (hl : 75 ≤ P.1) (ps : PSM s n o out S) (hS : ∀ x, x ∈ S → okx x) (h160 : S.length ≤ 160) (hq : Q (some (.int (nI (lr S)))) h) : wc d 155 [.ref 54] h Q := by
  obtain ⟨p1, p2, p3, p4, p5⟩ := ps
  match S, p3, p5, hq, hS, h160 with
  | [], p3, p5, hq, hS, h160 =>
    have p3 : s 54 16 = nI 0 := p3
    have hq : Q (some (.int (nI 0))) h := hq
    refine wc.go [_] rfl ?_
    refine q_aload_n (pc := 0) rfl rfl rfl ?_
    refine q_getf (pc := 1) rfl (by exact HR.c H hl _ rfl) rfl rfl ?_
    rw [p3]
    first | refine n_ifne (pc := 4) rfl (by omega) (fun h4 => ?_) (fun h4 => ?_) | refine q_ifne (pc := 4) rfl (fun h4 => ?_) (fun h4 => ?_)
    · first | (exfalso; omega) | exact absurd h4 (nI_pos (by omega)) | exact absurd (nI_pos' (by omega)) h4
    · refine q_iconst (pc := 7) rfl (nI 0) (by decide) ?_
      refine q_goto (pc := 8) rfl ?_
      refine q_iret (pc := 25) rfl (rfl) ?_
      exact hq
  | x :: S, p3, p5, hq, hS, h160 =>
    have p3 : s 54 16 = nI (S.length + 1) := p3
    have hq : Q (some (.int (nI (rk x)))) h := hq
    have h160 : S.length + 1 ≤ 160 := h160
    refine wc.go [_] rfl ?_
    refine q_aload_n (pc := 0) rfl rfl rfl ?_
    refine q_getf (pc := 1) rfl (by exact HR.c H hl _ rfl) rfl rfl ?_
    rw [p3]
    first | refine n_ifne (pc := 4) rfl (by omega) (fun h4 => ?_) (fun h4 => ?_) | refine q_ifne (pc := 4) rfl (fun h4 => ?_) (fun h4 => ?_)
    · refine q_aload_n (pc := 11) rfl rfl rfl ?_
      refine q_getf (pc := 12) rfl (by exact HR.c H hl _ rfl) rfl rfl ?_
      refine q_aload_n (pc := 15) rfl rfl rfl ?_
      refine q_getf (pc := 16) rfl (by exact HR.c H hl _ rfl) rfl rfl ?_
      rw [p3]
      refine q_iconst (pc := 19) rfl (nI 1) (by decide) ?_
      first | refine n_isub (pc := 20) rfl (by omega) ?_ | refine q_isub (pc := 20) rfl ?_
      refine n_ild (pc := 21) rfl (by first | exact HR.la H hl rfl rfl N | exact HR.la0 H hl rfl rfl) rfl (by omega) (by omega) ?_
      rw [show S.length + 1 - 1 = S.length from rfl, p5.1]
      refine q_callS (pc := 22) _ (by decide) rfl rfl rfl rfl (Nat.le_of_ble_eq_true rfl) (by omega) _ rfl ?_
      refine m_rank (hS x (List.mem_cons_self)) ?_
      refine q_iret (pc := 25) rfl (rfl) ?_
      exact hq
    · first | (exfalso; omega) | exact absurd h4 (nI_pos (by omega)) | exact absurd (nI_pos' (by omega)) h4
theorem m_await {x : Nat} (H : HR P h s) (hl : 75 ≤ P.1) (ps : PSM s n o out S) (h160 : S.length < 160) (kk : ∀ h' s', HR P h' s' → yf n s s' → PSM s' n o out (x :: S) → Q none h') : wc d 154 [.ref 54, .int (mk x)] h Q := by
  obtain ⟨p1, p2, p3, p4, p5⟩ := ps
  refine wc.go [_, _] rfl ?_
  refine q_aload_n (pc := 0) rfl rfl rfl ?_
  refine q_getf (pc := 1) rfl (by exact HR.c H hl _ rfl) rfl rfl ?_
  refine q_aload_n (pc := 4) rfl rfl rfl ?_
  refine q_getf (pc := 5) rfl (by exact HR.c H hl _ rfl) rfl rfl ?_
  rw [p3]
  refine q_iload_n (pc := 8) rfl rfl ?_
  refine r_ist2 (pc := 9) rfl H hl rfl (fun _ => rfl) rfl (by omega) (by omega) ?_
  intro h H
  refine q_aload_n (pc := 10) rfl rfl rfl ?_
  refine q_dup (pc := 11) rfl rfl ?_
  refine q_getf (pc := 12) rfl (by exact HR.c H hl _ rfl) rfl rfl ?_
  rw [show stv s 62 S.length (mk x) 54 16 = nI S.length from (congrFun (stv_n (by decide)) _).trans p3]
  refine q_iconst (pc := 15) rfl (nI 1) (by decide) ?_
  first | refine n_iadd (pc := 16) rfl ?_ | refine q_iadd (pc := 16) rfl ?_
  refine r_pf2 (pc := 17) (i := 16) rfl H hl rfl rfl rfl rfl (Nat.le_of_ble_eq_true rfl) rfl rfl ?_
  intro h H
  refine q_vret (pc := 20) rfl rfl ?_
  exact kk _ _ H (yf.w62.tr (yf.fd (Or.inr (Or.inr rfl)))) ⟨(stv_o (by decide)).trans ((congrFun (stv_n (by decide)) _).trans p1), (stv_o (by decide)).trans ((congrFun (stv_n (by decide)) _).trans p2), stv_a, fun j hj => by
    rw [stv_n (by decide), stv_n (by decide)]
    exact p4 j hj, ⟨(congrFun (stv_n (by decide)) _).trans stv_a, WTA.cg (stv_n (by decide)) S (WTA.wr S p5 (Nat.le_refl _))⟩⟩
def cntO : List Nat → Nat
  | [] => 0
  | x :: S => cntO S + (if x = 0 ∨ x = 9 ∨ x = 15 then 1 else 0)
def okO2 (o : Nat) (S : List Nat) : Prop := (∀ x, x ∈ S → okx x) ∧ cntO S = o
theorem m_settle {r : Nat} (hd : 2 ≤ d) (hl : 75 ≤ P.1) (hr : 1 ≤ r ∧ r ≤ 7) : ∀ (S : List Nat) (o : Nat) (out : List Int32) (h : mx_H) (s s0 : mx_St), HR P h s → TX s n tp tz → yf n s0 s → PSM s n o out S → okO2 o S → out.length + S.length ≤ 160 → (∀ h' s', HR P h' s' → yf n s0 s' → PSM s' n (stl r S o out).1 (stl r S o out).2.1 (stl r S o out).2.2 → Q none h') → wq d 156 0 [some (.ref 54), some (.int (nI r))] [] h Q := by
  intro S
  induction S with
  | nil =>
    intro o out h s s0 H hx f ps hok h160 kk
    have hS := hok.1
    have h161 : ([] : List Nat).length ≤ 160 := by decide
    refine q_aload_n (pc := 0) rfl rfl rfl ?_
    refine q_callV (pc := 1) _ rfl rfl rfl (by exact HR.c H hl _ rfl) rfl (Nat.le_of_ble_eq_true rfl) (by omega) _ rfl ?_
    refine m_last (by omega) H hl ps hS h161 ?_
    rw [show lr [] = 0 from rfl]
    first | refine n_ifle (pc := 4) rfl (by omega) (fun h4 => ?_) (fun h4 => ?_) | refine q_ifle (pc := 4) rfl (fun h4 => ?_) (fun h4 => ?_)
    · refine q_vret (pc := 83) rfl rfl ?_
      exact kk _ _ H f ps
    · first | (exfalso; omega) | exact absurd h4 (nI_pos (by omega)) | exact absurd (nI_pos' (by omega)) h4
  | cons x S ih =>
    intro o out h s s0 H hx f ps hok h160 kk
    have hS := hok.1
    have hxk := hS x (List.mem_cons_self)
    have hrk := rk_le x
    have h160 : out.length + (S.length + 1) ≤ 160 := h160
    have h161 : (x :: S).length ≤ 160 := by show S.length + 1 ≤ 160; omega
    have hmk := mk_u x hxk.1 hxk.2
    by_cases g : 0 < rk x ∧ r ≤ rk x
    · rw [show stl r (x :: S) o out = stl r S (if x = 9 ∨ x = 15 then o - 1 else o) (out ++ [dc x]) from by rw [stl, if_pos g]] at kk
      have hx0 : x ≠ 0 := fun e => by
        rw [e] at g
        exact absurd g.1 (by decide)
      have hx7 : 7 ≤ x := by have := hxk.2; omega
      have p3 : s 54 16 = nI (S.length + 1) := ps.2.2.1
      have hcn : cntO S + (if x = 0 ∨ x = 9 ∨ x = 15 then 1 else 0) = o := hok.2
      refine q_aload_n (pc := 0) rfl rfl rfl ?_
      refine q_callV (pc := 1) _ rfl rfl rfl (by exact HR.c H hl _ rfl) rfl (Nat.le_of_ble_eq_true rfl) (by omega) _ rfl ?_
      refine m_last (by omega) H hl ps hS h161 ?_
      rw [show lr (x :: S) = rk x from rfl]
      first | refine n_ifle (pc := 4) rfl (by omega) (fun h4 => ?_) (fun h4 => ?_) | refine q_ifle (pc := 4) rfl (fun h4 => ?_) (fun h4 => ?_)
      · first | (exfalso; omega) | exact absurd h4 (nI_pos (by omega)) | exact absurd (nI_pos' (by omega)) h4
      · refine q_aload_n (pc := 7) rfl rfl rfl ?_
        refine q_callV (pc := 8) _ rfl rfl rfl (by exact HR.c H hl _ rfl) rfl (Nat.le_of_ble_eq_true rfl) (by omega) _ rfl ?_
        refine m_last (by omega) H hl ps hS h161 ?_
        rw [show lr (x :: S) = rk x from rfl]
        refine q_iload_n (pc := 11) rfl rfl ?_
        first | refine n_icmplt (pc := 12) rfl (by omega) (by omega) (fun h12 => ?_) (fun h12 => ?_) | refine q_icmplt (pc := 12) rfl (fun h12 => ?_) (fun h12 => ?_)
        · first | (exfalso; omega) | exact absurd h12 (nI_pos (by omega)) | exact absurd (nI_pos' (by omega)) h12
        · refine q_aload_n (pc := 15) rfl rfl rfl ?_
          refine q_dup (pc := 16) rfl rfl ?_
          refine q_getf (pc := 17) rfl (by exact HR.c H hl _ rfl) rfl rfl ?_
          rw [p3]
          refine q_iconst (pc := 20) rfl (nI 1) (by decide) ?_
          first | refine n_isub (pc := 21) rfl (by omega) ?_ | refine q_isub (pc := 21) rfl ?_
          rw [show S.length + 1 - 1 = S.length from rfl]
          refine r_pf2 (pc := 22) (i := 16) rfl H hl rfl rfl rfl rfl (Nat.le_of_ble_eq_true rfl) rfl rfl ?_
          intro h H
          have f1 : yf n s (stv s 54 16 (nI S.length)) := yf.fd (Or.inr (Or.inr rfl))
          have ps1 : PSM (stv s 54 16 (nI S.length)) n o out S := ⟨(stv_o (by decide)).trans ps.1, (stv_o (by decide)).trans ps.2.1, stv_a, fun j hj => (congrFun (stv_n (by decide)) _).trans (ps.2.2.2.1 j hj), WTA.cg (stv_n (by decide)) S ps.2.2.2.2.2⟩
          have hx1 := hx.fr f1.qf
          have w1 : (stv s 54 16 (nI S.length)) 62 S.length = mk x := (congrFun (stv_n (by decide)) _).trans ps.2.2.2.2.1
          refine q_aload_n (pc := 25) rfl rfl rfl ?_
          refine q_aload_n (pc := 26) rfl rfl rfl ?_
          refine q_getf (pc := 27) rfl (by exact HR.c H hl _ rfl) rfl rfl ?_
          refine q_aload_n (pc := 30) rfl rfl rfl ?_
          refine q_getf (pc := 31) rfl (by exact HR.c H hl _ rfl) rfl rfl ?_
          rw [show (stv s 54 16 (nI S.length)) 54 16 = nI S.length from stv_a]
          refine n_ild (pc := 34) rfl (by first | exact HR.la H hl rfl rfl N | exact HR.la0 H hl rfl rfl) rfl (by omega) (by omega) ?_
          rw [w1]
          refine q_callV (pc := 35) _ rfl rfl rfl (by exact HR.c H hl _ rfl) rfl (Nat.le_of_ble_eq_true rfl) (by omega) _ rfl ?_
          refine m_write hl H hx1 ps1 (w := dc x) (mk_mc x hxk.1 hx7) (by omega) ?_
          intro h s1 H f2 e62 ps2
          have hx2 := hx1.fr f2.qf
          have p62 : s1 62 S.length = mk x := (congrFun e62 _).trans w1
          refine q_aload_n (pc := 38) rfl rfl rfl ?_
          refine q_dup (pc := 39) rfl rfl ?_
          refine q_getf (pc := 40) rfl (by exact HR.c H hl _ rfl) rfl rfl ?_
          rw [ps2.1]
          refine q_aload_n (pc := 43) rfl rfl rfl ?_
          refine q_getf (pc := 44) rfl (by exact HR.c H hl _ rfl) rfl rfl ?_
          refine q_aload_n (pc := 47) rfl rfl rfl ?_
          refine q_getf (pc := 48) rfl (by exact HR.c H hl _ rfl) rfl rfl ?_
          rw [ps2.2.2.1]
          refine n_ild (pc := 51) rfl (by first | exact HR.la H hl rfl rfl N | exact HR.la0 H hl rfl rfl) rfl (by omega) (by omega) ?_
          rw [p62]
          refine q_bipush (pc := 52) rfl (-22) (by decide) ?_
          refine q_icmpeq (pc := 54) rfl (fun h54 => ?_) (fun h54 => ?_)
          · have qz : x = 9 ∨ x = 15 := Or.inl (hmk.1.mp h54)
            have hcn1 : cntO S + 1 = o := by
              rw [if_pos (show x = 0 ∨ x = 9 ∨ x = 15 from Or.inr qz)] at hcn
              exact hcn
            first
            | (exfalso; omega (config := {splitDisjunctions := false}))
            | exact absurd rfl h54
            | skip
              refine q_iconst (pc := 71) rfl (nI 1) (by decide) ?_
              refine q_goto (pc := 72) rfl ?_
              first | refine n_isub (pc := 76) rfl (by omega) ?_ | refine q_isub (pc := 76) rfl ?_
              refine r_pf2 (pc := 77) (i := 9) rfl H hl rfl rfl rfl rfl (Nat.le_of_ble_eq_true rfl) rfl rfl ?_
              intro h H
              refine q_goto (pc := 80) rfl ?_
              first
              | (rw [if_pos qz] at kk
                 have f3 : yf n s0 (stv s1 54 9 (nI (o - 1))) := ((f.tr f1).tr f2).tr (yf.fd (Or.inl rfl))
                 refine ih _ _ h _ s0 H (hx2.fr (yf.fd (n := n) (Or.inl rfl)).qf) f3 (⟨stv_a, (stv_o (by decide)).trans ps2.2.1, (stv_o (by decide)).trans ps2.2.2.1, fun j hj => (congrFun (stv_n (by decide)) _).trans (ps2.2.2.2.1 j hj), WTA.cg (stv_n (by decide)) S ps2.2.2.2.2⟩ : PSM (stv s1 54 9 (nI (o - 1))) n (o - 1) (out ++ [dc x]) S) ⟨fun y hy => hS y (List.mem_cons_of_mem _ hy), by omega⟩ (by rw [List.length_append]; show out.length + 1 + S.length ≤ 160; omega) kk)
              | (rw [if_neg qzf] at kk
                 have f3 : yf n s0 (stv s1 54 9 (nI (o - 0))) := ((f.tr f1).tr f2).tr (yf.fd (Or.inl rfl))
                 refine ih _ _ h _ s0 H (hx2.fr (yf.fd (n := n) (Or.inl rfl)).qf) f3 (⟨stv_a, (stv_o (by decide)).trans ps2.2.1, (stv_o (by decide)).trans ps2.2.2.1, fun j hj => (congrFun (stv_n (by decide)) _).trans (ps2.2.2.2.1 j hj), WTA.cg (stv_n (by decide)) S ps2.2.2.2.2⟩ : PSM (stv s1 54 9 (nI (o - 0))) n o (out ++ [dc x]) S) ⟨fun y hy => hS y (List.mem_cons_of_mem _ hy), by omega⟩ (by rw [List.length_append]; show out.length + 1 + S.length ≤ 160; omega) kk)
          · have q54 : ¬ x = 9 := fun e => h54 (hmk.1.mpr e)
            first
            | (exfalso; omega (config := {splitDisjunctions := false}))
            | exact absurd rfl h54
            | skip
              refine q_aload_n (pc := 57) rfl rfl rfl ?_
              refine q_getf (pc := 58) rfl (by exact HR.c H hl _ rfl) rfl rfl ?_
              refine q_aload_n (pc := 61) rfl rfl rfl ?_
              refine q_getf (pc := 62) rfl (by exact HR.c H hl _ rfl) rfl rfl ?_
              rw [ps2.2.2.1]
              refine n_ild (pc := 65) rfl (by first | exact HR.la H hl rfl rfl N | exact HR.la0 H hl rfl rfl) rfl (by omega) (by omega) ?_
              rw [p62]
              refine q_bipush (pc := 66) rfl (-28) (by decide) ?_
              refine q_icmpne (pc := 68) rfl (fun h68 => ?_) (fun h68 => ?_)
              · have qzf : ¬ (x = 9 ∨ x = 15) := fun e => e.elim q54 (fun e => h68 (hmk.2.mpr e))
                have hcn0 : cntO S + 0 = o := by
                  rw [if_neg (show ¬ (x = 0 ∨ x = 9 ∨ x = 15) from fun e => e.elim hx0 qzf)] at hcn
                  exact hcn
                first
                | (exfalso; omega (config := {splitDisjunctions := false}))
                | exact absurd rfl h68
                | skip
                  refine q_iconst (pc := 75) rfl (nI 0) (by decide) ?_
                  first | refine n_isub (pc := 76) rfl (by omega) ?_ | refine q_isub (pc := 76) rfl ?_
                  refine r_pf2 (pc := 77) (i := 9) rfl H hl rfl rfl rfl rfl (Nat.le_of_ble_eq_true rfl) rfl rfl ?_
                  intro h H
                  refine q_goto (pc := 80) rfl ?_
                  first
                  | (rw [if_pos qz] at kk
                     have f3 : yf n s0 (stv s1 54 9 (nI (o - 1))) := ((f.tr f1).tr f2).tr (yf.fd (Or.inl rfl))
                     refine ih _ _ h _ s0 H (hx2.fr (yf.fd (n := n) (Or.inl rfl)).qf) f3 (⟨stv_a, (stv_o (by decide)).trans ps2.2.1, (stv_o (by decide)).trans ps2.2.2.1, fun j hj => (congrFun (stv_n (by decide)) _).trans (ps2.2.2.2.1 j hj), WTA.cg (stv_n (by decide)) S ps2.2.2.2.2⟩ : PSM (stv s1 54 9 (nI (o - 1))) n (o - 1) (out ++ [dc x]) S) ⟨fun y hy => hS y (List.mem_cons_of_mem _ hy), by omega⟩ (by rw [List.length_append]; show out.length + 1 + S.length ≤ 160; omega) kk)
                  | (rw [if_neg qzf] at kk
                     have f3 : yf n s0 (stv s1 54 9 (nI (o - 0))) := ((f.tr f1).tr f2).tr (yf.fd (Or.inl rfl))
                     refine ih _ _ h _ s0 H (hx2.fr (yf.fd (n := n) (Or.inl rfl)).qf) f3 (⟨stv_a, (stv_o (by decide)).trans ps2.2.1, (stv_o (by decide)).trans ps2.2.2.1, fun j hj => (congrFun (stv_n (by decide)) _).trans (ps2.2.2.2.1 j hj), WTA.cg (stv_n (by decide)) S ps2.2.2.2.2⟩ : PSM (stv s1 54 9 (nI (o - 0))) n o (out ++ [dc x]) S) ⟨fun y hy => hS y (List.mem_cons_of_mem _ hy), by omega⟩ (by rw [List.length_append]; show out.length + 1 + S.length ≤ 160; omega) kk)
              · have qz : x = 9 ∨ x = 15 := Or.inr (hmk.2.mp h68)
                have hcn1 : cntO S + 1 = o := by
                  rw [if_pos (show x = 0 ∨ x = 9 ∨ x = 15 from Or.inr qz)] at hcn
                  exact hcn
                first
                | (exfalso; omega (config := {splitDisjunctions := false}))
                | exact absurd rfl h68
                | skip
                  refine q_iconst (pc := 71) rfl (nI 1) (by decide) ?_
                  refine q_goto (pc := 72) rfl ?_
                  first | refine n_isub (pc := 76) rfl (by omega) ?_ | refine q_isub (pc := 76) rfl ?_
                  refine r_pf2 (pc := 77) (i := 9) rfl H hl rfl rfl rfl rfl (Nat.le_of_ble_eq_true rfl) rfl rfl ?_
                  intro h H
                  refine q_goto (pc := 80) rfl ?_
                  first
                  | (rw [if_pos qz] at kk
                     have f3 : yf n s0 (stv s1 54 9 (nI (o - 1))) := ((f.tr f1).tr f2).tr (yf.fd (Or.inl rfl))
                     refine ih _ _ h _ s0 H (hx2.fr (yf.fd (n := n) (Or.inl rfl)).qf) f3 (⟨stv_a, (stv_o (by decide)).trans ps2.2.1, (stv_o (by decide)).trans ps2.2.2.1, fun j hj => (congrFun (stv_n (by decide)) _).trans (ps2.2.2.2.1 j hj), WTA.cg (stv_n (by decide)) S ps2.2.2.2.2⟩ : PSM (stv s1 54 9 (nI (o - 1))) n (o - 1) (out ++ [dc x]) S) ⟨fun y hy => hS y (List.mem_cons_of_mem _ hy), by omega⟩ (by rw [List.length_append]; show out.length + 1 + S.length ≤ 160; omega) kk)
                  | (rw [if_neg qzf] at kk
                     have f3 : yf n s0 (stv s1 54 9 (nI (o - 0))) := ((f.tr f1).tr f2).tr (yf.fd (Or.inl rfl))
                     refine ih _ _ h _ s0 H (hx2.fr (yf.fd (n := n) (Or.inl rfl)).qf) f3 (⟨stv_a, (stv_o (by decide)).trans ps2.2.1, (stv_o (by decide)).trans ps2.2.2.1, fun j hj => (congrFun (stv_n (by decide)) _).trans (ps2.2.2.2.1 j hj), WTA.cg (stv_n (by decide)) S ps2.2.2.2.2⟩ : PSM (stv s1 54 9 (nI (o - 0))) n o (out ++ [dc x]) S) ⟨fun y hy => hS y (List.mem_cons_of_mem _ hy), by omega⟩ (by rw [List.length_append]; show out.length + 1 + S.length ≤ 160; omega) kk)
    · rw [show stl r (x :: S) o out = (o, out, x :: S) from by rw [stl, if_neg g]] at kk
      refine q_aload_n (pc := 0) rfl rfl rfl ?_
      refine q_callV (pc := 1) _ rfl rfl rfl (by exact HR.c H hl _ rfl) rfl (Nat.le_of_ble_eq_true rfl) (by omega) _ rfl ?_
      refine m_last (by omega) H hl ps hS h161 ?_
      rw [show lr (x :: S) = rk x from rfl]
      first | refine n_ifle (pc := 4) rfl (by omega) (fun h4 => ?_) (fun h4 => ?_) | refine q_ifle (pc := 4) rfl (fun h4 => ?_) (fun h4 => ?_)
      · first
        | (exfalso; omega (config := {splitDisjunctions := false}))
        | skip
          refine q_vret (pc := 83) rfl rfl ?_
          exact kk _ _ H f ps
      · first
        | (exfalso; omega (config := {splitDisjunctions := false}))
        | skip
          refine q_aload_n (pc := 7) rfl rfl rfl ?_
          refine q_callV (pc := 8) _ rfl rfl rfl (by exact HR.c H hl _ rfl) rfl (Nat.le_of_ble_eq_true rfl) (by omega) _ rfl ?_
          refine m_last (by omega) H hl ps hS h161 ?_
          rw [show lr (x :: S) = rk x from rfl]
          refine q_iload_n (pc := 11) rfl rfl ?_
          first | refine n_icmplt (pc := 12) rfl (by omega) (by omega) (fun h12 => ?_) (fun h12 => ?_) | refine q_icmplt (pc := 12) rfl (fun h12 => ?_) (fun h12 => ?_)
          · first
            | (exfalso; omega (config := {splitDisjunctions := false}))
            | skip
              refine q_vret (pc := 83) rfl rfl ?_
              exact kk _ _ H f ps
          · first
            | (exfalso; omega (config := {splitDisjunctions := false}))
            | skip
              exact absurd (show 0 < rk x ∧ r ≤ rk x by omega) g
end P66
