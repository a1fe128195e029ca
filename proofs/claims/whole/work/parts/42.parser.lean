/-! ===== the class's parser ===== -/
section P42
variable {d k pc a i j c p b t n m part q : Nat} {v : Int} {L L' : mx_L} {st r : List Value} {P : mx_Pm} {h : mx_H} {s : mx_St} {Q : Option Value → mx_H → Prop} {x y w z u : Int32} {β κ : Nat → Nat} {C : Nat → Nat → Int32} {E : Nat → Nat → Nat} {ik tz : Nat} {tp : Nat → Nat} {σ : Nat → Int32} {sz : Nat → Nat} {cl : Nat → Nat → Int32}
variable {T : Nat → Int32} {pl : Nat → Nat} {f M : Nat} {out seg : List Int32} {t : Int32}
def PT (s : mx_St) (T : Nat → Int32) (pl : Nat → Nat) (k : Nat) : Prop := (∀ j, j ≤ k → s 27 j = T j ∧ s 28 j = nI (pl j)) ∧ k ≤ 160 ∧ (∀ j, j ≤ k → pl j ≤ 400) ∧ isE (T k) ∧ ∀ j, j < k → ¬ isE (T j)
def PS (s : mx_St) (i o : Nat) (out : List Int32) : Prop := s 25 4 = nI i ∧ s 25 5 = nI o ∧ s 25 7 = nI out.length ∧ s 25 9 = -1 ∧ ∀ j, j < out.length → s 29 j = out.getD j 0
def FS (s : mx_St) (pl : Nat → Nat) (k f : Nat) : Prop := (f ≤ k ∧ pl f ≤ 400) ∧ s 25 9 = nI (pl f)
def pf (s s' : mx_St) : Prop := sf s s' (fun i => i = 25 ∨ i = 29) ∧ s' 25 1 = s 25 1
theorem pf.rf {s : mx_St} : pf s s := ⟨sf.rf, rfl⟩
theorem pf.tr {s s1 s2 : mx_St} (a : pf s s1) (b : pf s1 s2) : pf s s2 := ⟨a.1.tr b.1, b.2.trans a.2⟩
theorem pf.wr {s : mx_St} {j : Nat} {v : Int32} (hj : j ≠ 1) : pf s (stv s 25 j v) := ⟨sf.rf.st (Or.inl rfl), stv_o (Ne.symm hj)⟩
theorem PT.fr {s s' : mx_St} (p : PT s T pl k) (a : pf s s') : PT s' T pl k := ⟨fun j hj => by rw [a.1 27 (by omega), a.1 28 (by omega)]; exact p.1 j hj, p.2⟩
theorem PS.nx {s : mx_St} {i o j : Nat} (p : PS s i o out) : PS (stv s 25 4 (nI j)) j o out := ⟨stv_a, (stv_o (by decide)).trans p.2.1, (stv_o (by decide)).trans p.2.2.1, (stv_o (by decide)).trans p.2.2.2.1, fun q hq => (congrFun (stv_n (by decide)) _).trans (p.2.2.2.2 q hq)⟩
theorem PS.op {s : mx_St} {i o j : Nat} (p : PS s i o out) : PS (stv s 25 5 (nI j)) i j out := ⟨(stv_o (by decide)).trans p.1, stv_a, (stv_o (by decide)).trans p.2.2.1, (stv_o (by decide)).trans p.2.2.2.1, fun q hq => (congrFun (stv_n (by decide)) _).trans (p.2.2.2.2 q hq)⟩
theorem FS.op {s : mx_St} {v : Int32} {j : Nat} (p : FS s pl k f) (hj : j ≠ 9) : FS (stv s 25 j v) pl k f := ⟨p.1, (stv_o (Ne.symm hj)).trans p.2⟩
theorem HR.pr {i o : Nat} (H : HR P h s) (hl : 51 ≤ P.1) (p : PS s i o out) : h.2.2 25 = .inr (3, [.ref 26, .int (s 25 1), .ref 27, .ref 28, .int (nI i), .int (nI o), .ref 29, .int (nI out.length), .ref 30, .int (-1)]) := by
  rw [← p.1, ← p.2.1, ← p.2.2.1, ← p.2.2.2.1]
  exact HR.c H hl _ rfl
theorem HR.pf (H : HR P h s) (hl : 51 ≤ P.1) (p : FS s pl k f) : h.2.2 25 = .inr (3, [.ref 26, .int (s 25 1), .ref 27, .ref 28, .int (s 25 4), .int (s 25 5), .ref 29, .int (s 25 7), .ref 30, .int (nI (pl f))]) := by
  rw [← p.2]
  exact HR.c H hl _ rfl
theorem gd_l {a b : List Int32} {j : Nat} (hj : j < a.length) : (a ++ b).getD j 0 = a.getD j 0 := by
  rw [List.getD_eq_getElem?_getD, List.getD_eq_getElem?_getD, List.getElem?_append_left hj]
theorem gd_e {a : List Int32} : (a ++ [x]).getD a.length 0 = x := by
  rw [List.getD_eq_getElem?_getD, List.getElem?_append_right (Nat.le_refl _), Nat.sub_self]
  rfl
theorem c_token {i o : Nat} (H : HR P h s) (hl : 51 ≤ P.1) (pt : PT s T pl k) (ps : PS s i o out) (hi : i ≤ k) (hq : Q (some (.int (T i))) h) : wc d 33 [.ref 25] h Q := by
  have k6 := pt.2.1
  refine wc.go [_] rfl ?_
  refine q_aload_n (pc := 0) rfl rfl rfl ?_
  refine q_getf (pc := 1) rfl (by first | exact HR.pr H hl ps | exact HR.pf H hl fs | exact HR.c H hl _ rfl) rfl rfl ?_
  refine q_iflt (pc := 4) rfl (fun h4 => ?_) (fun h4 => ?_)
  · first | (exfalso; omega) | exact absurd h4 (nI_pos (by omega)) | exact absurd (nI_pos' (by omega)) h4
  · refine q_aload_n (pc := 7) rfl rfl rfl ?_
    refine q_getf (pc := 8) rfl (by first | exact HR.pr H hl ps | exact HR.pf H hl fs | exact HR.c H hl _ rfl) rfl rfl ?_
    refine q_sipush (pc := 11) rfl (nI 160) (by decide) ?_
    first | refine n_icmpgt (pc := 14) rfl (by omega) (by omega) (fun h14 => ?_) (fun h14 => ?_) | refine q_icmpgt (pc := 14) rfl (fun h14 => ?_) (fun h14 => ?_)
    · first | (exfalso; omega) | exact absurd h14 (nI_pos (by omega)) | exact absurd (nI_pos' (by omega)) h14
    · refine q_aload_n (pc := 17) rfl rfl rfl ?_
      refine q_getf (pc := 18) rfl (by first | exact HR.pr H hl ps | exact HR.pf H hl fs | exact HR.c H hl _ rfl) rfl rfl ?_
      refine q_aload_n (pc := 21) rfl rfl rfl ?_
      refine q_getf (pc := 22) rfl (by first | exact HR.pr H hl ps | exact HR.pf H hl fs | exact HR.c H hl _ rfl) rfl rfl ?_
      refine n_ild (pc := 25) rfl (by exact HR.la0 H hl rfl rfl) rfl (by omega) (by omega) ?_
      rw [(pt.1 i hi).1]
      refine q_goto (pc := 26) rfl ?_
      refine q_iret (pc := 31) rfl (rfl) ?_
      exact hq
theorem c_tokenX (H : HR P h s) (hl : 51 ≤ P.1) (hq : ∀ v, Q (some (.int v)) h) : wc d 33 [.ref 25] h Q := by
  have hc := HR.c H hl 25 rfl
  rcases rgc 161 (by decide) (s 25 4) with ⟨w, hw, e, _⟩ | ⟨g, _⟩
  · have hc2 : h.2.2 25 = .inr (3, [.ref 26, .int (s 25 1), .ref 27, .ref 28, .int (nI w), .int (s 25 5), .ref 29, .int (s 25 7), .ref 30, .int (s 25 9)]) := by
      rw [← e]
      exact hc
    refine wc.go [_] rfl ?_
    refine q_aload_n (pc := 0) rfl rfl rfl ?_
    refine q_getf (pc := 1) rfl (by first | exact hc2 | exact HR.c H hl _ rfl) rfl rfl ?_
    refine q_iflt (pc := 4) rfl (fun h4 => ?_) (fun h4 => ?_)
    · first
      | (exfalso; omega (config := {splitDisjunctions := false}))
      | skip
        refine q_bipush (pc := 29) rfl (-22) (by decide) ?_
        refine q_iret (pc := 31) rfl (rfl) ?_
        exact hq _
    · first
      | (exfalso; omega (config := {splitDisjunctions := false}))
      | skip
        refine q_aload_n (pc := 7) rfl rfl rfl ?_
        refine q_getf (pc := 8) rfl (by first | exact hc2 | exact HR.c H hl _ rfl) rfl rfl ?_
        refine q_sipush (pc := 11) rfl (nI 160) (by decide) ?_
        first | refine n_icmpgt (pc := 14) rfl (by omega) (by omega) (fun h14 => ?_) (fun h14 => ?_) | refine q_icmpgt (pc := 14) rfl (fun h14 => ?_) (fun h14 => ?_)
        · first
          | (exfalso; omega (config := {splitDisjunctions := false}))
          | skip
            refine q_bipush (pc := 29) rfl (-22) (by decide) ?_
            refine q_iret (pc := 31) rfl (rfl) ?_
            exact hq _
        · first
          | (exfalso; omega (config := {splitDisjunctions := false}))
          | skip
            refine q_aload_n (pc := 17) rfl rfl rfl ?_
            refine q_getf (pc := 18) rfl (by first | exact hc2 | exact HR.c H hl _ rfl) rfl rfl ?_
            refine q_aload_n (pc := 21) rfl rfl rfl ?_
            refine q_getf (pc := 22) rfl (by first | exact hc2 | exact HR.c H hl _ rfl) rfl rfl ?_
            refine n_ild (pc := 25) rfl (by exact HR.la0 H hl rfl rfl) rfl (by omega) (by omega) ?_
            refine q_goto (pc := 26) rfl ?_
            refine q_iret (pc := 31) rfl (rfl) ?_
            exact hq _
  · have hc2 : h.2.2 25 = .inr (3, [.ref 26, .int (s 25 1), .ref 27, .ref 28, .int (s 25 4), .int (s 25 5), .ref 29, .int (s 25 7), .ref 30, .int (s 25 9)]) := hc
    refine wc.go [_] rfl ?_
    refine q_aload_n (pc := 0) rfl rfl rfl ?_
    refine q_getf (pc := 1) rfl (by exact hc2) rfl rfl ?_
    refine q_iflt (pc := 4) rfl (fun h4 => ?_) (fun h4 => ?_)
    · first
      | (exfalso; omega (config := {splitDisjunctions := false}))
      | skip
        refine q_bipush (pc := 29) rfl (-22) (by decide) ?_
        refine q_iret (pc := 31) rfl (rfl) ?_
        exact hq _
    · first
      | (exfalso; omega (config := {splitDisjunctions := false}))
      | skip
        refine q_aload_n (pc := 7) rfl rfl rfl ?_
        refine q_getf (pc := 8) rfl (by exact hc2) rfl rfl ?_
        refine q_sipush (pc := 11) rfl (nI 160) (by decide) ?_
        refine q_icmpgt (pc := 14) rfl (fun h14 => ?_) (fun h14 => ?_)
        · first
          | (exfalso; omega (config := {splitDisjunctions := false}))
          | skip
            refine q_bipush (pc := 29) rfl (-22) (by decide) ?_
            refine q_iret (pc := 31) rfl (rfl) ?_
            exact hq _
        · exact (z_out (m := 161) g h4 (Int32.not_lt.mp h14) (by decide)).elim
theorem c_fail {i o : Nat} (H : HR P h s) (hl : 51 ≤ P.1) (pt : PT s T pl k) (ps : PS s i o out) (hi : i ≤ k) (kk : ∀ h', HR P h' (stv s 25 9 (nI (pl i))) → Q none h') : wc d 34 [.ref 25] h Q := by
  have k6 := pt.2.1
  refine wc.go [_] rfl ?_
  refine q_aload_n (pc := 0) rfl rfl rfl ?_
  refine q_getf (pc := 1) rfl (by first | exact HR.pr H hl ps | exact HR.pf H hl fs | exact HR.c H hl _ rfl) rfl rfl ?_
  refine q_iconst (pc := 4) rfl (-1) (by decide) ?_
  refine q_icmpne (pc := 5) rfl (fun h5 => ?_) (fun h5 => ?_)
  · exact absurd rfl h5
  · first
    | (exfalso; omega (config := {splitDisjunctions := false}))
    | exact absurd rfl h5
    | skip
      refine q_aload_n (pc := 8) rfl rfl rfl ?_
      refine q_getf (pc := 9) rfl (by first | exact HR.pr H hl ps | exact HR.pf H hl fs | exact HR.c H hl _ rfl) rfl rfl ?_
      refine q_iflt (pc := 12) rfl (fun h12 => ?_) (fun h12 => ?_)
      · first | (exfalso; omega) | exact absurd h12 (nI_pos (by omega)) | exact absurd (nI_pos' (by omega)) h12
      · refine q_aload_n (pc := 15) rfl rfl rfl ?_
        refine q_getf (pc := 16) rfl (by first | exact HR.pr H hl ps | exact HR.pf H hl fs | exact HR.c H hl _ rfl) rfl rfl ?_
        refine q_sipush (pc := 19) rfl (nI 160) (by decide) ?_
        first | refine n_icmpgt (pc := 22) rfl (by omega) (by omega) (fun h22 => ?_) (fun h22 => ?_) | refine q_icmpgt (pc := 22) rfl (fun h22 => ?_) (fun h22 => ?_)
        · first | (exfalso; omega) | exact absurd h22 (nI_pos (by omega)) | exact absurd (nI_pos' (by omega)) h22
        · refine q_aload_n (pc := 25) rfl rfl rfl ?_
          refine q_aload_n (pc := 26) rfl rfl rfl ?_
          refine q_getf (pc := 27) rfl (by first | exact HR.pr H hl ps | exact HR.pf H hl fs | exact HR.c H hl _ rfl) rfl rfl ?_
          refine q_aload_n (pc := 30) rfl rfl rfl ?_
          refine q_getf (pc := 31) rfl (by first | exact HR.pr H hl ps | exact HR.pf H hl fs | exact HR.c H hl _ rfl) rfl rfl ?_
          refine n_ild (pc := 34) rfl (by exact HR.la0 H hl rfl rfl) rfl (by omega) (by omega) ?_
          rw [(pt.1 i hi).2]
          refine r_pf2 (pc := 35) (i := 9) rfl H hl rfl rfl rfl rfl (Nat.le_of_ble_eq_true rfl) rfl rfl ?_
          intro h H
          refine q_vret (pc := 38) rfl rfl ?_
          exact kk _ H
theorem c_emit {i o : Nat} (H : HR P h s) (hl : 51 ≤ P.1) (ps : PS s i o out) (hi : out.length < 160) (kk : ∀ h' s', HR P h' s' → pf s s' → PS s' i o (out ++ [x]) → Q none h') : wc d 36 [.ref 25, .int x] h Q := by
  refine wc.go [_, _] rfl ?_
  refine q_aload_n (pc := 0) rfl rfl rfl ?_
  refine q_getf (pc := 1) rfl (by first | exact HR.pr H hl ps | exact HR.pr H hl ps2 | exact HR.c H hl _ rfl) rfl rfl ?_
  refine q_iconst (pc := 4) rfl (-1) (by decide) ?_
  refine q_icmpne (pc := 5) rfl (fun h5 => ?_) (fun h5 => ?_)
  · exact absurd rfl h5
  · first
    | (exfalso; omega (config := {splitDisjunctions := false}))
    | exact absurd rfl h5
    | skip
      refine q_aload_n (pc := 8) rfl rfl rfl ?_
      refine q_getf (pc := 9) rfl (by first | exact HR.pr H hl ps | exact HR.pr H hl ps2 | exact HR.c H hl _ rfl) rfl rfl ?_
      refine q_iflt (pc := 12) rfl (fun h12 => ?_) (fun h12 => ?_)
      · first | (exfalso; omega) | exact absurd h12 (nI_pos (by omega)) | exact absurd (nI_pos' (by omega)) h12
      · refine q_aload_n (pc := 15) rfl rfl rfl ?_
        refine q_getf (pc := 16) rfl (by first | exact HR.pr H hl ps | exact HR.pr H hl ps2 | exact HR.c H hl _ rfl) rfl rfl ?_
        refine q_sipush (pc := 19) rfl (nI 160) (by decide) ?_
        first | refine n_icmpge (pc := 22) rfl (by omega) (by omega) (fun h22 => ?_) (fun h22 => ?_) | refine q_icmpge (pc := 22) rfl (fun h22 => ?_) (fun h22 => ?_)
        · first | (exfalso; omega) | exact absurd h22 (nI_pos (by omega)) | exact absurd (nI_pos' (by omega)) h22
        · refine q_aload_n (pc := 25) rfl rfl rfl ?_
          refine q_getf (pc := 26) rfl (by first | exact HR.pr H hl ps | exact HR.pr H hl ps2 | exact HR.c H hl _ rfl) rfl rfl ?_
          refine q_aload_n (pc := 29) rfl rfl rfl ?_
          refine q_getf (pc := 30) rfl (by first | exact HR.pr H hl ps | exact HR.pr H hl ps2 | exact HR.c H hl _ rfl) rfl rfl ?_
          refine q_iload_n (pc := 33) rfl rfl ?_
          refine r_ist2 (pc := 34) rfl H hl rfl (fun _ => rfl) rfl (by omega) (by omega) ?_
          intro h H
          have ps2 : PS (stv s 29 out.length x) i o out := ⟨(congrFun (stv_n (by decide)) _).trans ps.1, (congrFun (stv_n (by decide)) _).trans ps.2.1, (congrFun (stv_n (by decide)) _).trans ps.2.2.1, (congrFun (stv_n (by decide)) _).trans ps.2.2.2.1, fun j hj => (stv_o (by omega)).trans (ps.2.2.2.2 j hj)⟩
          refine q_aload_n (pc := 35) rfl rfl rfl ?_
          refine q_dup (pc := 36) rfl rfl ?_
          refine q_getf (pc := 37) rfl (by first | exact HR.pr H hl ps | exact HR.pr H hl ps2 | exact HR.c H hl _ rfl) rfl rfl ?_
          refine q_iconst (pc := 40) rfl (nI 1) (by decide) ?_
          first | refine n_iadd (pc := 41) rfl ?_ | refine q_iadd (pc := 41) rfl ?_
          refine r_pf2 (pc := 42) (i := 7) rfl H hl rfl rfl rfl rfl (Nat.le_of_ble_eq_true rfl) rfl rfl ?_
          intro h H
          refine q_vret (pc := 45) rfl rfl ?_
          refine kk _ _ H ⟨(sf.rf.st (Or.inr rfl)).st (Or.inl rfl), (stv_o (by decide)).trans (congrFun (stv_n (by decide)) _)⟩ ⟨(stv_o (by decide)).trans ps2.1, (stv_o (by decide)).trans ps2.2.1, by rw [List.length_append]; exact stv_a, (stv_o (by decide)).trans ps2.2.2.2.1, fun j hj => ?_⟩
          rw [stv_n (by decide)]
          rw [List.length_append] at hj
          have hj : j < out.length + 1 := hj
          by_cases e : j = out.length
          · subst e
            rw [stv_a, gd_e]
          · rw [stv_o e, gd_l (by omega)]
            exact ps.2.2.2.2 j (by omega)
theorem c_emitX (H : HR P h s) (hl : 51 ≤ P.1) (fs : FS s pl k f) (hq : Q none h) : wc d 36 [.ref 25, .int x] h Q := by
  have hb := fs.1.2
  refine wc.go [_, _] rfl ?_
  refine q_aload_n (pc := 0) rfl rfl rfl ?_
  refine q_getf (pc := 1) rfl (by first | exact HR.pr H hl ps | exact HR.pf H hl fs | exact HR.c H hl _ rfl) rfl rfl ?_
  refine q_iconst (pc := 4) rfl (-1) (by decide) ?_
  refine q_icmpne (pc := 5) rfl (fun h5 => ?_) (fun h5 => ?_)
  · first
    | (exfalso; omega (config := {splitDisjunctions := false}))
    | exact absurd rfl h5
    | skip
      refine q_vret (pc := 45) rfl rfl ?_
      exact hq
  · exact absurd h5 (nI_m1 (by omega))
theorem c_expect {i o : Nat} (hd : 1 ≤ d) (H : HR P h s) (hl : 51 ≤ P.1) (pt : PT s T pl k) (ps : PS s i o out) (hi : i ≤ k) (k1 : T i = x → ∀ h', HR P h' (stv s 25 4 (nI (i + 1))) → Q none h') (k2 : ¬ T i = x → ∀ h', HR P h' (stv s 25 9 (nI (pl i))) → Q none h') : wc d 35 [.ref 25, .int x] h Q := by
  refine wc.go [_, _] rfl ?_
  refine q_aload_n (pc := 0) rfl rfl rfl ?_
  refine q_getf (pc := 1) rfl (by first | exact HR.pr H hl ps | exact HR.pf H hl fs | exact HR.c H hl _ rfl) rfl rfl ?_
  refine q_iconst (pc := 4) rfl (-1) (by decide) ?_
  refine q_icmpeq (pc := 5) rfl (fun h5 => ?_) (fun h5 => ?_)
  · first
    | (exfalso; omega (config := {splitDisjunctions := false}))
    | exact absurd rfl h5
    | skip
      refine q_aload_n (pc := 9) rfl rfl rfl ?_
      refine q_callV (pc := 10) _ rfl rfl rfl (by first | exact HR.pr H hl ps | exact HR.pf H hl fs | exact HR.c H hl _ rfl) rfl (Nat.le_of_ble_eq_true rfl) (by omega) _ rfl ?_
      refine c_token H hl pt ps hi ?_
      refine q_iload_n (pc := 13) rfl rfl ?_
      refine q_icmpne (pc := 14) rfl (fun h14 => ?_) (fun h14 => ?_)
      · 
        first
        | (exfalso; omega (config := {splitDisjunctions := false}))
        | exact absurd rfl h14
        | skip
          refine q_aload_n (pc := 30) rfl rfl rfl ?_
          refine q_callV (pc := 31) _ rfl rfl rfl (by first | exact HR.pr H hl ps | exact HR.pf H hl fs | exact HR.c H hl _ rfl) rfl (Nat.le_of_ble_eq_true rfl) (by omega) _ rfl ?_
          refine c_fail H hl pt ps hi ?_
          intro h H
          refine q_vret (pc := 34) rfl rfl ?_
          first | exact k1 h14 _ H | exact k2 h14 _ H
      · 
        first
        | (exfalso; omega (config := {splitDisjunctions := false}))
        | exact absurd rfl h14
        | skip
          refine q_aload_n (pc := 17) rfl rfl rfl ?_
          refine q_dup (pc := 18) rfl rfl ?_
          refine q_getf (pc := 19) rfl (by first | exact HR.pr H hl ps | exact HR.pf H hl fs | exact HR.c H hl _ rfl) rfl rfl ?_
          refine q_iconst (pc := 22) rfl (nI 1) (by decide) ?_
          first | refine n_iadd (pc := 23) rfl ?_ | refine q_iadd (pc := 23) rfl ?_
          refine r_pf2 (pc := 24) (i := 4) rfl H hl rfl rfl rfl rfl (Nat.le_of_ble_eq_true rfl) rfl rfl ?_
          intro h H
          refine q_goto (pc := 27) rfl ?_
          refine q_vret (pc := 34) rfl rfl ?_
          first | exact k1 h14 _ H | exact k2 h14 _ H
  · exact absurd rfl h5
theorem c_expectX (H : HR P h s) (hl : 51 ≤ P.1) (fs : FS s pl k f) (hq : Q none h) : wc d 35 [.ref 25, .int x] h Q := by
  have hb := fs.1.2
  refine wc.go [_, _] rfl ?_
  refine q_aload_n (pc := 0) rfl rfl rfl ?_
  refine q_getf (pc := 1) rfl (by first | exact HR.pr H hl ps | exact HR.pf H hl fs | exact HR.c H hl _ rfl) rfl rfl ?_
  refine q_iconst (pc := 4) rfl (-1) (by decide) ?_
  refine q_icmpeq (pc := 5) rfl (fun h5 => ?_) (fun h5 => ?_)
  · exact absurd h5 (nI_m1 (by omega))
  · first
    | (exfalso; omega (config := {splitDisjunctions := false}))
    | exact absurd rfl h5
    | skip
      refine q_vret (pc := 8) rfl rfl ?_
      exact hq
theorem c_opens {i o : Nat} (hd : 1 ≤ d) (H : HR P h s) (hl : 51 ≤ P.1) (pt : PT s T pl k) (ps : PS s i o out) (hi : i ≤ k) (ho : o ≤ 5) (k1 : o < 5 → ∀ h', HR P h' (stv (stv s 25 5 (nI (o + 1))) 25 4 (nI (i + 1))) → Q (some (.int 1)) h') (k2 : ¬ o < 5 → ∀ h', HR P h' (stv s 25 9 (nI (pl i))) → Q (some (.int 0)) h') : wc d 37 [.ref 25] h Q := by
  refine wc.go [_] rfl ?_
  refine q_aload_n (pc := 0) rfl rfl rfl ?_
  refine q_getf (pc := 1) rfl (by first | exact HR.pr H hl ps | exact HR.pr H hl (ps.op (j := o + 1)) | exact HR.c H hl _ rfl) rfl rfl ?_
  refine q_iconst (pc := 4) rfl (nI 5) (by decide) ?_
  first | refine n_icmplt (pc := 5) rfl (by omega) (by omega) (fun h5 => ?_) (fun h5 => ?_) | refine q_icmplt (pc := 5) rfl (fun h5 => ?_) (fun h5 => ?_)
  · first
    | (exfalso; omega (config := {splitDisjunctions := false}))
    | skip
      refine q_aload_n (pc := 14) rfl rfl rfl ?_
      refine q_dup (pc := 15) rfl rfl ?_
      refine q_getf (pc := 16) rfl (by first | exact HR.pr H hl ps | exact HR.pr H hl (ps.op (j := o + 1)) | exact HR.c H hl _ rfl) rfl rfl ?_
      refine q_iconst (pc := 19) rfl (nI 1) (by decide) ?_
      first | refine n_iadd (pc := 20) rfl ?_ | refine q_iadd (pc := 20) rfl ?_
      refine r_pf2 (pc := 21) (i := 5) rfl H hl rfl rfl rfl rfl (Nat.le_of_ble_eq_true rfl) rfl rfl ?_
      intro h H
      refine q_aload_n (pc := 24) rfl rfl rfl ?_
      refine q_dup (pc := 25) rfl rfl ?_
      refine q_getf (pc := 26) rfl (by first | exact HR.pr H hl ps | exact HR.pr H hl (ps.op (j := o + 1)) | exact HR.c H hl _ rfl) rfl rfl ?_
      refine q_iconst (pc := 29) rfl (nI 1) (by decide) ?_
      first | refine n_iadd (pc := 30) rfl ?_ | refine q_iadd (pc := 30) rfl ?_
      refine r_pf2 (pc := 31) (i := 4) rfl H hl rfl rfl rfl rfl (Nat.le_of_ble_eq_true rfl) rfl rfl ?_
      intro h H
      refine q_iconst (pc := 34) rfl (nI 1) (by decide) ?_
      refine q_iret (pc := 35) rfl (rfl) ?_
      first | exact k1 (by omega) _ H | exact k2 (by omega) _ H
  · first
    | (exfalso; omega (config := {splitDisjunctions := false}))
    | skip
      refine q_aload_n (pc := 8) rfl rfl rfl ?_
      refine q_callV (pc := 9) _ rfl rfl rfl (by first | exact HR.pr H hl ps | exact HR.pr H hl (ps.op (j := o + 1)) | exact HR.c H hl _ rfl) rfl (Nat.le_of_ble_eq_true rfl) (by omega) _ rfl ?_
      refine c_fail H hl pt ps hi ?_
      intro h H
      refine q_iconst (pc := 12) rfl (nI 0) (by decide) ?_
      refine q_iret (pc := 13) rfl (rfl) ?_
      first | exact k1 (by omega) _ H | exact k2 (by omega) _ H
theorem lv_out {t : Int32} (h : t.toInt < -14 ∨ -7 < t.toInt) : lvI t = -1 := by
  unfold lvI
  have g : ∀ z : Int32, -14 ≤ z.toInt → z.toInt ≤ -7 → t ≠ z := fun z h1 h2 e => by
    rw [e] at h
    omega
  rw [if_neg (g _ (by decide) (by decide)), if_neg (g _ (by decide) (by decide)), if_neg (fun e => e.elim (g _ (by decide) (by decide)) (g _ (by decide) (by decide))), if_neg (g _ (by decide) (by decide))]

theorem x_lv (hx : ¬ (x.toInt < -14 ∨ -7 < x.toInt)) : x = -14 ∨ x = -13 ∨ x = -12 ∨ x = -11 ∨ x = -10 ∨ x = -9 ∨ x = -8 ∨ x = -7 := by
  rcases (show x.toInt = -14 ∨ x.toInt = -13 ∨ x.toInt = -12 ∨ x.toInt = -11 ∨ x.toInt = -10 ∨ x.toInt = -9 ∨ x.toInt = -8 ∨ x.toInt = -7 by omega) with e | e | e | e | e | e | e | e
  · exact (Or.inl (i32_is (-14) (e.trans (by decide))))
  · exact (Or.inr (Or.inl (i32_is (-13) (e.trans (by decide)))))
  · exact (Or.inr (Or.inr (Or.inl (i32_is (-12) (e.trans (by decide))))))
  · exact (Or.inr (Or.inr (Or.inr (Or.inl (i32_is (-11) (e.trans (by decide)))))))
  · exact (Or.inr (Or.inr (Or.inr (Or.inr (Or.inl (i32_is (-10) (e.trans (by decide))))))))
  · exact (Or.inr (Or.inr (Or.inr (Or.inr (Or.inr (Or.inl (i32_is (-9) (e.trans (by decide)))))))))
  · exact (Or.inr (Or.inr (Or.inr (Or.inr (Or.inr (Or.inr (Or.inl (i32_is (-8) (e.trans (by decide))))))))))
  · exact (Or.inr (Or.inr (Or.inr (Or.inr (Or.inr (Or.inr (Or.inr (i32_is (-7) (e.trans (by decide))))))))))
theorem c_levelOf (hq : Q (some (.int (lvI x))) h) : wc d 38 [.int x] h Q := by
  by_cases hx : x.toInt < -14 ∨ -7 < x.toInt
  · rw [lv_out hx] at hq
    have ht : ∀ dd offs, mx_tsw dd (-14) (-7) offs 1 x = mx_tg 1 dd := fun dd offs => by
      unfold mx_tsw
      exact if_pos hx
    refine wc.go [_] rfl ?_
    refine q_iload_n (pc := 0) rfl rfl ?_
    
    · refine q_tsw (pc := 1) (t := 56) rfl ((ht _ _).trans rfl) ?_
      refine q_iconst (pc := 56) rfl (-1) (by decide) ?_
      refine q_iret (pc := 57) rfl (rfl) ?_
      exact hq
  · rcases x_lv hx with rfl | rfl | rfl | rfl | rfl | rfl | rfl | rfl
    ·
      refine wc.go [_] rfl ?_
      refine q_iload_n (pc := 0) rfl rfl ?_
      
      · refine q_tsw (pc := 1) (t := 54) rfl (by decide) ?_
        refine q_iconst (pc := 54) rfl (nI 4) (by decide) ?_
        refine q_iret (pc := 55) rfl (rfl) ?_
        exact hq
    ·
      refine wc.go [_] rfl ?_
      refine q_iload_n (pc := 0) rfl rfl ?_
      
      · refine q_tsw (pc := 1) (t := 52) rfl (by decide) ?_
        refine q_iconst (pc := 52) rfl (nI 3) (by decide) ?_
        refine q_iret (pc := 53) rfl (rfl) ?_
        exact hq
    ·
      refine wc.go [_] rfl ?_
      refine q_iload_n (pc := 0) rfl rfl ?_
      
      · refine q_tsw (pc := 1) (t := 52) rfl (by decide) ?_
        refine q_iconst (pc := 52) rfl (nI 3) (by decide) ?_
        refine q_iret (pc := 53) rfl (rfl) ?_
        exact hq
    ·
      refine wc.go [_] rfl ?_
      refine q_iload_n (pc := 0) rfl rfl ?_
      
      · refine q_tsw (pc := 1) (t := 56) rfl (by decide) ?_
        refine q_iconst (pc := 56) rfl (-1) (by decide) ?_
        refine q_iret (pc := 57) rfl (rfl) ?_
        exact hq
    ·
      refine wc.go [_] rfl ?_
      refine q_iload_n (pc := 0) rfl rfl ?_
      
      · refine q_tsw (pc := 1) (t := 56) rfl (by decide) ?_
        refine q_iconst (pc := 56) rfl (-1) (by decide) ?_
        refine q_iret (pc := 57) rfl (rfl) ?_
        exact hq
    ·
      refine wc.go [_] rfl ?_
      refine q_iload_n (pc := 0) rfl rfl ?_
      
      · refine q_tsw (pc := 1) (t := 56) rfl (by decide) ?_
        refine q_iconst (pc := 56) rfl (-1) (by decide) ?_
        refine q_iret (pc := 57) rfl (rfl) ?_
        exact hq
    ·
      refine wc.go [_] rfl ?_
      refine q_iload_n (pc := 0) rfl rfl ?_
      
      · refine q_tsw (pc := 1) (t := 50) rfl (by decide) ?_
        refine q_iconst (pc := 50) rfl (nI 1) (by decide) ?_
        refine q_iret (pc := 51) rfl (rfl) ?_
        exact hq
    ·
      refine wc.go [_] rfl ?_
      refine q_iload_n (pc := 0) rfl rfl ?_
      
      · refine q_tsw (pc := 1) (t := 48) rfl (by decide) ?_
        refine q_iconst (pc := 48) rfl (nI 0) (by decide) ?_
        refine q_iret (pc := 49) rfl (rfl) ?_
        exact hq
def PRes (T : Nat → Int32) (pl : Nat → Nat) (k n i o : Nat) (out : List Int32) (s' : mx_St) (cond : List Nat → Prop) (fin : Nat → Nat → Nat → List Int32 → List Nat → mxO) (bad : Int32 → Prop) : Prop :=
  (∃ f, FS s' pl k f ∧ ∀ S, cond S → mA T n false i o out S = .inl f) ∨ (∃ n' i' seg, PS s' i' o (out ++ seg) ∧ n' + i' = n + i ∧ i' ≤ k ∧ i < i' ∧ seg.length + i ≤ i' ∧ wf1 seg ∧ ¬ bad (T i') ∧ ∀ S, cond S → mA T n false i o out S = fin n' i' o (out ++ seg) S)
def PC (T : Nat → Int32) (pl : Nat → Nat) (k d m : Nat) (args : List Value) (n i o : Nat) (cond : List Nat → Prop) (fin : Nat → Nat → Nat → List Int32 → List Nat → mxO) (bad : Int32 → Prop) : Prop := ∀ (P : mx_Pm) (h : mx_H) (s : mx_St) (out : List Int32) (Q : Option Value → mx_H → Prop), HR P h s → 51 ≤ P.1 → PT s T pl k → PS s i o out → out.length ≤ i → i ≤ k → (∀ h' s', HR P h' s' → pf s s' → PRes T pl k n i o out s' cond fin bad → Q none h') → wc d m (.ref 25 :: args) h Q
def fB (T : Nat → Int32) (n i o : Nat) (out : List Int32) (S : List Nat) : mxO := mA T n true i o out S
theorem isE_lv (h : isE t) : lvI t = -1 ∧ t < -6 ∧ ¬ (t = -13 ∨ t = -16 ∨ t = -9) := by
  rcases h with rfl | rfl <;> decide
/-- in the fault a chain goes to its end -/
theorem p_chainF {L : Nat} (hd : 1 ≤ d) (H : HR P h s) (hl : 51 ≤ P.1) (fs : FS s pl k f) (hq : Q none h) {x2 : Int32} (z3 : Option Value) : wq d 39 9 [some (.ref 25), some (.int (nI L)), some (.int x2), z3] [] h Q := by
  have hb := fs.1.2
  refine q_iload_n (pc := 9) rfl rfl ?_
  refine q_sipush (pc := 10) rfl (nI 160) (by decide) ?_
  refine q_icmpge (pc := 13) rfl (fun h13 => ?_) (fun h13 => ?_)
  · first
    | (exfalso; omega (config := {splitDisjunctions := false}))
    | skip
      refine q_vret (pc := 68) rfl rfl ?_
      exact hq
  · first
    | (exfalso; omega (config := {splitDisjunctions := false}))
    | skip
      refine q_aload_n (pc := 16) rfl rfl rfl ?_
      refine q_getf (pc := 17) rfl (by first | exact HR.pr H hl ps | exact HR.pf H hl fs | exact HR.c H hl _ rfl) rfl rfl ?_
      refine q_iconst (pc := 20) rfl (-1) (by decide) ?_
      refine q_icmpne (pc := 21) rfl (fun h21 => ?_) (fun h21 => ?_)
      · first
        | (exfalso; omega (config := {splitDisjunctions := false}))
        | exact absurd rfl h21
        | skip
          refine q_vret (pc := 68) rfl rfl ?_
          exact hq
      · exact absurd h21 (nI_m1 (by omega))
/-- what a level's operand and its sign are to the machine -/
def Alg (T : Nat → Int32) (L o : Nat) (condC : List Nat → Prop) (condO : List Nat → Prop) (finO finC : Nat → Nat → Nat → List Int32 → List Nat → mxO) (badO badC : Int32 → Prop) : Prop :=
  (∀ n i out S, condC S → ¬ badO (T i) → lvI (T i) ≠ nI L → finO n i o out S = finC n i o out S) ∧ (∀ n i out S, condC S → ¬ badO (T i) → lvI (T i) = nI L → finO (n + 1) i o out S = mA T n false (i + 1) o out (bin (T i) :: S)) ∧ (∀ t n i out S, condC S → lvI t = nI L → ¬ badO (T i) → finO n i o out (bin t :: S) = finO n i o (out ++ [t]) S) ∧ (∀ t S, lvI t = nI L → condC S → condO (bin t :: S)) ∧ ∀ t, ¬ badO t → lvI t ≠ nI L → ¬ badC t
theorem lv_bin {L : Nat} (h : lvI t = nI L) (hL : L ≤ 4) : dc (bin t) = t ∧ (bin t = 7 ∨ bin t = 8 ∨ bin t = 10 ∨ bin t = 11 ∨ bin t = 12 ∨ bin t = 13 ∨ bin t = 14) := by
  by_cases hx : t.toInt < -14 ∨ -7 < t.toInt
  · rw [lv_out hx] at h
    exact absurd h.symm (nI_m1 (by omega))
  · rcases x_lv hx with rfl | rfl | rfl | rfl | rfl | rfl | rfl | rfl <;> first | exact absurd h.symm (nI_m1 (by omega)) | decide
theorem p_chainL {L i0 o : Nat} {condC : List Nat → Prop} {condO : Nat → List Nat → Prop} {finO finC : Nat → Nat → Nat → List Int32 → List Nat → mxO} {badO badC : Int32 → Prop} {start : List Nat → mxO} (hd : 3 ≤ d) (hl : 51 ≤ P.1) (hL : L ≤ 4) (hkM : k < M) (hO : ∀ n1 i1, n1 + i1 = M → i0 < i1 → PC T pl k (d - 1) 40 [.int (nI (L + 1))] n1 i1 o (condO i1) finO badO) (hA : ∀ i1, Alg T L o condC (condO i1) finO finC badO badC) {s0 : mx_St} (pt : PT s0 T pl k) (hout : out.length ≤ i0) (kk : ∀ h' s', HR P h' s' → pf s0 s' → ((∃ f, FS s' pl k f ∧ ∀ S, condC S → start S = .inl f) ∨ (∃ n' i' seg, PS s' i' o (out ++ seg) ∧ n' + i' = M ∧ i' ≤ k ∧ i0 < i' ∧ seg.length + i0 ≤ i' ∧ wf1 seg ∧ ¬ badC (T i') ∧ ∀ S, condC S → start S = finC n' i' o (out ++ seg) S)) → Q none h') (n i c : Nat) (hi : n + i = M) (hik : i ≤ k) (hi0 : i0 < i) (hc : c ≤ i) (seg : List Int32) (hseg : seg.length + i0 ≤ i) (hwf : wf1 seg) (hb : ¬ badO (T i)) (hst : ∀ S, condC S → start S = finO n i o (out ++ seg) S) (h : mx_H) (s : mx_St) (H : HR P h s) (fr : pf s0 s) (ps : PS s i o (out ++ seg)) (z3 : Option Value) : wq d 39 9 [some (.ref 25), some (.int (nI L)), some (.int (nI c)), z3] [] h Q := by
  have k6 := pt.2.1
  have pt1 := pt.fr fr
  by_cases hop : lvI (T i) = nI L
  · have hik2 : i < k := by
      rcases Nat.lt_or_ge i k with g | g
      · exact g
      · exfalso
        have e : i = k := by omega
        rw [e, (isE_lv pt.2.2.2.1).1] at hop
        exact absurd hop.symm (nI_m1 (by omega))
    obtain ⟨n, rfl⟩ : ∃ m, n = m + 1 := ⟨n - 1, by omega⟩
    have hbn := lv_bin hop hL
    refine q_iload_n (pc := 9) rfl rfl ?_
    refine q_sipush (pc := 10) rfl (nI 160) (by decide) ?_
    first | refine n_icmpge (pc := 13) rfl (by omega) (by omega) (fun h13 => ?_) (fun h13 => ?_) | refine q_icmpge (pc := 13) rfl (fun h13 => ?_) (fun h13 => ?_)
    · first | (exfalso; omega) | exact absurd h13 (nI_pos (by omega)) | exact absurd (nI_pos' (by omega)) h13
    · refine q_aload_n (pc := 16) rfl rfl rfl ?_
      refine q_getf (pc := 17) rfl (by first | exact HR.pr H hl ps | exact HR.pf H hl fs | exact HR.c H hl _ rfl) rfl rfl ?_
      refine q_iconst (pc := 20) rfl (-1) (by decide) ?_
      refine q_icmpne (pc := 21) rfl (fun h21 => ?_) (fun h21 => ?_)
      · exact absurd rfl h21
      · first
        | (exfalso; omega (config := {splitDisjunctions := false}))
        | exact absurd rfl h21
        | skip
          refine q_aload_n (pc := 24) rfl rfl rfl ?_
          refine q_callV (pc := 25) _ rfl rfl rfl (by first | exact HR.pr H hl ps | exact HR.pf H hl fs | exact HR.c H hl _ rfl) rfl (Nat.le_of_ble_eq_true rfl) (by omega) _ rfl ?_
          refine c_token H hl pt1 ps hik ?_
          refine q_callS (pc := 28) _ (by decide) rfl rfl rfl rfl (Nat.le_of_ble_eq_true rfl) (by omega) _ rfl ?_
          refine c_levelOf ?_
          refine q_iload_n (pc := 31) rfl rfl ?_
          refine q_icmpne (pc := 32) rfl (fun h32 => ?_) (fun h32 => ?_)
          · exact absurd hop h32
          · first
            | (exfalso; omega (config := {splitDisjunctions := false}))
            | exact absurd rfl h32
            | skip
              refine q_aload_n (pc := 35) rfl rfl rfl ?_
              refine q_callV (pc := 36) _ rfl rfl rfl (by first | exact HR.pr H hl ps | exact HR.pf H hl fs | exact HR.c H hl _ rfl) rfl (Nat.le_of_ble_eq_true rfl) (by omega) _ rfl ?_
              refine c_token H hl pt1 ps hik ?_
              refine q_istore_n (pc := 39) [_, _, _, _] rfl (Nat.le_of_ble_eq_true rfl) rfl ?_
              refine q_aload_n (pc := 40) rfl rfl rfl ?_
              refine q_dup (pc := 41) rfl rfl ?_
              refine q_getf (pc := 42) rfl (by first | exact HR.pr H hl ps | exact HR.pf H hl fs | exact HR.c H hl _ rfl) rfl rfl ?_
              refine q_iconst (pc := 45) rfl (nI 1) (by decide) ?_
              first | refine n_iadd (pc := 46) rfl ?_ | refine q_iadd (pc := 46) rfl ?_
              refine r_pf2 (pc := 47) (i := 4) rfl H hl rfl rfl rfl rfl (Nat.le_of_ble_eq_true rfl) rfl rfl ?_
              intro h H
              have ps := ps.nx (j := i + 1)
              have fr := fr.tr (pf.wr (s := s) (j := 4) (v := nI (i + 1)) (by decide))
              refine q_aload_n (pc := 50) rfl rfl rfl ?_
              refine q_iload_n (pc := 51) rfl rfl ?_
              refine q_iconst (pc := 52) rfl (nI 1) (by decide) ?_
              first | refine n_iadd (pc := 53) rfl ?_ | refine q_iadd (pc := 53) rfl ?_
              refine q_callV (pc := 54) _ rfl rfl rfl (by first | exact HR.pr H hl ps | exact HR.pf H hl fs | exact HR.c H hl _ rfl) rfl (Nat.le_of_ble_eq_true rfl) (by omega) _ rfl ?_
              refine hO n (i + 1) (by omega) (by omega) P h _ (out ++ seg) _ H hl (pt.fr fr) ps (by rw [List.length_append]; omega) (by omega) ?_
              intro h s1 H f1 r1
              have fr := fr.tr f1
              rcases r1 with ⟨f, fs, r1⟩ | ⟨n', i', seg2, ps, q1, q2, q3, q4, hw2, hb2, r1⟩
              · refine q_aload_n (pc := 57) rfl rfl rfl ?_
                refine q_iload_n (pc := 58) rfl rfl ?_
                refine q_callV (pc := 59) _ rfl rfl rfl (by first | exact HR.pr H hl ps | exact HR.pf H hl fs | exact HR.c H hl _ rfl) rfl (Nat.le_of_ble_eq_true rfl) (by omega) _ rfl ?_
                first
                | (refine c_emitX H hl fs ?_)
                | (refine c_emit H hl ps (by rw [List.length_append, List.length_append]; omega) ?_
                   intro h s2 H f2 ps
                   have fr := fr.tr f2)
                first | refine n_iinc (pc := 62) rfl [_, _, _, _] 1 (by decide) rfl rfl ?_ | refine q_iinc (pc := 62) [_, _, _, _] (1) rfl rfl (by decide) rfl ?_
                refine q_goto (pc := 65) rfl ?_
                first
                | (exact p_chainF (by omega) H hl fs (kk _ _ H fr (Or.inl ⟨f, fs, fun S cS => by rw [hst S cS, (hA (i + 1)).2.1 _ _ _ _ cS hb hop, r1 _ ((hA (i + 1)).2.2.2.1 _ _ hop cS)]⟩)) _)
                | (refine p_chainL hd hl hL hkM hO hA pt hout kk n' i' (c + 1) (by omega) (by omega) (by omega) (by omega) (seg ++ seg2 ++ [T i]) (by rw [List.length_append, List.length_append]; show _ + 1 + _ ≤ _; omega) ?_ hb2 (fun S cS => ?_) h s2 H fr ?_ _
                   · rw [← hbn.1]
                     exact wf_b hwf hw2 hbn.2
                   · rw [hst S cS, (hA (i + 1)).2.1 _ _ _ _ cS hb hop, r1 _ ((hA (i + 1)).2.2.2.1 _ _ hop cS), (hA (i + 1)).2.2.1 _ _ _ _ _ cS hop hb2]
                     rw [← List.append_assoc, ← List.append_assoc]
                   · rw [← List.append_assoc, ← List.append_assoc]
                     exact ps)
              · refine q_aload_n (pc := 57) rfl rfl rfl ?_
                refine q_iload_n (pc := 58) rfl rfl ?_
                refine q_callV (pc := 59) _ rfl rfl rfl (by first | exact HR.pr H hl ps | exact HR.pf H hl fs | exact HR.c H hl _ rfl) rfl (Nat.le_of_ble_eq_true rfl) (by omega) _ rfl ?_
                first
                | (refine c_emitX H hl fs ?_)
                | (refine c_emit H hl ps (by rw [List.length_append, List.length_append]; omega) ?_
                   intro h s2 H f2 ps
                   have fr := fr.tr f2)
                first | refine n_iinc (pc := 62) rfl [_, _, _, _] 1 (by decide) rfl rfl ?_ | refine q_iinc (pc := 62) [_, _, _, _] (1) rfl rfl (by decide) rfl ?_
                refine q_goto (pc := 65) rfl ?_
                first
                | (exact p_chainF (by omega) H hl fs (kk _ _ H fr (Or.inl ⟨f, fs, fun S cS => by rw [hst S cS, (hA (i + 1)).2.1 _ _ _ _ cS hb hop, r1 _ ((hA (i + 1)).2.2.2.1 _ _ hop cS)]⟩)) _)
                | (refine p_chainL hd hl hL hkM hO hA pt hout kk n' i' (c + 1) (by omega) (by omega) (by omega) (by omega) (seg ++ seg2 ++ [T i]) (by rw [List.length_append, List.length_append]; show _ + 1 + _ ≤ _; omega) ?_ hb2 (fun S cS => ?_) h s2 H fr ?_ _
                   · rw [← hbn.1]
                     exact wf_b hwf hw2 hbn.2
                   · rw [hst S cS, (hA (i + 1)).2.1 _ _ _ _ cS hb hop, r1 _ ((hA (i + 1)).2.2.2.1 _ _ hop cS), (hA (i + 1)).2.2.1 _ _ _ _ _ cS hop hb2]
                     rw [← List.append_assoc, ← List.append_assoc]
                   · rw [← List.append_assoc, ← List.append_assoc]
                     exact ps)
  ·
    refine q_iload_n (pc := 9) rfl rfl ?_
    refine q_sipush (pc := 10) rfl (nI 160) (by decide) ?_
    first | refine n_icmpge (pc := 13) rfl (by omega) (by omega) (fun h13 => ?_) (fun h13 => ?_) | refine q_icmpge (pc := 13) rfl (fun h13 => ?_) (fun h13 => ?_)
    · first
      | (exfalso; omega (config := {splitDisjunctions := false}))
      | skip
        refine q_vret (pc := 68) rfl rfl ?_
        exact kk _ _ H fr (Or.inr ⟨n, i, seg, ps, hi, hik, hi0, hseg, hwf, (hA i).2.2.2.2 _ hb hop, fun S cS => (hst S cS).trans ((hA i).1 _ _ _ _ cS hb hop)⟩)
    · first
      | (exfalso; omega (config := {splitDisjunctions := false}))
      | skip
        refine q_aload_n (pc := 16) rfl rfl rfl ?_
        refine q_getf (pc := 17) rfl (by first | exact HR.pr H hl ps | exact HR.pf H hl fs | exact HR.c H hl _ rfl) rfl rfl ?_
        refine q_iconst (pc := 20) rfl (-1) (by decide) ?_
        refine q_icmpne (pc := 21) rfl (fun h21 => ?_) (fun h21 => ?_)
        · first
          | (exfalso; omega (config := {splitDisjunctions := false}))
          | exact absurd rfl h21
          | skip
            refine q_vret (pc := 68) rfl rfl ?_
            exact kk _ _ H fr (Or.inr ⟨n, i, seg, ps, hi, hik, hi0, hseg, hwf, (hA i).2.2.2.2 _ hb hop, fun S cS => (hst S cS).trans ((hA i).1 _ _ _ _ cS hb hop)⟩)
        · first
          | (exfalso; omega (config := {splitDisjunctions := false}))
          | exact absurd rfl h21
          | skip
            refine q_aload_n (pc := 24) rfl rfl rfl ?_
            refine q_callV (pc := 25) _ rfl rfl rfl (by first | exact HR.pr H hl ps | exact HR.pf H hl fs | exact HR.c H hl _ rfl) rfl (Nat.le_of_ble_eq_true rfl) (by omega) _ rfl ?_
            refine c_token H hl pt1 ps hik ?_
            refine q_callS (pc := 28) _ (by decide) rfl rfl rfl rfl (Nat.le_of_ble_eq_true rfl) (by omega) _ rfl ?_
            refine c_levelOf ?_
            refine q_iload_n (pc := 31) rfl rfl ?_
            refine q_icmpne (pc := 32) rfl (fun h32 => ?_) (fun h32 => ?_)
            · first
              | (exfalso; omega (config := {splitDisjunctions := false}))
              | exact absurd rfl h32
              | skip
                refine q_vret (pc := 68) rfl rfl ?_
                exact kk _ _ H fr (Or.inr ⟨n, i, seg, ps, hi, hik, hi0, hseg, hwf, (hA i).2.2.2.2 _ hb hop, fun S cS => (hst S cS).trans ((hA i).1 _ _ _ _ cS hb hop)⟩)
            · exact absurd h32 hop
termination_by n
theorem p_chain {L n i o : Nat} {condC : List Nat → Prop} {condO : Nat → List Nat → Prop} {finO finC : Nat → Nat → Nat → List Int32 → List Nat → mxO} {badO badC : Int32 → Prop} (hd : 3 ≤ d) (hL : L ≤ 4) (hkM : k < n + i) (hO : ∀ n1 i1, n1 + i1 = n + i → i ≤ i1 → PC T pl k (d - 1) 40 [.int (nI (L + 1))] n1 i1 o (condO i1) finO badO) (hC : ∀ S, condC S → condO i S) (hA : ∀ i1, Alg T L o condC (condO i1) finO finC badO badC) : PC T pl k d 39 [.int (nI L)] n i o condC finC badC := by
  intro P h s out Q H hl pt ps hout hik kk
  refine wc.go [_, _, _, _] rfl ?_
  refine q_aload_n (pc := 0) rfl rfl rfl ?_
  refine q_iload_n (pc := 1) rfl rfl ?_
  refine q_iconst (pc := 2) rfl (nI 1) (by decide) ?_
  first | refine n_iadd (pc := 3) rfl ?_ | refine q_iadd (pc := 3) rfl ?_
  refine q_callV (pc := 4) _ rfl rfl rfl (by exact HR.c H hl _ rfl) rfl (Nat.le_of_ble_eq_true rfl) (by omega) _ rfl ?_
  refine hO n i rfl (Nat.le_refl _) P h s out _ H hl pt ps hout hik ?_
  intro h s1 H f1 r1
  rcases r1 with ⟨f, fs, r1⟩ | ⟨n', i', seg2, ps, q1, q2, q3, q4, hw2, hb2, r1⟩
  · refine q_iconst (pc := 7) rfl (nI 0) (by decide) ?_
    refine q_istore_n (pc := 8) [_, _, _, _] rfl (Nat.le_of_ble_eq_true rfl) rfl ?_
    first
    | (exact p_chainF (by omega) H hl fs (kk _ _ H f1 (Or.inl ⟨f, fs, fun S cS => r1 S (hC S cS)⟩)) _)
    | (exact p_chainL (M := n + i) (i0 := i) (start := fun S => mA T n false i o out S) hd hl hL hkM (fun n1 i1 e1 e2 => hO n1 i1 e1 (by omega)) hA pt hout kk n' i' 0 q1 q2 q3 (by omega) seg2 q4 hw2 hb2 (fun S cS => r1 S (hC S cS)) h s1 H f1 ps _)
  · refine q_iconst (pc := 7) rfl (nI 0) (by decide) ?_
    refine q_istore_n (pc := 8) [_, _, _, _] rfl (Nat.le_of_ble_eq_true rfl) rfl ?_
    first
    | (exact p_chainF (by omega) H hl fs (kk _ _ H f1 (Or.inl ⟨f, fs, fun S cS => r1 S (hC S cS)⟩)) _)
    | (exact p_chainL (M := n + i) (i0 := i) (start := fun S => mA T n false i o out S) hd hl hL hkM (fun n1 i1 e1 e2 => hO n1 i1 e1 (by omega)) hA pt hout kk n' i' 0 q1 q2 q3 (by omega) seg2 q4 hw2 hb2 (fun S cS => r1 S (hC S cS)) h s1 H f1 ps _)
end P42
