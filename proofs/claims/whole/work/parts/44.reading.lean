/-! ===== the class: a tape is read, a text is made ===== -/
section P44
variable {d k pc a i j c p b t n m part q : Nat} {v : Int} {L L' : mx_L} {st r : List Value} {P : mx_Pm} {h : mx_H} {s : mx_St} {Q : Option Value → mx_H → Prop} {x y w z u : Int32} {β κ : Nat → Nat} {C : Nat → Nat → Int32} {E : Nat → Nat → Nat} {ik tz : Nat} {tp : Nat → Nat} {σ : Nat → Int32} {sz : Nat → Nat} {cl : Nat → Nat → Int32}
variable {T : Nat → Int32} {pl : Nat → Nat} {f M : Nat} {out seg : List Int32} {t : Int32}
def ky (p : Nat) : Int32 := if p = 0 then -19 else if p = 1 then -20 else -21
/-- the parts of a text -/
def rdT (T : Nat → Int32) : Nat → Nat → Nat → List Int32 → (Nat → Nat) → Nat ⊕ (List Int32 × (Nat → Nat))
  | 0, _, i, out, E => if T i = -22 then .inr (out, E) else .inl i
  | m + 1, p, i, out, E => if T i = ky p then (match mA T (200 - (i + 1)) false (i + 1) 0 out [] with | .inl f => .inl f | .inr (i', out') => if T i' = -18 then rdT T m (p + 1) (i' + 1) out' (up1 E p out'.length) else .inl i') else .inl i
def rdTxt (T : Nat → Int32) : Nat ⊕ (List Int32 × (Nat → Nat)) := rdT T 3 0 0 [] (fun _ => 0)
/-- a part of it stands well -/
def wfs (out : List Int32) (u v : Nat) : Prop := ∃ a b c, out = a ++ b ++ c ∧ a.length = u ∧ v = u + b.length ∧ wf1 b
theorem wfs_app {u v : Nat} (h : wfs out u v) : wfs (out ++ seg) u v := by
  obtain ⟨a, b, c, e, h1, h2, h3⟩ := h
  exact ⟨a, b, c ++ seg, by rw [e, List.append_assoc], h1, h2, h3⟩
theorem rpn_l (sd : Nat → Int32) : ∀ (b a c st : List Int32), rpn sd (fun j => (a ++ b ++ c).getD j 0) b.length a.length st = rpl sd b st := by
  intro b
  induction b with
  | nil => intro a c st; rfl
  | cons w b ih =>
    intro a c st
    have e : (a ++ (w :: b) ++ c).getD a.length 0 = w := by
      rw [List.append_assoc, List.getD_eq_getElem?_getD, List.getElem?_append_right (Nat.le_refl _), Nat.sub_self]
      rfl
    show (rpo sd ((a ++ (w :: b) ++ c).getD a.length 0) st).bind _ = (rpo sd w st).bind (rpl sd b)
    rw [e]
    cases e2 : rpo sd w st with
    | none => rfl
    | some st' =>
      have h2 := ih (a ++ [w]) c st'
      rw [show a ++ [w] ++ b ++ c = a ++ (w :: b) ++ c by simp, List.length_append] at h2
      exact h2
theorem wfs_p {u v : Nat} (h : wfs out u v) : wfp (fun j => out.getD j 0) u v := by
  obtain ⟨a, b, c, e, h1, h2, h3⟩ := h
  intro sd
  obtain ⟨x, hx⟩ := h3 sd []
  refine ⟨x, ?_⟩
  rw [show v - u = b.length by omega, e, ← h1, rpn_l]
  exact hx
def rr (s s' : mx_St) : Prop := sf s s' (fun i => i = 25 ∨ i = 29 ∨ i = 30) ∧ s' 25 1 = s 25 1
theorem rr.tr {s s1 s2 : mx_St} (a : rr s s1) (b : rr s1 s2) : rr s s2 := ⟨a.1.tr b.1, b.2.trans a.2⟩
theorem pf_rr {s s1 : mx_St} (a : pf s s1) : rr s s1 := ⟨a.1.mono (fun i g => by omega), a.2⟩
theorem PT.fr' {s s' : mx_St} (p : PT s T pl k) (a : rr s s') : PT s' T pl k := ⟨fun j hj => by rw [a.1 27 (by omega), a.1 28 (by omega)]; exact p.1 j hj, p.2⟩
/-- in the fault the reading goes to its end -/
theorem p_rdF (hd : 2 ≤ d) (hl : 51 ≤ P.1) {s0 : mx_St} (kk : ∀ h' s', HR P h' s' → rr s0 s' → FS s' pl k f → Q none h') (n p : Nat) (hp : p + n = 3) (h : mx_H) (s : mx_St) (H : HR P h s) (fr : rr s0 s) (fs : FS s pl k f) : wq d 22 26 [some (.ref 25), some (.int (nI p))] [] h Q := by
  have hb := fs.1.2
  match n, hp with
  | 0, hp =>
    refine q_iload_n (pc := 26) rfl rfl ?_
    refine q_iconst (pc := 27) rfl (nI 3) (by decide) ?_
    first | refine n_icmpge (pc := 28) rfl (by omega) (by omega) (fun h28 => ?_) (fun h28 => ?_) | refine q_icmpge (pc := 28) rfl (fun h28 => ?_) (fun h28 => ?_)
    · refine q_aload_n (pc := 91) rfl rfl rfl ?_
      refine q_bipush (pc := 92) rfl (-22) (by decide) ?_
      refine q_callV (pc := 94) _ rfl rfl rfl (by first | exact HR.pr H hl ps | exact HR.pf H hl fs | exact HR.c H hl _ rfl) rfl (Nat.le_of_ble_eq_true rfl) (by omega) _ rfl ?_
      refine c_expectX H hl fs ?_
      refine q_vret (pc := 97) rfl rfl ?_
      exact kk _ _ H fr fs
    · first | (exfalso; omega) | exact absurd h28 (nI_pos (by omega)) | exact absurd (nI_pos' (by omega)) h28
  | n + 1, hp =>
    have fs2 : FS (stv s 30 p (s 25 7)) pl k f := ⟨fs.1, (congrFun (stv_n (by decide)) _).trans fs.2⟩
    have fr2 : rr s0 (stv s 30 p (s 25 7)) := ⟨fr.1.st (by omega), (congrFun (stv_n (by decide)) _).trans fr.2⟩
    refine q_iload_n (pc := 26) rfl rfl ?_
    refine q_iconst (pc := 27) rfl (nI 3) (by decide) ?_
    first | refine n_icmpge (pc := 28) rfl (by omega) (by omega) (fun h28 => ?_) (fun h28 => ?_) | refine q_icmpge (pc := 28) rfl (fun h28 => ?_) (fun h28 => ?_)
    · first | (exfalso; omega) | exact absurd h28 (nI_pos (by omega)) | exact absurd (nI_pos' (by omega)) h28
    · refine q_aload_n (pc := 31) rfl rfl rfl ?_
      refine q_iload_n (pc := 32) rfl rfl ?_
      first | refine n_ifne (pc := 33) rfl (by omega) (fun h33 => ?_) (fun h33 => ?_) | refine q_ifne (pc := 33) rfl (fun h33 => ?_) (fun h33 => ?_)
      · first
        | (exfalso; omega (config := {splitDisjunctions := false}))
        | exact absurd rfl h33
        | skip
          refine q_iload_n (pc := 41) rfl rfl ?_
          refine q_iconst (pc := 42) rfl (nI 1) (by decide) ?_
          first | refine n_icmpne (pc := 43) rfl (by omega) (by omega) (fun h43 => ?_) (fun h43 => ?_) | refine q_icmpne (pc := 43) rfl (fun h43 => ?_) (fun h43 => ?_)
          · first
            | (exfalso; omega (config := {splitDisjunctions := false}))
            | exact absurd rfl h43
            | skip
              refine q_bipush (pc := 51) rfl (-21) (by decide) ?_
              refine q_callV (pc := 53) _ rfl rfl rfl (by first | exact HR.pr H hl ps | exact HR.pf H hl fs | exact HR.c H hl _ rfl) rfl (Nat.le_of_ble_eq_true rfl) (by omega) _ rfl ?_
              refine c_expectX H hl fs ?_
              refine q_aload_n (pc := 56) rfl rfl rfl ?_
              refine q_getf (pc := 57) rfl (by first | exact HR.pr H hl ps | exact HR.pf H hl fs | exact HR.c H hl _ rfl) rfl rfl ?_
              refine q_iconst (pc := 60) rfl (-1) (by decide) ?_
              refine q_icmpne (pc := 61) rfl (fun h61 => ?_) (fun h61 => ?_)
              · first
                | (exfalso; omega (config := {splitDisjunctions := false}))
                | exact absurd rfl h61
                | skip
                  refine q_aload_n (pc := 69) rfl rfl rfl ?_
                  refine q_bipush (pc := 70) rfl (-18) (by decide) ?_
                  refine q_callV (pc := 72) _ rfl rfl rfl (by first | exact HR.pr H hl ps | exact HR.pf H hl fs | exact HR.c H hl _ rfl) rfl (Nat.le_of_ble_eq_true rfl) (by omega) _ rfl ?_
                  refine c_expectX H hl fs ?_
                  refine q_aload_n (pc := 75) rfl rfl rfl ?_
                  refine q_getf (pc := 76) rfl (by first | exact HR.pr H hl ps | exact HR.pf H hl fs | exact HR.c H hl _ rfl) rfl rfl ?_
                  refine q_iload_n (pc := 79) rfl rfl ?_
                  refine q_aload_n (pc := 80) rfl rfl rfl ?_
                  refine q_getf (pc := 81) rfl (by first | exact HR.pr H hl ps | exact HR.pf H hl fs | exact HR.c H hl _ rfl) rfl rfl ?_
                  refine r_ist2 (pc := 84) rfl H hl rfl (fun _ => rfl) rfl (by omega) (by omega) ?_
                  intro h H
                  first | refine n_iinc (pc := 85) rfl [_, _] 1 (by decide) rfl rfl ?_ | refine q_iinc (pc := 85) [_, _] (1) rfl rfl (by decide) rfl ?_
                  refine q_goto (pc := 88) rfl ?_
                  exact p_rdF hd hl kk n (p + 1) (by omega) h _ H fr2 fs2
              · exact absurd h61 (nI_m1 (by omega))
          · first
            | (exfalso; omega (config := {splitDisjunctions := false}))
            | exact absurd rfl h43
            | skip
              refine q_bipush (pc := 46) rfl (-20) (by decide) ?_
              refine q_goto (pc := 48) rfl ?_
              refine q_callV (pc := 53) _ rfl rfl rfl (by first | exact HR.pr H hl ps | exact HR.pf H hl fs | exact HR.c H hl _ rfl) rfl (Nat.le_of_ble_eq_true rfl) (by omega) _ rfl ?_
              refine c_expectX H hl fs ?_
              refine q_aload_n (pc := 56) rfl rfl rfl ?_
              refine q_getf (pc := 57) rfl (by first | exact HR.pr H hl ps | exact HR.pf H hl fs | exact HR.c H hl _ rfl) rfl rfl ?_
              refine q_iconst (pc := 60) rfl (-1) (by decide) ?_
              refine q_icmpne (pc := 61) rfl (fun h61 => ?_) (fun h61 => ?_)
              · first
                | (exfalso; omega (config := {splitDisjunctions := false}))
                | exact absurd rfl h61
                | skip
                  refine q_aload_n (pc := 69) rfl rfl rfl ?_
                  refine q_bipush (pc := 70) rfl (-18) (by decide) ?_
                  refine q_callV (pc := 72) _ rfl rfl rfl (by first | exact HR.pr H hl ps | exact HR.pf H hl fs | exact HR.c H hl _ rfl) rfl (Nat.le_of_ble_eq_true rfl) (by omega) _ rfl ?_
                  refine c_expectX H hl fs ?_
                  refine q_aload_n (pc := 75) rfl rfl rfl ?_
                  refine q_getf (pc := 76) rfl (by first | exact HR.pr H hl ps | exact HR.pf H hl fs | exact HR.c H hl _ rfl) rfl rfl ?_
                  refine q_iload_n (pc := 79) rfl rfl ?_
                  refine q_aload_n (pc := 80) rfl rfl rfl ?_
                  refine q_getf (pc := 81) rfl (by first | exact HR.pr H hl ps | exact HR.pf H hl fs | exact HR.c H hl _ rfl) rfl rfl ?_
                  refine r_ist2 (pc := 84) rfl H hl rfl (fun _ => rfl) rfl (by omega) (by omega) ?_
                  intro h H
                  first | refine n_iinc (pc := 85) rfl [_, _] 1 (by decide) rfl rfl ?_ | refine q_iinc (pc := 85) [_, _] (1) rfl rfl (by decide) rfl ?_
                  refine q_goto (pc := 88) rfl ?_
                  exact p_rdF hd hl kk n (p + 1) (by omega) h _ H fr2 fs2
              · exact absurd h61 (nI_m1 (by omega))
      · first
        | (exfalso; omega (config := {splitDisjunctions := false}))
        | exact absurd rfl h33
        | skip
          refine q_bipush (pc := 36) rfl (-19) (by decide) ?_
          refine q_goto (pc := 38) rfl ?_
          refine q_callV (pc := 53) _ rfl rfl rfl (by first | exact HR.pr H hl ps | exact HR.pf H hl fs | exact HR.c H hl _ rfl) rfl (Nat.le_of_ble_eq_true rfl) (by omega) _ rfl ?_
          refine c_expectX H hl fs ?_
          refine q_aload_n (pc := 56) rfl rfl rfl ?_
          refine q_getf (pc := 57) rfl (by first | exact HR.pr H hl ps | exact HR.pf H hl fs | exact HR.c H hl _ rfl) rfl rfl ?_
          refine q_iconst (pc := 60) rfl (-1) (by decide) ?_
          refine q_icmpne (pc := 61) rfl (fun h61 => ?_) (fun h61 => ?_)
          · first
            | (exfalso; omega (config := {splitDisjunctions := false}))
            | exact absurd rfl h61
            | skip
              refine q_aload_n (pc := 69) rfl rfl rfl ?_
              refine q_bipush (pc := 70) rfl (-18) (by decide) ?_
              refine q_callV (pc := 72) _ rfl rfl rfl (by first | exact HR.pr H hl ps | exact HR.pf H hl fs | exact HR.c H hl _ rfl) rfl (Nat.le_of_ble_eq_true rfl) (by omega) _ rfl ?_
              refine c_expectX H hl fs ?_
              refine q_aload_n (pc := 75) rfl rfl rfl ?_
              refine q_getf (pc := 76) rfl (by first | exact HR.pr H hl ps | exact HR.pf H hl fs | exact HR.c H hl _ rfl) rfl rfl ?_
              refine q_iload_n (pc := 79) rfl rfl ?_
              refine q_aload_n (pc := 80) rfl rfl rfl ?_
              refine q_getf (pc := 81) rfl (by first | exact HR.pr H hl ps | exact HR.pf H hl fs | exact HR.c H hl _ rfl) rfl rfl ?_
              refine r_ist2 (pc := 84) rfl H hl rfl (fun _ => rfl) rfl (by omega) (by omega) ?_
              intro h H
              first | refine n_iinc (pc := 85) rfl [_, _] 1 (by decide) rfl rfl ?_ | refine q_iinc (pc := 85) [_, _] (1) rfl rfl (by decide) rfl ?_
              refine q_goto (pc := 88) rfl ?_
              exact p_rdF hd hl kk n (p + 1) (by omega) h _ H fr2 fs2
          · exact absurd h61 (nI_m1 (by omega))
termination_by n
def RDR (T : Nat → Int32) (pl : Nat → Nat) (k : Nat) (r : Nat ⊕ (List Int32 × (Nat → Nat))) (s : mx_St) : Prop := (∃ f, r = .inl f ∧ FS s pl k f) ∨ ∃ out E i, r = .inr (out, E) ∧ PS s i 0 out ∧ (∀ p, p < 3 → s 30 p = nI (E p)) ∧ (E 0 ≤ E 1 ∧ E 1 ≤ E 2 ∧ E 2 = out.length ∧ out.length ≤ 160) ∧ wfs out 0 (E 0) ∧ wfs out (E 0) (E 1) ∧ wfs out (E 1) (E 2)
def PWF (p : Nat) (out : List Int32) (E : Nat → Nat) : Prop := (0 < p → E 0 ≤ out.length ∧ wfs out 0 (E 0)) ∧ (1 < p → E 0 ≤ E 1 ∧ E 1 ≤ out.length ∧ wfs out (E 0) (E 1)) ∧ (2 < p → E 1 ≤ E 2 ∧ E 2 ≤ out.length ∧ wfs out (E 1) (E 2)) ∧ (p = 0 → out.length = 0) ∧ (p = 1 → out.length = E 0) ∧ (p = 2 → out.length = E 1) ∧ (p = 3 → out.length = E 2)
theorem PWF.nx {p : Nat} {E : Nat → Nat} (hp : p < 3) (w : PWF p out E) (hw : wf1 seg) : PWF (p + 1) (out ++ seg) (up1 E p (out ++ seg).length) := by
  obtain ⟨w0, w1, w2, e0, e1, e2, e3⟩ := w
  have hl := List.length_append (as := out) (bs := seg)
  have hn : wfs (out ++ seg) out.length (out ++ seg).length := ⟨out, seg, [], by rw [List.append_nil], rfl, hl, hw⟩
  rcases (show p = 0 ∨ p = 1 ∨ p = 2 by omega) with rfl | rfl | rfl
  · rw [e0 rfl] at hn
    refine ⟨fun _ => ⟨Nat.le_of_eq up1_s, by rw [up1_s]; exact hn⟩, fun z => by omega, fun z => by omega, fun z => by omega, fun _ => up1_s.symm, fun z => by omega, fun z => by omega⟩
  · have u0 := w0 (by omega)
    rw [e1 rfl] at hn
    refine ⟨fun _ => ?_, fun _ => ?_, fun z => by omega, fun z => by omega, fun z => by omega, fun _ => up1_s.symm, fun z => by omega⟩
    · rw [up1_n (by decide)]
      exact ⟨by omega, wfs_app u0.2⟩
    · rw [up1_n (by decide), up1_s]
      exact ⟨by omega, Nat.le_refl _, hn⟩
  · have u0 := w0 (by omega)
    have u1 := w1 (by omega)
    rw [e2 rfl] at hn
    refine ⟨fun _ => ?_, fun _ => ?_, fun _ => ?_, fun z => by omega, fun z => by omega, fun z => by omega, fun _ => up1_s.symm⟩
    · rw [up1_n (by decide)]
      exact ⟨by omega, wfs_app u0.2⟩
    · rw [up1_n (by decide), up1_n (by decide)]
      exact ⟨u1.1, by omega, wfs_app u1.2.2⟩
    · rw [up1_n (by decide), up1_s]
      exact ⟨by omega, Nat.le_refl _, hn⟩
theorem nE_k {i : Nat} (pt : PT s T pl k) (hi : i ≤ k) (h : ¬ isE (T i)) : i < k := by
  rcases Nat.lt_or_ge i k with e | e
  · exact e
  · exfalso
    have e : i = k := by omega
    rw [e] at h
    exact h pt.2.2.2.1
theorem ky_n (p : Nat) : ¬ isE (ky p) := by
  unfold ky
  (repeat' split) <;> (intro h; rcases h with h | h <;> exact absurd h (by decide))
theorem p_rdG {p : Nat} (hd : 73 ≤ d) (hl : 51 ≤ P.1) (H : HR P h s) (fs : FS s pl k f) (kk : ∀ h' s', HR P h' s' → rr s s' → FS s' pl k f → Q none h') (n : Nat) (hp : p + n + 1 = 3) : wq d 22 56 [some (.ref 25), some (.int (nI p))] [] h Q := by
  have hb := fs.1.2
  have fs2 : FS (stv s 30 p (s 25 7)) pl k f := ⟨fs.1, (congrFun (stv_n (by decide)) _).trans fs.2⟩
  have fr2 : rr s (stv s 30 p (s 25 7)) := ⟨sf.rf.st (by omega), (congrFun (stv_n (by decide)) _)⟩
  refine q_aload_n (pc := 56) rfl rfl rfl ?_
  refine q_getf (pc := 57) rfl (by first | exact HR.pr H hl ps | exact HR.pf H hl fs | exact HR.c H hl _ rfl) rfl rfl ?_
  refine q_iconst (pc := 60) rfl (-1) (by decide) ?_
  refine q_icmpne (pc := 61) rfl (fun h61 => ?_) (fun h61 => ?_)
  · first
    | (exfalso; omega (config := {splitDisjunctions := false}))
    | exact absurd rfl h61
    | skip
      refine q_aload_n (pc := 69) rfl rfl rfl ?_
      refine q_bipush (pc := 70) rfl (-18) (by decide) ?_
      refine q_callV (pc := 72) _ rfl rfl rfl (by first | exact HR.pr H hl ps | exact HR.pf H hl fs | exact HR.c H hl _ rfl) rfl (Nat.le_of_ble_eq_true rfl) (by omega) _ rfl ?_
      refine c_expectX H hl fs ?_
      refine q_aload_n (pc := 75) rfl rfl rfl ?_
      refine q_getf (pc := 76) rfl (by first | exact HR.pr H hl ps | exact HR.pf H hl fs | exact HR.c H hl _ rfl) rfl rfl ?_
      refine q_iload_n (pc := 79) rfl rfl ?_
      refine q_aload_n (pc := 80) rfl rfl rfl ?_
      refine q_getf (pc := 81) rfl (by first | exact HR.pr H hl ps | exact HR.pf H hl fs | exact HR.c H hl _ rfl) rfl rfl ?_
      refine r_ist2 (pc := 84) rfl H hl rfl (fun _ => rfl) rfl (by omega) (by omega) ?_
      intro h H
      first | refine n_iinc (pc := 85) rfl [_, _] 1 (by decide) rfl rfl ?_ | refine q_iinc (pc := 85) [_, _] (1) rfl rfl (by decide) rfl ?_
      refine q_goto (pc := 88) rfl ?_
      exact p_rdF (by omega) hl kk n (p + 1) (by omega) h _ H fr2 fs2
  · exact absurd h61 (nI_m1 (by omega))
theorem p_rdH {p : Nat} (hd : 73 ≤ d) (hl : 51 ≤ P.1) (H : HR P h s) (fs : FS s pl k f) (kk : ∀ h' s', HR P h' s' → rr s s' → FS s' pl k f → Q none h') (n : Nat) (hp : p + n + 1 = 3) : wq d 22 69 [some (.ref 25), some (.int (nI p))] [] h Q := by
  have hb := fs.1.2
  have fs2 : FS (stv s 30 p (s 25 7)) pl k f := ⟨fs.1, (congrFun (stv_n (by decide)) _).trans fs.2⟩
  have fr2 : rr s (stv s 30 p (s 25 7)) := ⟨sf.rf.st (by omega), (congrFun (stv_n (by decide)) _)⟩
  refine q_aload_n (pc := 69) rfl rfl rfl ?_
  refine q_bipush (pc := 70) rfl (-18) (by decide) ?_
  refine q_callV (pc := 72) _ rfl rfl rfl (by first | exact HR.pr H hl ps | exact HR.pf H hl fs | exact HR.c H hl _ rfl) rfl (Nat.le_of_ble_eq_true rfl) (by omega) _ rfl ?_
  refine c_expectX H hl fs ?_
  refine q_aload_n (pc := 75) rfl rfl rfl ?_
  refine q_getf (pc := 76) rfl (by first | exact HR.pr H hl ps | exact HR.pf H hl fs | exact HR.c H hl _ rfl) rfl rfl ?_
  refine q_iload_n (pc := 79) rfl rfl ?_
  refine q_aload_n (pc := 80) rfl rfl rfl ?_
  refine q_getf (pc := 81) rfl (by first | exact HR.pr H hl ps | exact HR.pf H hl fs | exact HR.c H hl _ rfl) rfl rfl ?_
  refine r_ist2 (pc := 84) rfl H hl rfl (fun _ => rfl) rfl (by omega) (by omega) ?_
  intro h H
  first | refine n_iinc (pc := 85) rfl [_, _] 1 (by decide) rfl rfl ?_ | refine q_iinc (pc := 85) [_, _] (1) rfl rfl (by decide) rfl ?_
  refine q_goto (pc := 88) rfl ?_
  exact p_rdF (by omega) hl kk n (p + 1) (by omega) h _ H fr2 fs2
theorem p_rdI {p : Nat} (hd : 73 ≤ d) (hl : 51 ≤ P.1) (H : HR P h s) (fs : FS s pl k f) (kk : ∀ h' s', HR P h' s' → rr s s' → FS s' pl k f → Q none h') (n : Nat) (hp : p + n + 1 = 3) : wq d 22 75 [some (.ref 25), some (.int (nI p))] [] h Q := by
  have hb := fs.1.2
  have fs2 : FS (stv s 30 p (s 25 7)) pl k f := ⟨fs.1, (congrFun (stv_n (by decide)) _).trans fs.2⟩
  have fr2 : rr s (stv s 30 p (s 25 7)) := ⟨sf.rf.st (by omega), (congrFun (stv_n (by decide)) _)⟩
  refine q_aload_n (pc := 75) rfl rfl rfl ?_
  refine q_getf (pc := 76) rfl (by first | exact HR.pr H hl ps | exact HR.pf H hl fs | exact HR.c H hl _ rfl) rfl rfl ?_
  refine q_iload_n (pc := 79) rfl rfl ?_
  refine q_aload_n (pc := 80) rfl rfl rfl ?_
  refine q_getf (pc := 81) rfl (by first | exact HR.pr H hl ps | exact HR.pf H hl fs | exact HR.c H hl _ rfl) rfl rfl ?_
  refine r_ist2 (pc := 84) rfl H hl rfl (fun _ => rfl) rfl (by omega) (by omega) ?_
  intro h H
  first | refine n_iinc (pc := 85) rfl [_, _] 1 (by decide) rfl rfl ?_ | refine q_iinc (pc := 85) [_, _] (1) rfl rfl (by decide) rfl ?_
  refine q_goto (pc := 88) rfl ?_
  exact p_rdF (by omega) hl kk n (p + 1) (by omega) h _ H fr2 fs2
theorem p_rdS {n p n1 i1 : Nat} {E : Nat → Nat} {s0 : mx_St} (hd : 73 ≤ d) (hl : 51 ≤ P.1) (pt : PT s0 T pl k) (hn1 : 0 < n1) {r : Nat ⊕ (List Int32 × (Nat → Nat))} (ih : ∀ (i2 : Nat) (out2 : List Int32) (E2 : Nat → Nat), i2 ≤ k → out2.length ≤ i2 → rdT T n (p + 1) i2 out2 E2 = r → PWF (p + 1) out2 E2 → ∀ (h : mx_H) (s : mx_St), HR P h s → rr s0 s → PS s i2 0 out2 → (∀ q, q < p + 1 → s 30 q = nI (E2 q)) → wq d 22 26 [some (.ref 25), some (.int (nI (p + 1)))] [] h Q) (kk : ∀ h' s', HR P h' s' → rr s0 s' → RDR T pl k r s' → Q none h') (hp3 : p < 3) (hp : p + (n + 1) = 3) (hr : (match fN T n1 i1 0 out [] with | .inl f => .inl f | .inr (i', out') => if T i' = -18 then rdT T n (p + 1) (i' + 1) out' (up1 E p out'.length) else .inl i') = r) (hw : PWF (p + 1) out (up1 E p out.length)) (H : HR P h s) (fr : rr s0 s) (ps : PS s i1 0 out) (q2 : i1 ≤ k) (ho : out.length ≤ i1) (hb1 : ¬ bad0 (T i1)) (hX : out.length ≤ 160) (hE : ∀ q, q < p → s 30 q = nI (E q)) : wq d 22 69 [some (.ref 25), some (.int (nI p))] [] h Q := by
  have pt1 := pt.fr' fr
  obtain ⟨n1, rfl⟩ : ∃ m, n1 = m + 1 := ⟨n1 - 1, by omega⟩
  have f18 : T i1 = -18 → fN T (n1 + 1) i1 0 out [] = .inr (i1, out) := fun e => by
    unfold fN
    rw [if_neg (by rw [e]; decide), mA, if_neg (by rw [e]; decide), if_neg (by rw [e]; decide)]
    rfl
  have fno : T i1 ≠ -18 → (match fN T (n1 + 1) i1 0 out [] with | .inl f => .inl f | .inr (i', out') => if T i' = -18 then rdT T n (p + 1) (i' + 1) out' (up1 E p out'.length) else .inl i') = (.inl i1 : Nat ⊕ (List Int32 × (Nat → Nat))) := fun e => by
    unfold fN
    split
    · rename_i f e2
      by_cases hle : T i1 = -10 ∨ T i1 = -11
      · rw [if_pos hle] at e2
        cases e2
        rfl
      · rw [if_neg hle, mA] at e2
        by_cases h17 : T i1 = -17
        · rw [if_pos h17] at e2
          cases e2
          rfl
        · rw [if_neg h17, if_neg (fun z => z (bin_0 hb1 hle))] at e2
          cases e2
    · rename_i i' out' e2
      by_cases hle : T i1 = -10 ∨ T i1 = -11
      · rw [if_pos hle] at e2
        cases e2
      · rw [if_neg hle, mA] at e2
        by_cases h17 : T i1 = -17
        · rw [if_pos h17] at e2
          cases e2
        · rw [if_neg h17, if_neg (fun z => z (bin_0 hb1 hle))] at e2
          cases e2
          rw [if_neg e]
  refine q_aload_n (pc := 69) rfl rfl rfl ?_
  refine q_bipush (pc := 70) rfl (-18) (by decide) ?_
  refine q_callV (pc := 72) _ rfl rfl rfl (by first | exact HR.pr H hl ps2 | exact HR.c H hl _ rfl) rfl (Nat.le_of_ble_eq_true rfl) (by omega) _ rfl ?_
  refine c_expect (by omega) H hl pt1 ps q2 (fun h17 h H => ?_) (fun h17 h H => ?_)
  · have ps2 := ps.nx (j := i1 + 1)
    refine q_aload_n (pc := 75) rfl rfl rfl ?_
    refine q_getf (pc := 76) rfl (by first | exact HR.pr H hl ps2 | exact HR.c H hl _ rfl) rfl rfl ?_
    refine q_iload_n (pc := 79) rfl rfl ?_
    refine q_aload_n (pc := 80) rfl rfl rfl ?_
    refine q_getf (pc := 81) rfl (by first | exact HR.pr H hl ps2 | exact HR.c H hl _ rfl) rfl rfl ?_
    refine r_ist2 (pc := 84) rfl H hl rfl (fun _ => rfl) rfl (by omega) (by omega) ?_
    intro h H
    first | refine n_iinc (pc := 85) rfl [_, _] 1 (by decide) rfl rfl ?_ | refine q_iinc (pc := 85) [_, _] (1) rfl rfl (by decide) rfl ?_
    refine q_goto (pc := 88) rfl ?_
    rw [f18 h17] at hr
    have hik : i1 < k := nE_k pt q2 (by rw [h17]; intro z; rcases z with z | z <;> exact absurd z (by decide))
    dsimp only at hr
    rw [if_pos h17] at hr
    refine ih (i1 + 1) out _ (by omega) (by omega) hr hw h _ H ((fr.tr (pf_rr (pf.wr (by decide)))).tr ⟨sf.rf.st (by omega), congrFun (stv_n (by decide)) _⟩) ⟨(congrFun (stv_n (by decide)) _).trans ps2.1, (congrFun (stv_n (by decide)) _).trans ps2.2.1, (congrFun (stv_n (by decide)) _).trans ps2.2.2.1, (congrFun (stv_n (by decide)) _).trans ps2.2.2.2.1, fun j hj => (congrFun (stv_n (by decide)) _).trans (ps2.2.2.2.2 j hj)⟩ (fun q hq => ?_)
    by_cases e : q = p
    · subst e
      rw [stv_a, up1_s]
    · rw [stv_o e, up1_n e, stv_n (by decide)]
      exact hE q (by omega)
  · exact p_rdI hd hl H ⟨⟨q2, pt.2.2.1 i1 q2⟩, stv_a⟩ (fun h' s' H f2 fs => kk _ _ H ((fr.tr (pf_rr (pf.wr (by decide)))).tr f2) (Or.inl ⟨i1, by rw [← hr]; exact fno h17, fs⟩)) n (by omega)
theorem p_rdK {n p i : Nat} {E : Nat → Nat} {s0 : mx_St} (hd : 73 ≤ d) (hl : 51 ≤ P.1) (pt : PT s0 T pl k) (k6 : k ≤ 160) {r : Nat ⊕ (List Int32 × (Nat → Nat))} (kk : ∀ h' s', HR P h' s' → rr s0 s' → RDR T pl k r s' → Q none h') (ih : ∀ (i2 : Nat) (out2 : List Int32) (E2 : Nat → Nat), i2 ≤ k → out2.length ≤ i2 → rdT T n (p + 1) i2 out2 E2 = r → PWF (p + 1) out2 E2 → ∀ (h : mx_H) (s : mx_St), HR P h s → rr s0 s → PS s i2 0 out2 → (∀ q, q < p + 1 → s 30 q = nI (E2 q)) → wq d 22 26 [some (.ref 25), some (.int (nI (p + 1)))] [] h Q) (hp3 : p < 3) (hp : p + (n + 1) = 3) (hik : i < k) (ho : out.length ≤ i) (hr : (match mA T (200 - (i + 1)) false (i + 1) 0 out [] with | .inl f => .inl f | .inr (i', out') => if T i' = -18 then rdT T n (p + 1) (i' + 1) out' (up1 E p out'.length) else .inl i') = r) (hw : PWF p out E) (H : HR P h s) (fr : rr s0 s) (ps : PS s (i + 1) 0 out) (hE : ∀ q, q < p → s 30 q = nI (E q)) : wq d 22 56 [some (.ref 25), some (.int (nI p))] [] h Q := by
  have hC := (p_all (T := T) (pl := pl) (k := k) (M := 200) (by omega) (200 - (i + 1)) (i + 1) 0 (d - 1) (by omega) (by omega)).2.2.2.2.2 (by omega)
  refine q_aload_n (pc := 56) rfl rfl rfl ?_
  refine q_getf (pc := 57) rfl (by first | exact HR.pr H hl ps | exact HR.pf H hl fs | exact HR.c H hl _ rfl) rfl rfl ?_
  refine q_iconst (pc := 60) rfl (-1) (by decide) ?_
  refine q_icmpne (pc := 61) rfl (fun h61 => ?_) (fun h61 => ?_)
  · exact absurd rfl h61
  · first
    | (exfalso; omega (config := {splitDisjunctions := false}))
    | exact absurd rfl h61
    | skip
      refine q_aload_n (pc := 64) rfl rfl rfl ?_
      refine q_iconst (pc := 65) rfl (nI 0) (by decide) ?_
      refine q_callV (pc := 66) _ rfl rfl rfl (by first | exact HR.pr H hl ps | exact HR.pf H hl fs | exact HR.c H hl _ rfl) rfl (Nat.le_of_ble_eq_true rfl) (by omega) _ rfl ?_
      refine hC P h s out _ H hl (pt.fr' fr) ps (by omega) (by omega) ?_
      intro h s1 H f1 r1
      rcases r1 with ⟨f, fs, r1⟩ | ⟨n1, i1, seg1, ps, q1, q2, q3, q4, hw1, hb1, r1⟩
      · rw [r1 [] rfl] at hr
        exact p_rdH hd hl H fs (fun h' s' H f2 fs => kk _ _ H ((fr.tr (pf_rr f1)).tr f2) (Or.inl ⟨f, hr.symm, fs⟩)) n (by omega)
      · rw [r1 [] rfl] at hr
        exact p_rdS hd hl pt (by omega) ih kk hp3 hp hr (PWF.nx hp3 hw hw1) H (fr.tr (pf_rr f1)) ps q2 (by rw [List.length_append]; omega) hb1 (by rw [List.length_append]; omega) (fun q hq => by rw [f1.1 30 (by decide)]; exact hE q hq)
theorem p_rdL (hd : 73 ≤ d) (hl : 51 ≤ P.1) {s0 : mx_St} (pt : PT s0 T pl k) {r : Nat ⊕ (List Int32 × (Nat → Nat))} (kk : ∀ h' s', HR P h' s' → rr s0 s' → RDR T pl k r s' → Q none h') (n p : Nat) (hp : p + n = 3) (i : Nat) (hi : i ≤ k) (out : List Int32) (ho : out.length ≤ i) (E : Nat → Nat) (hr : rdT T n p i out E = r) (hw : PWF p out E) (h : mx_H) (s : mx_St) (H : HR P h s) (fr : rr s0 s) (ps : PS s i 0 out) (hE : ∀ q, q < p → s 30 q = nI (E q)) : wq d 22 26 [some (.ref 25), some (.int (nI p))] [] h Q := by
  have k6 := pt.2.1
  have pt1 := pt.fr' fr
  match n, hp, hr with
  | 0, hp, hr =>
    obtain rfl : p = 3 := by omega
    obtain ⟨w0, w1, w2, _, _, _, e3⟩ := hw
    have u0 := w0 (by omega)
    have u1 := w1 (by omega)
    have u2 := w2 (by omega)
    have e3 := e3 rfl
    unfold rdT at hr
    refine q_iload_n (pc := 26) rfl rfl ?_
    refine q_iconst (pc := 27) rfl (nI 3) (by decide) ?_
    first | refine n_icmpge (pc := 28) rfl (by omega) (by omega) (fun h28 => ?_) (fun h28 => ?_) | refine q_icmpge (pc := 28) rfl (fun h28 => ?_) (fun h28 => ?_)
    · refine q_aload_n (pc := 91) rfl rfl rfl ?_
      refine q_bipush (pc := 92) rfl (-22) (by decide) ?_
      refine q_callV (pc := 94) _ rfl rfl rfl (by first | exact HR.pr H hl ps | exact HR.pf H hl fs | exact HR.c H hl _ rfl) rfl (Nat.le_of_ble_eq_true rfl) (by omega) _ rfl ?_
      refine c_expect (by omega) H hl pt1 ps hi (fun h17 h H => ?_) (fun h17 h H => ?_)
      · refine q_vret (pc := 97) rfl rfl ?_
        first
        | (rw [if_pos h17] at hr
           exact kk _ _ H (fr.tr (pf_rr (pf.wr (by decide)))) (Or.inr ⟨out, E, i + 1, hr.symm, ps.nx, fun q hq => (congrFun (stv_n (by decide)) _).trans (hE q hq), ⟨u1.1, u2.1, e3.symm, by omega⟩, u0.2, u1.2.2, u2.2.2⟩))
        | (rw [if_neg h17] at hr
           exact kk _ _ H (fr.tr (pf_rr (pf.wr (by decide)))) (Or.inl ⟨i, hr.symm, ⟨hi, pt.2.2.1 i hi⟩, stv_a⟩))
      · refine q_vret (pc := 97) rfl rfl ?_
        first
        | (rw [if_pos h17] at hr
           exact kk _ _ H (fr.tr (pf_rr (pf.wr (by decide)))) (Or.inr ⟨out, E, i + 1, hr.symm, ps.nx, fun q hq => (congrFun (stv_n (by decide)) _).trans (hE q hq), ⟨u1.1, u2.1, e3.symm, by omega⟩, u0.2, u1.2.2, u2.2.2⟩))
        | (rw [if_neg h17] at hr
           exact kk _ _ H (fr.tr (pf_rr (pf.wr (by decide)))) (Or.inl ⟨i, hr.symm, ⟨hi, pt.2.2.1 i hi⟩, stv_a⟩))
    · first | (exfalso; omega) | exact absurd h28 (nI_pos (by omega)) | exact absurd (nI_pos' (by omega)) h28
  | n + 1, hp, hr =>
    have key : ∀ x, x = ky p → wq d 22 53 [some (.ref 25), some (.int (nI p))] [.int x, .ref 25] h Q := by
      intro x ex
      subst ex
      unfold rdT at hr
      refine q_callV (pc := 53) _ rfl rfl rfl (by first | exact HR.pr H hl ps | exact HR.pf H hl fs | exact HR.c H hl _ rfl) rfl (Nat.le_of_ble_eq_true rfl) (by omega) _ rfl ?_
      refine c_expect (by omega) H hl pt1 ps hi (fun h17 h H => ?_) (fun h17 h H => ?_)
      · first
        | (rw [if_pos h17] at hr
           have hik : i < k := nE_k pt hi (by rw [h17]; exact ky_n p)
           exact p_rdK hd hl pt k6 kk (fun i2 out2 E2 e1 e2 e3 e4 h2 s2 H2 fr2 ps2 e5 => p_rdL hd hl pt kk n (p + 1) (by omega) i2 e1 out2 e2 E2 e3 e4 h2 s2 H2 fr2 ps2 e5) (by omega) hp hik ho hr hw H (fr.tr (pf_rr (pf.wr (by decide)))) ps.nx (fun q hq => (congrFun (stv_n (by decide)) _).trans (hE q hq)))
        | (rw [if_neg h17] at hr
           refine p_rdG hd hl H ⟨⟨hi, pt.2.2.1 i hi⟩, stv_a⟩ (fun h' s' H f1 fs => ?_) n (by omega)
           exact kk _ _ H ((fr.tr (pf_rr (pf.wr (by decide)))).tr f1) (Or.inl ⟨i, hr.symm, fs⟩))
      · first
        | (rw [if_pos h17] at hr
           have hik : i < k := nE_k pt hi (by rw [h17]; exact ky_n p)
           exact p_rdK hd hl pt k6 kk (fun i2 out2 E2 e1 e2 e3 e4 h2 s2 H2 fr2 ps2 e5 => p_rdL hd hl pt kk n (p + 1) (by omega) i2 e1 out2 e2 E2 e3 e4 h2 s2 H2 fr2 ps2 e5) (by omega) hp hik ho hr hw H (fr.tr (pf_rr (pf.wr (by decide)))) ps.nx (fun q hq => (congrFun (stv_n (by decide)) _).trans (hE q hq)))
        | (rw [if_neg h17] at hr
           refine p_rdG hd hl H ⟨⟨hi, pt.2.2.1 i hi⟩, stv_a⟩ (fun h' s' H f1 fs => ?_) n (by omega)
           exact kk _ _ H ((fr.tr (pf_rr (pf.wr (by decide)))).tr f1) (Or.inl ⟨i, hr.symm, fs⟩))
    refine q_iload_n (pc := 26) rfl rfl ?_
    refine q_iconst (pc := 27) rfl (nI 3) (by decide) ?_
    first | refine n_icmpge (pc := 28) rfl (by omega) (by omega) (fun h28 => ?_) (fun h28 => ?_) | refine q_icmpge (pc := 28) rfl (fun h28 => ?_) (fun h28 => ?_)
    · first | (exfalso; omega) | exact absurd h28 (nI_pos (by omega)) | exact absurd (nI_pos' (by omega)) h28
    · refine q_aload_n (pc := 31) rfl rfl rfl ?_
      refine q_iload_n (pc := 32) rfl rfl ?_
      first | refine n_ifne (pc := 33) rfl (by omega) (fun h33 => ?_) (fun h33 => ?_) | refine q_ifne (pc := 33) rfl (fun h33 => ?_) (fun h33 => ?_)
      · first
        | (exfalso; omega (config := {splitDisjunctions := false}))
        | exact absurd rfl h33
        | skip
          refine q_iload_n (pc := 41) rfl rfl ?_
          refine q_iconst (pc := 42) rfl (nI 1) (by decide) ?_
          first | refine n_icmpne (pc := 43) rfl (by omega) (by omega) (fun h43 => ?_) (fun h43 => ?_) | refine q_icmpne (pc := 43) rfl (fun h43 => ?_) (fun h43 => ?_)
          · first
            | (exfalso; omega (config := {splitDisjunctions := false}))
            | exact absurd rfl h43
            | skip
              refine q_bipush (pc := 51) rfl (-21) (by decide) ?_
              first
              | exact key _ (by unfold ky; rw [if_pos (by omega)])
              | exact key _ (by unfold ky; rw [if_neg (by omega), if_pos (by omega)])
              | exact key _ (by unfold ky; rw [if_neg (by omega), if_neg (by omega)])
          · first
            | (exfalso; omega (config := {splitDisjunctions := false}))
            | exact absurd rfl h43
            | skip
              refine q_bipush (pc := 46) rfl (-20) (by decide) ?_
              refine q_goto (pc := 48) rfl ?_
              first
              | exact key _ (by unfold ky; rw [if_pos (by omega)])
              | exact key _ (by unfold ky; rw [if_neg (by omega), if_pos (by omega)])
              | exact key _ (by unfold ky; rw [if_neg (by omega), if_neg (by omega)])
      · first
        | (exfalso; omega (config := {splitDisjunctions := false}))
        | exact absurd rfl h33
        | skip
          refine q_bipush (pc := 36) rfl (-19) (by decide) ?_
          refine q_goto (pc := 38) rfl ?_
          first
          | exact key _ (by unfold ky; rw [if_pos (by omega)])
          | exact key _ (by unfold ky; rw [if_neg (by omega), if_pos (by omega)])
          | exact key _ (by unfold ky; rw [if_neg (by omega), if_neg (by omega)])
termination_by n
theorem c_readTape (hd : 74 ≤ d) (H : HR P h s) (hl : 51 ≤ P.1) (hR : RT s tp tz) (kk : ∀ h' s' k, HR P h' s' → sf s s' (fun i => i = 25 ∨ (27 ≤ i ∧ i < 31)) → s' 25 1 = s 25 1 → k ≤ 160 → RDR (tkT tp tz) (tpl tp tz) k (rdTxt (tkT tp tz)) s' → Q none h') : wc d 22 [.ref 25] h Q := by
  refine wc.go [_, _] rfl ?_
  refine q_aload_n (pc := 0) rfl rfl rfl ?_
  refine q_callV (pc := 1) _ rfl rfl rfl (by exact HR.c H hl _ rfl) rfl (Nat.le_of_ble_eq_true rfl) (by omega) _ rfl ?_
  refine c_split (by omega) hl H hR ?_
  intro h s1 k H k1 t1
  refine q_aload_n (pc := 4) rfl rfl rfl ?_
  refine q_iconst (pc := 5) rfl (nI 0) (by decide) ?_
  refine r_pf2 (pc := 6) (i := 4) rfl H hl rfl rfl rfl rfl (Nat.le_of_ble_eq_true rfl) rfl rfl ?_
  intro h H
  refine q_aload_n (pc := 9) rfl rfl rfl ?_
  refine q_iconst (pc := 10) rfl (nI 0) (by decide) ?_
  refine r_pf2 (pc := 11) (i := 5) rfl H hl rfl rfl rfl rfl (Nat.le_of_ble_eq_true rfl) rfl rfl ?_
  intro h H
  refine q_aload_n (pc := 14) rfl rfl rfl ?_
  refine q_iconst (pc := 15) rfl (nI 0) (by decide) ?_
  refine r_pf2 (pc := 16) (i := 7) rfl H hl rfl rfl rfl rfl (Nat.le_of_ble_eq_true rfl) rfl rfl ?_
  intro h H
  refine q_aload_n (pc := 19) rfl rfl rfl ?_
  refine q_iconst (pc := 20) rfl (-1) (by decide) ?_
  refine r_pf2 (pc := 21) (i := 9) rfl H hl rfl rfl rfl rfl (Nat.le_of_ble_eq_true rfl) rfl rfl ?_
  intro h H
  refine q_iconst (pc := 24) rfl (nI 0) (by decide) ?_
  refine q_istore_n (pc := 25) [_, _] rfl (Nat.le_of_ble_eq_true rfl) rfl ?_
  have fA : pf s1 (stv (stv (stv (stv s1 25 4 (nI 0)) 25 5 (nI 0)) 25 7 (nI 0)) 25 9 (-1)) := ((pf.wr (by decide)).tr (pf.wr (by decide))).tr ((pf.wr (by decide)).tr (pf.wr (by decide)))
  have pt : PT s1 (tkT tp tz) (tpl tp tz) k := ⟨t1.1, t1.2.1, fun j hj => by have := stP_b tp tz j hR.2.2.1; have := t1.2.1; omega, t1.2.2⟩
  refine p_rdL (s0 := s1) (by omega) hl pt (fun h' s' H f2 r => ?_) 3 0 (by omega) 0 (Nat.zero_le _) [] (Nat.le_refl _) (fun _ => 0) rfl ⟨fun z => by omega, fun z => by omega, fun z => by omega, fun _ => rfl, fun z => by omega, fun z => by omega, fun z => by omega⟩ h _ H (pf_rr fA) ⟨by rw [stv_o (by decide), stv_o (by decide), stv_o (by decide), stv_a], by rw [stv_o (by decide), stv_o (by decide), stv_a], by rw [stv_o (by decide), stv_a]; rfl, stv_a, fun j hj => absurd hj (by show ¬ j < 0; omega)⟩ (fun q hq => by omega)
  exact kk _ _ k H ((k1.mono (fun i g => by omega)).tr (f2.1.mono (fun i g => by omega))) (f2.2.trans (congrFun (k1 25 (by decide)) 1)) pt.2.1 r
end P44
