/-! ===== the law: its thirty cases, its loop ===== -/
section P74
variable {d k pc a b n m len j i Ls M : Nat} {v : Int} {L : mx_L} {st r : List Value} {h h' h0 : mx_H} {Q : Option Value → mx_H → Prop} {x y : Int32} {s : mx_St} {P : mx_Pm} {xs : Nat → Int32}
/-- what holds between two calls -/
def INV (Ls : Nat) (xs : Nat → Int32) (M : Nat) (h : mx_H) : Prop := ∃ (P : mx_Pm) (s : mx_St) (β κ : Nat → Nat) (ik : Nat) (tp : Nat → Nat) (tz : Nat) (C : Nat → Nat → Int32) (E : Nat → Nat → Nat) (σ : Nat → Int32) (sz : Nat → Nat) (cl : Nat → Nat → Int32), (P.1 = 75 ∧ 1 ≤ P.2.1 ∧ P.2.2.1 = tid P.2.1 ∧ P.2.2.2.1 ≤ M + 165 * P.2.1 ∧ P.2.2.2.2.2 = (Ls, xs)) ∧ HR P h s ∧ CA P s β κ ik tp tz C E σ sz cl ∧ AOK P.2.1 β κ ik tp tz σ sz ∧ NW s β ∧ MK s P.2.1 κ ik tp tz C E σ sz cl
theorem HR.big (H : HR P h s) (hp : P.2.2.2.2.2 = (Ls, xs)) : ia h mx_big Ls xs := by
  have e := H.2.2.2.2.2.2
  rw [hp] at e
  exact ⟨xs, e, fun _ _ => rfl⟩
theorem MK.cg {s s' : mx_St} {n : Nat} {κ : Nat → Nat} {ik : Nat} {tp : Nat → Nat} {tz : Nat} {C : Nat → Nat → Int32} {E : Nat → Nat → Nat} {σ : Nat → Int32} {sz : Nat → Nat} {cl : Nat → Nat → Int32} (Mk : MK s n κ ik tp tz C E σ sz cl) (f : sf s s' cS) : MK s' n κ ik tp tz C E σ sz cl := by
  have e : ∀ i, 54 ≤ i → i < 75 → s' i = s i := fun i h1 h2 => f i (by unfold cS; omega)
  obtain ⟨h1, h2, h3, h4, ⟨t1, t2, t3⟩, h6, h7, h8⟩ := Mk
  have e54 : s' 54 = s 54 := e 54 (by omega) (by omega)
  refine ⟨fun i hi => (congrFun (e 56 (by omega) (by omega)) _).trans (h1 i hi), (congrFun e54 _).trans h2, fun i hi => (congrFun (e 58 (by omega) (by omega)) _).trans (h3 i hi), (congrFun e54 _).trans h4, ⟨(congrFun e54 _).trans t1, t2, fun t ht => ?_⟩, fun q hq => ?_, fun k hk i hi => (congrFun (e 61 (by omega) (by omega)) _).trans (h7 k hk i hi), fun i hi => (congrFun (e 74 (by omega) (by omega)) _).trans (h8 i hi)⟩
  · obtain ⟨g1, g2, g3⟩ := t3 t ht
    exact ⟨fun i hi => (congrFun (e 59 (by omega) (by omega)) _).trans (g1 i hi), fun p hp => (congrFun (e 60 (by omega) (by omega)) _).trans (g2 p hp), g3⟩
  · obtain ⟨g1, g2, g3⟩ := h6 q hq
    exact ⟨(congrFun (e 70 (by omega) (by omega)) _).trans g1, (congrFun (e 71 (by omega) (by omega)) _).trans g2, fun i hi => (congrFun (e 72 (by omega) (by omega)) _).trans (g3 i hi)⟩
theorem NW.ofc {s s' : mx_St} {β : Nat → Nat} (N : NW s β) (f : sf s s' cS) : NW s' β := N.fr f (by unfold cS; omega)
theorem mf_h {s s' : mx_St} (f : mf s s') : sf s s' hS := f.1.mono (fun i g => by unfold mS at g; unfold hS; omega)
theorem CA.ofh {P : mx_Pm} {s s' : mx_St} {β κ : Nat → Nat} {ik : Nat} {tp : Nat → Nat} {tz : Nat} {C : Nat → Nat → Int32} {E : Nat → Nat → Nat} {σ : Nat → Int32} {sz : Nat → Nat} {cl : Nat → Nat → Int32} (A : CA P s β κ ik tp tz C E σ sz cl) (f : sf s s' hS) : CA P s' β κ ik tp tz C E σ sz cl := A.fr f (fun i g => by unfold hS at g; omega)
theorem L_set (hd : 150 ≤ d) (V : INV Ls xs M h) (hi : i + 6 ≤ Ls) (hL : Ls ≤ 3072) (kk : ∀ h', INV Ls xs M h' → wq d 214 1171 [some (.ref mx_big), some (.ref 0), some (.ref 54), some (.int (nI i))] [] h' Q) : wq d 214 168 [some (.ref mx_big), some (.ref 0), some (.ref 54), some (.int (nI i))] [] h Q := by
  obtain ⟨P, s, β, κ, ik, tp, tz, C, E, σ, sz, cl, ⟨p1, p2, p3, p4, px⟩, H, A, K, N, Mk⟩ := V
  have hl : 51 ≤ P.1 := by omega
  have hm : 75 ≤ P.1 := by omega
  refine q_aload_n (pc := 168) rfl rfl rfl ?_
  refine q_aload_n (pc := 169) rfl rfl rfl ?_
  refine q_iload_n (pc := 170) rfl rfl ?_
  refine q_iconst (pc := 171) rfl (nI 1) (by decide) ?_
  refine n_iadd (pc := 172) rfl ?_
  refine n_ild (pc := 173) rfl (HR.big H px) rfl (by omega) (by omega) ?_
  refine q_aload_n (pc := 174) rfl rfl rfl ?_
  refine q_iload_n (pc := 175) rfl rfl ?_
  refine q_iconst (pc := 176) rfl (nI 2) (by decide) ?_
  refine n_iadd (pc := 177) rfl ?_
  refine n_ild (pc := 178) rfl (HR.big H px) rfl (by omega) (by omega) ?_
  refine q_aload_n (pc := 179) rfl rfl rfl ?_
  refine q_iload_n (pc := 180) rfl rfl ?_
  refine q_iconst (pc := 181) rfl (nI 3) (by decide) ?_
  refine n_iadd (pc := 182) rfl ?_
  refine n_ild (pc := 183) rfl (HR.big H px) rfl (by omega) (by omega) ?_
  refine q_callV (pc := 184) _ rfl rfl rfl (HR.X' H hl) rfl (Nat.le_of_ble_eq_true rfl) (by omega) _ rfl ?_
  refine c_set (by omega) H hl A K ?_
  intro h1 s1 β1 eβ H1 A1 K1 f1
  have N1 := N.ofc f1
  have Mk1 := Mk.cg f1
  refine q_aload_n (pc := 187) rfl rfl rfl ?_
  refine q_aload_n (pc := 188) rfl rfl rfl ?_
  refine q_iload_n (pc := 189) rfl rfl ?_
  refine q_iconst (pc := 190) rfl (nI 1) (by decide) ?_
  refine n_iadd (pc := 191) rfl ?_
  refine n_ild (pc := 192) rfl (HR.big H1 px) rfl (by omega) (by omega) ?_
  refine q_aload_n (pc := 193) rfl rfl rfl ?_
  refine q_iload_n (pc := 194) rfl rfl ?_
  refine q_iconst (pc := 195) rfl (nI 2) (by decide) ?_
  refine n_iadd (pc := 196) rfl ?_
  refine n_ild (pc := 197) rfl (HR.big H1 px) rfl (by omega) (by omega) ?_
  refine q_aload_n (pc := 198) rfl rfl rfl ?_
  refine q_iload_n (pc := 199) rfl rfl ?_
  refine q_iconst (pc := 200) rfl (nI 3) (by decide) ?_
  refine n_iadd (pc := 201) rfl ?_
  refine n_ild (pc := 202) rfl (HR.big H1 px) rfl (by omega) (by omega) ?_
  refine q_callV (pc := 203) _ rfl rfl rfl (HR.c H1 hm 54 rfl) rfl (Nat.le_of_ble_eq_true rfl) (by omega) _ rfl ?_
  refine m_set (by omega) H1 hm N1 K ?_
  intro h2 s2 H2 N2 f2
  subst eβ
  refine q_icmpeq (pc := 206) rfl (fun _ => ?_) (fun z => absurd rfl z)
  exact kk _ ⟨P, s2, _, κ, ik, tp, tz, C, E, σ, sz, cl, ⟨p1, p2, p3, p4, px⟩, H2, A1.ofh (mf_h f2), K1, N2, Mk1.fr f2⟩
theorem L_staff (hd : 150 ≤ d) (V : INV Ls xs M h) (hi : i + 6 ≤ Ls) (hL : Ls ≤ 3072) (kk : ∀ h', INV Ls xs M h' → wq d 214 1171 [some (.ref mx_big), some (.ref 0), some (.ref 54), some (.int (nI i))] [] h' Q) : wq d 214 211 [some (.ref mx_big), some (.ref 0), some (.ref 54), some (.int (nI i))] [] h Q := by
  obtain ⟨P, s, β, κ, ik, tp, tz, C, E, σ, sz, cl, ⟨p1, p2, p3, p4, px⟩, H, A, K, N, Mk⟩ := V
  have hl : 51 ≤ P.1 := by omega
  have hm : 75 ≤ P.1 := by omega
  refine q_aload_n (pc := 211) rfl rfl rfl ?_
  refine q_aload_n (pc := 212) rfl rfl rfl ?_
  refine q_iload_n (pc := 213) rfl rfl ?_
  refine q_iconst (pc := 214) rfl (nI 1) (by decide) ?_
  refine n_iadd (pc := 215) rfl ?_
  refine n_ild (pc := 216) rfl (HR.big H px) rfl (by omega) (by omega) ?_
  refine q_aload_n (pc := 217) rfl rfl rfl ?_
  refine q_iload_n (pc := 218) rfl rfl ?_
  refine q_iconst (pc := 219) rfl (nI 2) (by decide) ?_
  refine n_iadd (pc := 220) rfl ?_
  refine n_ild (pc := 221) rfl (HR.big H px) rfl (by omega) (by omega) ?_
  refine q_aload_n (pc := 222) rfl rfl rfl ?_
  refine q_iload_n (pc := 223) rfl rfl ?_
  refine q_iconst (pc := 224) rfl (nI 3) (by decide) ?_
  refine n_iadd (pc := 225) rfl ?_
  refine n_ild (pc := 226) rfl (HR.big H px) rfl (by omega) (by omega) ?_
  refine q_callV (pc := 227) _ rfl rfl rfl (HR.X' H hl) rfl (Nat.le_of_ble_eq_true rfl) (by omega) _ rfl ?_
  refine c_staff (by omega) H hl A K ?_
  intro h1 s1 β1 eβ H1 A1 K1 f1
  have N1 := N.ofc f1
  have Mk1 := Mk.cg f1
  refine q_aload_n (pc := 230) rfl rfl rfl ?_
  refine q_aload_n (pc := 231) rfl rfl rfl ?_
  refine q_iload_n (pc := 232) rfl rfl ?_
  refine q_iconst (pc := 233) rfl (nI 1) (by decide) ?_
  refine n_iadd (pc := 234) rfl ?_
  refine n_ild (pc := 235) rfl (HR.big H1 px) rfl (by omega) (by omega) ?_
  refine q_aload_n (pc := 236) rfl rfl rfl ?_
  refine q_iload_n (pc := 237) rfl rfl ?_
  refine q_iconst (pc := 238) rfl (nI 2) (by decide) ?_
  refine n_iadd (pc := 239) rfl ?_
  refine n_ild (pc := 240) rfl (HR.big H1 px) rfl (by omega) (by omega) ?_
  refine q_aload_n (pc := 241) rfl rfl rfl ?_
  refine q_iload_n (pc := 242) rfl rfl ?_
  refine q_iconst (pc := 243) rfl (nI 3) (by decide) ?_
  refine n_iadd (pc := 244) rfl ?_
  refine n_ild (pc := 245) rfl (HR.big H1 px) rfl (by omega) (by omega) ?_
  refine q_callV (pc := 246) _ rfl rfl rfl (HR.c H1 hm 54 rfl) rfl (Nat.le_of_ble_eq_true rfl) (by omega) _ rfl ?_
  refine m_staff (by omega) H1 hm N1 K ?_
  intro h2 s2 H2 N2 f2
  subst eβ
  refine q_icmpeq (pc := 249) rfl (fun _ => ?_) (fun z => absurd rfl z)
  exact kk _ ⟨P, s2, _, κ, ik, tp, tz, C, E, σ, sz, cl, ⟨p1, p2, p3, p4, px⟩, H2, A1.ofh (mf_h f2), K1, N2, Mk1.fr f2⟩
theorem L_told (hd : 150 ≤ d) (V : INV Ls xs M h) (hi : i + 6 ≤ Ls) (hL : Ls ≤ 3072) (kk : ∀ h', INV Ls xs M h' → wq d 214 1171 [some (.ref mx_big), some (.ref 0), some (.ref 54), some (.int (nI i))] [] h' Q) : wq d 214 254 [some (.ref mx_big), some (.ref 0), some (.ref 54), some (.int (nI i))] [] h Q := by
  obtain ⟨P, s, β, κ, ik, tp, tz, C, E, σ, sz, cl, ⟨p1, p2, p3, p4, px⟩, H, A, K, N, Mk⟩ := V
  have hl : 51 ≤ P.1 := by omega
  have hm : 75 ≤ P.1 := by omega
  refine q_aload_n (pc := 254) rfl rfl rfl ?_
  refine q_aload_n (pc := 255) rfl rfl rfl ?_
  refine q_iload_n (pc := 256) rfl rfl ?_
  refine q_iconst (pc := 257) rfl (nI 1) (by decide) ?_
  refine n_iadd (pc := 258) rfl ?_
  refine n_ild (pc := 259) rfl (HR.big H px) rfl (by omega) (by omega) ?_
  refine q_aload_n (pc := 260) rfl rfl rfl ?_
  refine q_iload_n (pc := 261) rfl rfl ?_
  refine q_iconst (pc := 262) rfl (nI 2) (by decide) ?_
  refine n_iadd (pc := 263) rfl ?_
  refine n_ild (pc := 264) rfl (HR.big H px) rfl (by omega) (by omega) ?_
  refine q_callV (pc := 265) _ rfl rfl rfl (HR.X' H hl) rfl (Nat.le_of_ble_eq_true rfl) (by omega) _ rfl ?_
  refine c_told (by omega) H hl A K ?_
  intro h1 s1 H1 A1 f1
  have N1 := N.ofc f1
  have Mk1 := Mk.cg f1
  refine q_aload_n (pc := 268) rfl rfl rfl ?_
  refine q_aload_n (pc := 269) rfl rfl rfl ?_
  refine q_iload_n (pc := 270) rfl rfl ?_
  refine q_iconst (pc := 271) rfl (nI 1) (by decide) ?_
  refine n_iadd (pc := 272) rfl ?_
  refine n_ild (pc := 273) rfl (HR.big H1 px) rfl (by omega) (by omega) ?_
  refine q_aload_n (pc := 274) rfl rfl rfl ?_
  refine q_iload_n (pc := 275) rfl rfl ?_
  refine q_iconst (pc := 276) rfl (nI 2) (by decide) ?_
  refine n_iadd (pc := 277) rfl ?_
  refine n_ild (pc := 278) rfl (HR.big H1 px) rfl (by omega) (by omega) ?_
  refine q_callV (pc := 279) _ rfl rfl rfl (HR.c H1 hm 54 rfl) rfl (Nat.le_of_ble_eq_true rfl) (by omega) _ rfl ?_
  refine m_told (by omega) H1 hm N1 K ?_
  intro h2 s2 H2 N2 f2
  refine q_icmpeq (pc := 282) rfl (fun _ => ?_) (fun z => absurd rfl z)
  exact kk _ ⟨P, s2, _, κ, ik, tp, tz, C, E, σ, sz, cl, ⟨p1, p2, p3, p4, px⟩, H2, A1.ofh (mf_h f2), K, N2, Mk1.fr f2⟩
theorem L_asks (hd : 150 ≤ d) (V : INV Ls xs M h) (hi : i + 6 ≤ Ls) (hL : Ls ≤ 3072) (kk : ∀ h', INV Ls xs M h' → wq d 214 1171 [some (.ref mx_big), some (.ref 0), some (.ref 54), some (.int (nI i))] [] h' Q) : wq d 214 287 [some (.ref mx_big), some (.ref 0), some (.ref 54), some (.int (nI i))] [] h Q := by
  obtain ⟨P, s, β, κ, ik, tp, tz, C, E, σ, sz, cl, ⟨p1, p2, p3, p4, px⟩, H, A, K, N, Mk⟩ := V
  have hl : 51 ≤ P.1 := by omega
  have hm : 75 ≤ P.1 := by omega
  refine q_aload_n (pc := 287) rfl rfl rfl ?_
  refine q_aload_n (pc := 288) rfl rfl rfl ?_
  refine q_iload_n (pc := 289) rfl rfl ?_
  refine q_iconst (pc := 290) rfl (nI 1) (by decide) ?_
  refine n_iadd (pc := 291) rfl ?_
  refine n_ild (pc := 292) rfl (HR.big H px) rfl (by omega) (by omega) ?_
  refine q_aload_n (pc := 293) rfl rfl rfl ?_
  refine q_iload_n (pc := 294) rfl rfl ?_
  refine q_iconst (pc := 295) rfl (nI 2) (by decide) ?_
  refine n_iadd (pc := 296) rfl ?_
  refine n_ild (pc := 297) rfl (HR.big H px) rfl (by omega) (by omega) ?_
  refine q_aload_n (pc := 298) rfl rfl rfl ?_
  refine q_iload_n (pc := 299) rfl rfl ?_
  refine q_iconst (pc := 300) rfl (nI 3) (by decide) ?_
  refine n_iadd (pc := 301) rfl ?_
  refine n_ild (pc := 302) rfl (HR.big H px) rfl (by omega) (by omega) ?_
  refine q_callV (pc := 303) _ rfl rfl rfl (HR.X' H hl) rfl (Nat.le_of_ble_eq_true rfl) (by omega) _ rfl ?_
  refine c_asks (by omega) H hl A K ?_
  intro h1 s1 H1 A1 f1
  have N1 := N.ofc f1
  have Mk1 := Mk.cg f1
  refine q_aload_n (pc := 306) rfl rfl rfl ?_
  refine q_aload_n (pc := 307) rfl rfl rfl ?_
  refine q_iload_n (pc := 308) rfl rfl ?_
  refine q_iconst (pc := 309) rfl (nI 1) (by decide) ?_
  refine n_iadd (pc := 310) rfl ?_
  refine n_ild (pc := 311) rfl (HR.big H1 px) rfl (by omega) (by omega) ?_
  refine q_aload_n (pc := 312) rfl rfl rfl ?_
  refine q_iload_n (pc := 313) rfl rfl ?_
  refine q_iconst (pc := 314) rfl (nI 2) (by decide) ?_
  refine n_iadd (pc := 315) rfl ?_
  refine n_ild (pc := 316) rfl (HR.big H1 px) rfl (by omega) (by omega) ?_
  refine q_aload_n (pc := 317) rfl rfl rfl ?_
  refine q_iload_n (pc := 318) rfl rfl ?_
  refine q_iconst (pc := 319) rfl (nI 3) (by decide) ?_
  refine n_iadd (pc := 320) rfl ?_
  refine n_ild (pc := 321) rfl (HR.big H1 px) rfl (by omega) (by omega) ?_
  refine q_callV (pc := 322) _ rfl rfl rfl (HR.c H1 hm 54 rfl) rfl (Nat.le_of_ble_eq_true rfl) (by omega) _ rfl ?_
  refine m_asks (by omega) H1 hm N1 K Mk1 ?_
  intro h2 s2 H2 N2 f2
  refine q_icmpeq (pc := 325) rfl (fun _ => ?_) (fun z => absurd rfl z)
  exact kk _ ⟨P, s2, _, κ, ik, tp, tz, C, E, σ, sz, cl, ⟨p1, p2, p3, p4, px⟩, H2, A1.ofh (mf_h f2), K, N2, Mk1.fr f2⟩
theorem L_feed (hd : 150 ≤ d) (V : INV Ls xs M h) (hi : i + 6 ≤ Ls) (hL : Ls ≤ 3072) (kk : ∀ h', INV Ls xs M h' → wq d 214 1171 [some (.ref mx_big), some (.ref 0), some (.ref 54), some (.int (nI i))] [] h' Q) : wq d 214 330 [some (.ref mx_big), some (.ref 0), some (.ref 54), some (.int (nI i))] [] h Q := by
  obtain ⟨P, s, β, κ, ik, tp, tz, C, E, σ, sz, cl, ⟨p1, p2, p3, p4, px⟩, H, A, K, N, Mk⟩ := V
  have hl : 51 ≤ P.1 := by omega
  have hm : 75 ≤ P.1 := by omega
  refine q_aload_n (pc := 330) rfl rfl rfl ?_
  refine q_aload_n (pc := 331) rfl rfl rfl ?_
  refine q_iload_n (pc := 332) rfl rfl ?_
  refine q_iconst (pc := 333) rfl (nI 1) (by decide) ?_
  refine n_iadd (pc := 334) rfl ?_
  refine n_ild (pc := 335) rfl (HR.big H px) rfl (by omega) (by omega) ?_
  refine q_callV (pc := 336) _ rfl rfl rfl (HR.X' H hl) rfl (Nat.le_of_ble_eq_true rfl) (by omega) _ rfl ?_
  refine c_feed (by omega) H hl A K ?_
  intro h1 s1 tp1 tz1 et ez H1 A1 K1 f1
  have N1 := N.ofc f1
  have Mk1 := Mk.cg f1
  refine q_aload_n (pc := 339) rfl rfl rfl ?_
  refine q_aload_n (pc := 340) rfl rfl rfl ?_
  refine q_iload_n (pc := 341) rfl rfl ?_
  refine q_iconst (pc := 342) rfl (nI 1) (by decide) ?_
  refine n_iadd (pc := 343) rfl ?_
  refine n_ild (pc := 344) rfl (HR.big H1 px) rfl (by omega) (by omega) ?_
  refine q_callV (pc := 345) _ rfl rfl rfl (HR.c H1 hm 54 rfl) rfl (Nat.le_of_ble_eq_true rfl) (by omega) _ rfl ?_
  refine m_feed (by omega) H1 hm N1 K Mk1 ?_
  intro h2 s2 tp2 tz2 et2 ez2 H2 N2 Mk2 f2
  subst et2 ez2
  subst et ez
  refine q_icmpeq (pc := 348) rfl (fun _ => ?_) (fun z => absurd rfl z)
  exact kk _ ⟨P, s2, _, κ, ik, _, _, C, E, σ, sz, cl, ⟨p1, p2, p3, p4, px⟩, H2, A1.ofh (f2.mono (fun i g => by unfold hS; omega)), K1, N2, Mk2⟩
theorem L_text (hd : 150 ≤ d) (V : INV Ls xs M h) (hi : i + 6 ≤ Ls) (hL : Ls ≤ 3072) (kk : ∀ h', INV Ls xs M h' → wq d 214 1171 [some (.ref mx_big), some (.ref 0), some (.ref 54), some (.int (nI i))] [] h' Q) : wq d 214 353 [some (.ref mx_big), some (.ref 0), some (.ref 54), some (.int (nI i))] [] h Q := by
  obtain ⟨P, s, β, κ, ik, tp, tz, C, E, σ, sz, cl, ⟨p1, p2, p3, p4, px⟩, H, A, K, N, Mk⟩ := V
  have hl : 51 ≤ P.1 := by omega
  have hm : 75 ≤ P.1 := by omega
  refine q_aload_n (pc := 353) rfl rfl rfl ?_
  refine q_callV (pc := 354) _ rfl rfl rfl (HR.X' H hl) rfl (Nat.le_of_ble_eq_true rfl) (by omega) _ rfl ?_
  have hz := K.2.2.2.2.2
  refine c_text (by omega) H hl A K (H.2.1.trans p3) (fun g6 => ?_) (fun g6 f er h1 s1 H1 A1 f1 => ?_) (fun g6 out E1 er b4 b3 hok h1 s1 H1 A1 f1 => ?_)
  · skip
    refine q_aload_n (pc := 357) rfl rfl rfl ?_
    refine q_callV (pc := 358) _ rfl rfl rfl (HR.c H hm 54 rfl) rfl (Nat.le_of_ble_eq_true rfl) (by omega) _ rfl ?_
    refine m_text (by omega) H hm N Mk ⟨hz.1, hz.2.1⟩ (fun _ => ?_) (fun g => absurd g (by omega)) (fun g => absurd g (by omega))
    refine q_icmpeq (pc := 361) rfl (fun _ => ?_) (fun z => absurd rfl z)
    exact kk _ ⟨P, s, _, κ, ik, tp, tz, C, E, σ, sz, cl, ⟨p1, p2, p3, p4, px⟩, H, A, K, N, Mk⟩
  · skip
    refine q_aload_n (pc := 357) rfl rfl rfl ?_
    refine q_callV (pc := 358) _ rfl rfl rfl (HR.c H1 hm 54 rfl) rfl (Nat.le_of_ble_eq_true rfl) (by omega) _ rfl ?_
    refine m_text (by omega) H1 hm (N.ofc f1) (Mk.cg f1) ⟨hz.1, hz.2.1⟩ (fun g => absurd g (by omega)) (fun _ f' er' h2 s2 H2 N2 Mk2 f2 => ?_) (fun _ out E1 er' => by rw [er] at er'; cases er')
    rw [er] at er'
    cases er'
    refine q_icmpeq (pc := 361) rfl (fun _ => ?_) (fun z => absurd rfl z)
    exact kk _ ⟨P, s2, _, κ, ik, tp, 0, C, E, σ, sz, cl, ⟨p1, p2, p3, p4, px⟩, H2, A1.ofh f2, K.tz0 (Nat.le_refl _), N2, Mk2⟩
  · skip
    refine q_aload_n (pc := 357) rfl rfl rfl ?_
    refine q_callV (pc := 358) _ rfl rfl rfl (HR.c H1 hm 54 rfl) rfl (Nat.le_of_ble_eq_true rfl) (by omega) _ rfl ?_
    refine m_text (n := P.2.1) (by omega) H1 hm (N.ofc f1) (Mk.cg f1) ⟨hz.1, hz.2.1⟩ (fun g => absurd g (by omega)) (fun _ f' er' => by rw [er] at er'; cases er') (fun _ out' E1' er' h2 s2 H2 N2 Mk2 f2 => ?_)
    rw [er] at er'
    cases er'
    refine q_icmpeq (pc := 361) rfl (fun _ => ?_) (fun z => absurd rfl z)
    exact kk _ ⟨Pup P out.length, s2, _, κ, ik, tp, 0, _, _, σ, sz, cl, ⟨p1, by show 1 ≤ P.2.1 + 1; omega, by show P.2.2.1 + 3 = tid (P.2.1 + 1); rw [p3, tid_up _ (by omega)], by show P.2.2.2.1 + (out.length + 5) ≤ M + 165 * (P.2.1 + 1); omega, px⟩, H2, A1.ofh f2, K.tz0 (Nat.le_succ _), N2, Mk2 hok b3⟩
theorem L_force (hd : 150 ≤ d) (V : INV Ls xs M h) (hi : i + 6 ≤ Ls) (hL : Ls ≤ 3072) (kk : ∀ h', INV Ls xs M h' → wq d 214 1171 [some (.ref mx_big), some (.ref 0), some (.ref 54), some (.int (nI i))] [] h' Q) : wq d 214 366 [some (.ref mx_big), some (.ref 0), some (.ref 54), some (.int (nI i))] [] h Q := by
  obtain ⟨P, s, β, κ, ik, tp, tz, C, E, σ, sz, cl, ⟨p1, p2, p3, p4, px⟩, H, A, K, N, Mk⟩ := V
  have hl : 51 ≤ P.1 := by omega
  have hm : 75 ≤ P.1 := by omega
  refine q_aload_n (pc := 366) rfl rfl rfl ?_
  refine q_aload_n (pc := 367) rfl rfl rfl ?_
  refine q_iload_n (pc := 368) rfl rfl ?_
  refine q_iconst (pc := 369) rfl (nI 1) (by decide) ?_
  refine n_iadd (pc := 370) rfl ?_
  refine n_ild (pc := 371) rfl (HR.big H px) rfl (by omega) (by omega) ?_
  refine q_callV (pc := 372) _ rfl rfl rfl (HR.X' H hl) rfl (Nat.le_of_ble_eq_true rfl) (by omega) _ rfl ?_
  refine c_force (by omega) H hl A K ?_
  intro h1 s1 β1 eβ H1 A1 K1 f1
  have N1 := N.ofc f1
  have Mk1 := Mk.cg f1
  refine q_aload_n (pc := 375) rfl rfl rfl ?_
  refine q_aload_n (pc := 376) rfl rfl rfl ?_
  refine q_iload_n (pc := 377) rfl rfl ?_
  refine q_iconst (pc := 378) rfl (nI 1) (by decide) ?_
  refine n_iadd (pc := 379) rfl ?_
  refine n_ild (pc := 380) rfl (HR.big H1 px) rfl (by omega) (by omega) ?_
  refine q_callV (pc := 381) _ rfl rfl rfl (HR.c H1 hm 54 rfl) rfl (Nat.le_of_ble_eq_true rfl) (by omega) _ rfl ?_
  refine m_force (by omega) H1 hm N1 K Mk1 ?_
  intro h2 s2 H2 N2 f2
  subst eβ
  refine q_icmpeq (pc := 384) rfl (fun _ => ?_) (fun z => absurd rfl z)
  exact kk _ ⟨P, s2, _, κ, ik, tp, tz, C, E, σ, sz, cl, ⟨p1, p2, p3, p4, px⟩, H2, A1.ofh (mf_h f2), K1, N2, Mk1.fr f2⟩
theorem L_tide (hd : 150 ≤ d) (V : INV Ls xs M h) (hi : i + 6 ≤ Ls) (hL : Ls ≤ 3072) (kk : ∀ h', INV Ls xs M h' → wq d 214 1171 [some (.ref mx_big), some (.ref 0), some (.ref 54), some (.int (nI i))] [] h' Q) : wq d 214 389 [some (.ref mx_big), some (.ref 0), some (.ref 54), some (.int (nI i))] [] h Q := by
  obtain ⟨P, s, β, κ, ik, tp, tz, C, E, σ, sz, cl, ⟨p1, p2, p3, p4, px⟩, H, A, K, N, Mk⟩ := V
  have hl : 51 ≤ P.1 := by omega
  have hm : 75 ≤ P.1 := by omega
  refine q_aload_n (pc := 389) rfl rfl rfl ?_
  refine q_aload_n (pc := 390) rfl rfl rfl ?_
  refine q_iload_n (pc := 391) rfl rfl ?_
  refine q_iconst (pc := 392) rfl (nI 1) (by decide) ?_
  refine n_iadd (pc := 393) rfl ?_
  refine n_ild (pc := 394) rfl (HR.big H px) rfl (by omega) (by omega) ?_
  refine q_callV (pc := 395) _ rfl rfl rfl (HR.X' H hl) rfl (Nat.le_of_ble_eq_true rfl) (by omega) _ rfl ?_
  refine c_tide (by omega) H hl A K ?_
  intro h1 s1 β1 eβ H1 A1 K1 f1
  have N1 := N.ofc f1
  have Mk1 := Mk.cg f1
  refine q_aload_n (pc := 398) rfl rfl rfl ?_
  refine q_aload_n (pc := 399) rfl rfl rfl ?_
  refine q_iload_n (pc := 400) rfl rfl ?_
  refine q_iconst (pc := 401) rfl (nI 1) (by decide) ?_
  refine n_iadd (pc := 402) rfl ?_
  refine n_ild (pc := 403) rfl (HR.big H1 px) rfl (by omega) (by omega) ?_
  refine q_callV (pc := 404) _ rfl rfl rfl (HR.c H1 hm 54 rfl) rfl (Nat.le_of_ble_eq_true rfl) (by omega) _ rfl ?_
  refine m_tide (by omega) H1 hm N1 K Mk1 ?_
  intro h2 s2 H2 N2 f2
  subst eβ
  refine q_icmpeq (pc := 407) rfl (fun _ => ?_) (fun z => absurd rfl z)
  exact kk _ ⟨P, s2, _, κ, ik, tp, tz, C, E, σ, sz, cl, ⟨p1, p2, p3, p4, px⟩, H2, A1.ofh (mf_h f2), K1, N2, Mk1.fr f2⟩
theorem L_relay (hd : 150 ≤ d) (V : INV Ls xs M h) (hi : i + 6 ≤ Ls) (hL : Ls ≤ 3072) (kk : ∀ h', INV Ls xs M h' → wq d 214 1171 [some (.ref mx_big), some (.ref 0), some (.ref 54), some (.int (nI i))] [] h' Q) : wq d 214 412 [some (.ref mx_big), some (.ref 0), some (.ref 54), some (.int (nI i))] [] h Q := by
  obtain ⟨P, s, β, κ, ik, tp, tz, C, E, σ, sz, cl, ⟨p1, p2, p3, p4, px⟩, H, A, K, N, Mk⟩ := V
  have hl : 51 ≤ P.1 := by omega
  have hm : 75 ≤ P.1 := by omega
  refine q_aload_n (pc := 412) rfl rfl rfl ?_
  refine q_aload_n (pc := 413) rfl rfl rfl ?_
  refine q_iload_n (pc := 414) rfl rfl ?_
  refine q_iconst (pc := 415) rfl (nI 1) (by decide) ?_
  refine n_iadd (pc := 416) rfl ?_
  refine n_ild (pc := 417) rfl (HR.big H px) rfl (by omega) (by omega) ?_
  refine q_aload_n (pc := 418) rfl rfl rfl ?_
  refine q_iload_n (pc := 419) rfl rfl ?_
  refine q_iconst (pc := 420) rfl (nI 2) (by decide) ?_
  refine n_iadd (pc := 421) rfl ?_
  refine n_ild (pc := 422) rfl (HR.big H px) rfl (by omega) (by omega) ?_
  refine q_callV (pc := 423) _ rfl rfl rfl (HR.X' H hl) rfl (Nat.le_of_ble_eq_true rfl) (by omega) _ rfl ?_
  refine c_relay (by omega) H hl A K ?_
  intro h1 s1 β1 eβ H1 A1 K1 f1
  have N1 := N.ofc f1
  have Mk1 := Mk.cg f1
  refine q_aload_n (pc := 426) rfl rfl rfl ?_
  refine q_aload_n (pc := 427) rfl rfl rfl ?_
  refine q_iload_n (pc := 428) rfl rfl ?_
  refine q_iconst (pc := 429) rfl (nI 1) (by decide) ?_
  refine n_iadd (pc := 430) rfl ?_
  refine n_ild (pc := 431) rfl (HR.big H1 px) rfl (by omega) (by omega) ?_
  refine q_aload_n (pc := 432) rfl rfl rfl ?_
  refine q_iload_n (pc := 433) rfl rfl ?_
  refine q_iconst (pc := 434) rfl (nI 2) (by decide) ?_
  refine n_iadd (pc := 435) rfl ?_
  refine n_ild (pc := 436) rfl (HR.big H1 px) rfl (by omega) (by omega) ?_
  refine q_callV (pc := 437) _ rfl rfl rfl (HR.c H1 hm 54 rfl) rfl (Nat.le_of_ble_eq_true rfl) (by omega) _ rfl ?_
  refine m_relay (by omega) H1 hm N1 K Mk1 ?_
  intro h2 s2 H2 N2 f2
  subst eβ
  refine q_icmpeq (pc := 440) rfl (fun _ => ?_) (fun z => absurd rfl z)
  exact kk _ ⟨P, s2, _, κ, ik, tp, tz, C, E, σ, sz, cl, ⟨p1, p2, p3, p4, px⟩, H2, A1.ofh (mf_h f2), K1, N2, Mk1.fr f2⟩
theorem L_night (hd : 150 ≤ d) (V : INV Ls xs M h) (hi : i + 6 ≤ Ls) (hL : Ls ≤ 3072) (kk : ∀ h', INV Ls xs M h' → wq d 214 1171 [some (.ref mx_big), some (.ref 0), some (.ref 54), some (.int (nI i))] [] h' Q) : wq d 214 445 [some (.ref mx_big), some (.ref 0), some (.ref 54), some (.int (nI i))] [] h Q := by
  obtain ⟨P, s, β, κ, ik, tp, tz, C, E, σ, sz, cl, ⟨p1, p2, p3, p4, px⟩, H, A, K, N, Mk⟩ := V
  have hl : 51 ≤ P.1 := by omega
  have hm : 75 ≤ P.1 := by omega
  refine q_aload_n (pc := 445) rfl rfl rfl ?_
  refine q_aload_n (pc := 446) rfl rfl rfl ?_
  refine q_iload_n (pc := 447) rfl rfl ?_
  refine q_iconst (pc := 448) rfl (nI 1) (by decide) ?_
  refine n_iadd (pc := 449) rfl ?_
  refine n_ild (pc := 450) rfl (HR.big H px) rfl (by omega) (by omega) ?_
  refine q_aload_n (pc := 451) rfl rfl rfl ?_
  refine q_iload_n (pc := 452) rfl rfl ?_
  refine q_iconst (pc := 453) rfl (nI 2) (by decide) ?_
  refine n_iadd (pc := 454) rfl ?_
  refine n_ild (pc := 455) rfl (HR.big H px) rfl (by omega) (by omega) ?_
  refine q_callV (pc := 456) _ rfl rfl rfl (HR.X' H hl) rfl (Nat.le_of_ble_eq_true rfl) (by omega) _ rfl ?_
  refine c_night (by omega) H hl A K ?_
  intro h1 s1 β1 eβ H1 A1 K1 f1
  have N1 := N.ofc f1
  have Mk1 := Mk.cg f1
  refine q_aload_n (pc := 459) rfl rfl rfl ?_
  refine q_aload_n (pc := 460) rfl rfl rfl ?_
  refine q_iload_n (pc := 461) rfl rfl ?_
  refine q_iconst (pc := 462) rfl (nI 1) (by decide) ?_
  refine n_iadd (pc := 463) rfl ?_
  refine n_ild (pc := 464) rfl (HR.big H1 px) rfl (by omega) (by omega) ?_
  refine q_aload_n (pc := 465) rfl rfl rfl ?_
  refine q_iload_n (pc := 466) rfl rfl ?_
  refine q_iconst (pc := 467) rfl (nI 2) (by decide) ?_
  refine n_iadd (pc := 468) rfl ?_
  refine n_ild (pc := 469) rfl (HR.big H1 px) rfl (by omega) (by omega) ?_
  refine q_callV (pc := 470) _ rfl rfl rfl (HR.c H1 hm 54 rfl) rfl (Nat.le_of_ble_eq_true rfl) (by omega) _ rfl ?_
  refine m_night (by omega) H1 hm N1 K Mk1 ?_
  intro h2 s2 H2 N2 f2
  subst eβ
  refine q_icmpeq (pc := 473) rfl (fun _ => ?_) (fun z => absurd rfl z)
  exact kk _ ⟨P, s2, _, κ, ik, tp, tz, C, E, σ, sz, cl, ⟨p1, p2, p3, p4, px⟩, H2, A1.ofh (mf_h f2), K1, N2, Mk1.fr f2⟩
theorem L_run (hd : 150 ≤ d) (V : INV Ls xs M h) (hi : i + 6 ≤ Ls) (hL : Ls ≤ 3072) (kk : ∀ h', INV Ls xs M h' → wq d 214 1171 [some (.ref mx_big), some (.ref 0), some (.ref 54), some (.int (nI i))] [] h' Q) : wq d 214 478 [some (.ref mx_big), some (.ref 0), some (.ref 54), some (.int (nI i))] [] h Q := by
  obtain ⟨P, s, β, κ, ik, tp, tz, C, E, σ, sz, cl, ⟨p1, p2, p3, p4, px⟩, H, A, K, N, Mk⟩ := V
  have hl : 51 ≤ P.1 := by omega
  have hm : 75 ≤ P.1 := by omega
  refine q_aload_n (pc := 478) rfl rfl rfl ?_
  refine q_aload_n (pc := 479) rfl rfl rfl ?_
  refine q_iload_n (pc := 480) rfl rfl ?_
  refine q_iconst (pc := 481) rfl (nI 1) (by decide) ?_
  refine n_iadd (pc := 482) rfl ?_
  refine n_ild (pc := 483) rfl (HR.big H px) rfl (by omega) (by omega) ?_
  refine q_aload_n (pc := 484) rfl rfl rfl ?_
  refine q_iload_n (pc := 485) rfl rfl ?_
  refine q_iconst (pc := 486) rfl (nI 2) (by decide) ?_
  refine n_iadd (pc := 487) rfl ?_
  refine n_ild (pc := 488) rfl (HR.big H px) rfl (by omega) (by omega) ?_
  refine q_aload_n (pc := 489) rfl rfl rfl ?_
  refine q_iload_n (pc := 490) rfl rfl ?_
  refine q_iconst (pc := 491) rfl (nI 3) (by decide) ?_
  refine n_iadd (pc := 492) rfl ?_
  refine n_ild (pc := 493) rfl (HR.big H px) rfl (by omega) (by omega) ?_
  refine q_callV (pc := 494) _ rfl rfl rfl (HR.X' H hl) rfl (Nat.le_of_ble_eq_true rfl) (by omega) _ rfl ?_
  refine c_run (by omega) H hl A K ?_
  intro h1 s1 H1 A1 f1
  have N1 := N.ofc f1
  have Mk1 := Mk.cg f1
  refine q_aload_n (pc := 497) rfl rfl rfl ?_
  refine q_aload_n (pc := 498) rfl rfl rfl ?_
  refine q_iload_n (pc := 499) rfl rfl ?_
  refine q_iconst (pc := 500) rfl (nI 1) (by decide) ?_
  refine n_iadd (pc := 501) rfl ?_
  refine n_ild (pc := 502) rfl (HR.big H1 px) rfl (by omega) (by omega) ?_
  refine q_aload_n (pc := 503) rfl rfl rfl ?_
  refine q_iload_n (pc := 504) rfl rfl ?_
  refine q_iconst (pc := 505) rfl (nI 2) (by decide) ?_
  refine n_iadd (pc := 506) rfl ?_
  refine n_ild (pc := 507) rfl (HR.big H1 px) rfl (by omega) (by omega) ?_
  refine q_aload_n (pc := 508) rfl rfl rfl ?_
  refine q_iload_n (pc := 509) rfl rfl ?_
  refine q_iconst (pc := 510) rfl (nI 3) (by decide) ?_
  refine n_iadd (pc := 511) rfl ?_
  refine n_ild (pc := 512) rfl (HR.big H1 px) rfl (by omega) (by omega) ?_
  refine q_callV (pc := 513) _ rfl rfl rfl (HR.c H1 hm 54 rfl) rfl (Nat.le_of_ble_eq_true rfl) (by omega) _ rfl ?_
  refine m_run (by omega) H1 hm N1 K Mk1 ?_
  intro h2 s2 H2 N2 f2
  refine q_icmpeq (pc := 516) rfl (fun _ => ?_) (fun z => absurd rfl z)
  exact kk _ ⟨P, s2, _, κ, ik, tp, tz, C, E, σ, sz, cl, ⟨p1, p2, p3, p4, px⟩, H2, A1.ofh (mf_h f2), K, N2, Mk1.fr f2⟩
theorem L_wrong (hd : 150 ≤ d) (V : INV Ls xs M h) (hi : i + 6 ≤ Ls) (hL : Ls ≤ 3072) (kk : ∀ h', INV Ls xs M h' → wq d 214 1171 [some (.ref mx_big), some (.ref 0), some (.ref 54), some (.int (nI i))] [] h' Q) : wq d 214 521 [some (.ref mx_big), some (.ref 0), some (.ref 54), some (.int (nI i))] [] h Q := by
  obtain ⟨P, s, β, κ, ik, tp, tz, C, E, σ, sz, cl, ⟨p1, p2, p3, p4, px⟩, H, A, K, N, Mk⟩ := V
  have hl : 51 ≤ P.1 := by omega
  have hm : 75 ≤ P.1 := by omega
  refine q_aload_n (pc := 521) rfl rfl rfl ?_
  refine q_aload_n (pc := 522) rfl rfl rfl ?_
  refine q_iload_n (pc := 523) rfl rfl ?_
  refine q_iconst (pc := 524) rfl (nI 1) (by decide) ?_
  refine n_iadd (pc := 525) rfl ?_
  refine n_ild (pc := 526) rfl (HR.big H px) rfl (by omega) (by omega) ?_
  refine q_callV (pc := 527) _ rfl rfl rfl (HR.X' H hl) rfl (Nat.le_of_ble_eq_true rfl) (by omega) _ rfl ?_
  refine c_wrong (by omega) H hl A K ?_
  intro h1 s1 H1 A1 f1
  have N1 := N.ofc f1
  have Mk1 := Mk.cg f1
  refine q_aload_n (pc := 530) rfl rfl rfl ?_
  refine q_aload_n (pc := 531) rfl rfl rfl ?_
  refine q_iload_n (pc := 532) rfl rfl ?_
  refine q_iconst (pc := 533) rfl (nI 1) (by decide) ?_
  refine n_iadd (pc := 534) rfl ?_
  refine n_ild (pc := 535) rfl (HR.big H1 px) rfl (by omega) (by omega) ?_
  refine q_callV (pc := 536) _ rfl rfl rfl (HR.c H1 hm 54 rfl) rfl (Nat.le_of_ble_eq_true rfl) (by omega) _ rfl ?_
  refine m_wrong (by omega) H1 hm N1 K Mk1 ?_
  intro h2 s2 H2 N2 f2
  refine q_lcmp (pc := 539) rfl ?_
  refine q_ifeq (pc := 540) rfl (fun _ => ?_) (fun z => absurd (lg_cmp0.mpr rfl) z)
  exact kk _ ⟨P, s2, _, κ, ik, tp, tz, C, E, σ, sz, cl, ⟨p1, p2, p3, p4, px⟩, H2, A1.ofh (mf_h f2), K, N2, Mk1.fr f2⟩
theorem L_shore (hd : 150 ≤ d) (V : INV Ls xs M h) (hi : i + 6 ≤ Ls) (hL : Ls ≤ 3072) (kk : ∀ h', INV Ls xs M h' → wq d 214 1171 [some (.ref mx_big), some (.ref 0), some (.ref 54), some (.int (nI i))] [] h' Q) : wq d 214 545 [some (.ref mx_big), some (.ref 0), some (.ref 54), some (.int (nI i))] [] h Q := by
  obtain ⟨P, s, β, κ, ik, tp, tz, C, E, σ, sz, cl, ⟨p1, p2, p3, p4, px⟩, H, A, K, N, Mk⟩ := V
  have hl : 51 ≤ P.1 := by omega
  have hm : 75 ≤ P.1 := by omega
  refine q_aload_n (pc := 545) rfl rfl rfl ?_
  refine q_aload_n (pc := 546) rfl rfl rfl ?_
  refine q_iload_n (pc := 547) rfl rfl ?_
  refine q_iconst (pc := 548) rfl (nI 1) (by decide) ?_
  refine n_iadd (pc := 549) rfl ?_
  refine n_ild (pc := 550) rfl (HR.big H px) rfl (by omega) (by omega) ?_
  refine q_callV (pc := 551) _ rfl rfl rfl (HR.X' H hl) rfl (Nat.le_of_ble_eq_true rfl) (by omega) _ rfl ?_
  refine c_shore (by omega) H hl A K ?_
  intro h1 s1 H1 A1 f1
  have N1 := N.ofc f1
  have Mk1 := Mk.cg f1
  refine q_aload_n (pc := 554) rfl rfl rfl ?_
  refine q_aload_n (pc := 555) rfl rfl rfl ?_
  refine q_iload_n (pc := 556) rfl rfl ?_
  refine q_iconst (pc := 557) rfl (nI 1) (by decide) ?_
  refine n_iadd (pc := 558) rfl ?_
  refine n_ild (pc := 559) rfl (HR.big H1 px) rfl (by omega) (by omega) ?_
  refine q_callV (pc := 560) _ rfl rfl rfl (HR.c H1 hm 54 rfl) rfl (Nat.le_of_ble_eq_true rfl) (by omega) _ rfl ?_
  refine m_shore (by omega) H1 hm N1 K Mk1 ?_
  intro h2 s2 H2 N2 f2
  refine q_icmpeq (pc := 563) rfl (fun _ => ?_) (fun z => absurd rfl z)
  exact kk _ ⟨P, s2, _, κ, ik, tp, tz, C, E, σ, sz, cl, ⟨p1, p2, p3, p4, px⟩, H2, A1.ofh (mf_h f2), K, N2, Mk1.fr f2⟩
theorem L_tour (hd : 150 ≤ d) (V : INV Ls xs M h) (hi : i + 6 ≤ Ls) (hL : Ls ≤ 3072) (kk : ∀ h', INV Ls xs M h' → wq d 214 1171 [some (.ref mx_big), some (.ref 0), some (.ref 54), some (.int (nI i))] [] h' Q) : wq d 214 568 [some (.ref mx_big), some (.ref 0), some (.ref 54), some (.int (nI i))] [] h Q := by
  obtain ⟨P, s, β, κ, ik, tp, tz, C, E, σ, sz, cl, ⟨p1, p2, p3, p4, px⟩, H, A, K, N, Mk⟩ := V
  have hl : 51 ≤ P.1 := by omega
  have hm : 75 ≤ P.1 := by omega
  refine q_aload_n (pc := 568) rfl rfl rfl ?_
  refine q_aload_n (pc := 569) rfl rfl rfl ?_
  refine q_iload_n (pc := 570) rfl rfl ?_
  refine q_iconst (pc := 571) rfl (nI 1) (by decide) ?_
  refine n_iadd (pc := 572) rfl ?_
  refine n_ild (pc := 573) rfl (HR.big H px) rfl (by omega) (by omega) ?_
  refine q_aload_n (pc := 574) rfl rfl rfl ?_
  refine q_iload_n (pc := 575) rfl rfl ?_
  refine q_iconst (pc := 576) rfl (nI 2) (by decide) ?_
  refine n_iadd (pc := 577) rfl ?_
  refine n_ild (pc := 578) rfl (HR.big H px) rfl (by omega) (by omega) ?_
  refine q_callV (pc := 579) _ rfl rfl rfl (HR.X' H hl) rfl (Nat.le_of_ble_eq_true rfl) (by omega) _ rfl ?_
  refine c_tour (by omega) H hl A K ?_
  intro h1 s1 H1 A1 f1
  have N1 := N.ofc f1
  have Mk1 := Mk.cg f1
  refine q_aload_n (pc := 582) rfl rfl rfl ?_
  refine q_aload_n (pc := 583) rfl rfl rfl ?_
  refine q_iload_n (pc := 584) rfl rfl ?_
  refine q_iconst (pc := 585) rfl (nI 1) (by decide) ?_
  refine n_iadd (pc := 586) rfl ?_
  refine n_ild (pc := 587) rfl (HR.big H1 px) rfl (by omega) (by omega) ?_
  refine q_aload_n (pc := 588) rfl rfl rfl ?_
  refine q_iload_n (pc := 589) rfl rfl ?_
  refine q_iconst (pc := 590) rfl (nI 2) (by decide) ?_
  refine n_iadd (pc := 591) rfl ?_
  refine n_ild (pc := 592) rfl (HR.big H1 px) rfl (by omega) (by omega) ?_
  refine q_callV (pc := 593) _ rfl rfl rfl (HR.c H1 hm 54 rfl) rfl (Nat.le_of_ble_eq_true rfl) (by omega) _ rfl ?_
  refine m_tour (by omega) H1 hm N1 K Mk1 ?_
  intro h2 s2 H2 N2 f2
  refine q_icmpeq (pc := 596) rfl (fun _ => ?_) (fun z => absurd rfl z)
  exact kk _ ⟨P, s2, _, κ, ik, tp, tz, C, E, σ, sz, cl, ⟨p1, p2, p3, p4, px⟩, H2, A1.ofh (mf_h f2), K, N2, Mk1.fr f2⟩
theorem L_soonest (hd : 150 ≤ d) (V : INV Ls xs M h) (hi : i + 6 ≤ Ls) (hL : Ls ≤ 3072) (kk : ∀ h', INV Ls xs M h' → wq d 214 1171 [some (.ref mx_big), some (.ref 0), some (.ref 54), some (.int (nI i))] [] h' Q) : wq d 214 601 [some (.ref mx_big), some (.ref 0), some (.ref 54), some (.int (nI i))] [] h Q := by
  obtain ⟨P, s, β, κ, ik, tp, tz, C, E, σ, sz, cl, ⟨p1, p2, p3, p4, px⟩, H, A, K, N, Mk⟩ := V
  have hl : 51 ≤ P.1 := by omega
  have hm : 75 ≤ P.1 := by omega
  refine q_aload_n (pc := 601) rfl rfl rfl ?_
  refine q_aload_n (pc := 602) rfl rfl rfl ?_
  refine q_iload_n (pc := 603) rfl rfl ?_
  refine q_iconst (pc := 604) rfl (nI 1) (by decide) ?_
  refine n_iadd (pc := 605) rfl ?_
  refine n_ild (pc := 606) rfl (HR.big H px) rfl (by omega) (by omega) ?_
  refine q_aload_n (pc := 607) rfl rfl rfl ?_
  refine q_iload_n (pc := 608) rfl rfl ?_
  refine q_iconst (pc := 609) rfl (nI 2) (by decide) ?_
  refine n_iadd (pc := 610) rfl ?_
  refine n_ild (pc := 611) rfl (HR.big H px) rfl (by omega) (by omega) ?_
  refine q_callV (pc := 612) _ rfl rfl rfl (HR.X' H hl) rfl (Nat.le_of_ble_eq_true rfl) (by omega) _ rfl ?_
  refine c_soonest (by omega) H hl A K ?_
  intro h1 s1 H1 A1 f1
  have N1 := N.ofc f1
  have Mk1 := Mk.cg f1
  refine q_aload_n (pc := 615) rfl rfl rfl ?_
  refine q_aload_n (pc := 616) rfl rfl rfl ?_
  refine q_iload_n (pc := 617) rfl rfl ?_
  refine q_iconst (pc := 618) rfl (nI 1) (by decide) ?_
  refine n_iadd (pc := 619) rfl ?_
  refine n_ild (pc := 620) rfl (HR.big H1 px) rfl (by omega) (by omega) ?_
  refine q_aload_n (pc := 621) rfl rfl rfl ?_
  refine q_iload_n (pc := 622) rfl rfl ?_
  refine q_iconst (pc := 623) rfl (nI 2) (by decide) ?_
  refine n_iadd (pc := 624) rfl ?_
  refine n_ild (pc := 625) rfl (HR.big H1 px) rfl (by omega) (by omega) ?_
  refine q_callV (pc := 626) _ rfl rfl rfl (HR.c H1 hm 54 rfl) rfl (Nat.le_of_ble_eq_true rfl) (by omega) _ rfl ?_
  refine m_soonest (by omega) H1 hm N1 K Mk1 ?_
  intro h2 s2 H2 N2 f2
  refine q_icmpeq (pc := 629) rfl (fun _ => ?_) (fun z => absurd rfl z)
  exact kk _ ⟨P, s2, _, κ, ik, tp, tz, C, E, σ, sz, cl, ⟨p1, p2, p3, p4, px⟩, H2, A1.ofh (mf_h f2), K, N2, Mk1.fr f2⟩
theorem L_together (hd : 150 ≤ d) (V : INV Ls xs M h) (hi : i + 6 ≤ Ls) (hL : Ls ≤ 3072) (kk : ∀ h', INV Ls xs M h' → wq d 214 1171 [some (.ref mx_big), some (.ref 0), some (.ref 54), some (.int (nI i))] [] h' Q) : wq d 214 634 [some (.ref mx_big), some (.ref 0), some (.ref 54), some (.int (nI i))] [] h Q := by
  obtain ⟨P, s, β, κ, ik, tp, tz, C, E, σ, sz, cl, ⟨p1, p2, p3, p4, px⟩, H, A, K, N, Mk⟩ := V
  have hl : 51 ≤ P.1 := by omega
  have hm : 75 ≤ P.1 := by omega
  refine q_aload_n (pc := 634) rfl rfl rfl ?_
  refine q_aload_n (pc := 635) rfl rfl rfl ?_
  refine q_iload_n (pc := 636) rfl rfl ?_
  refine q_iconst (pc := 637) rfl (nI 1) (by decide) ?_
  refine n_iadd (pc := 638) rfl ?_
  refine n_ild (pc := 639) rfl (HR.big H px) rfl (by omega) (by omega) ?_
  refine q_callV (pc := 640) _ rfl rfl rfl (HR.X' H hl) rfl (Nat.le_of_ble_eq_true rfl) (by omega) _ rfl ?_
  refine c_together (by omega) H hl A K ?_
  intro h1 s1 H1 A1 f1
  have N1 := N.ofc f1
  have Mk1 := Mk.cg f1
  refine q_aload_n (pc := 643) rfl rfl rfl ?_
  refine q_aload_n (pc := 644) rfl rfl rfl ?_
  refine q_iload_n (pc := 645) rfl rfl ?_
  refine q_iconst (pc := 646) rfl (nI 1) (by decide) ?_
  refine n_iadd (pc := 647) rfl ?_
  refine n_ild (pc := 648) rfl (HR.big H1 px) rfl (by omega) (by omega) ?_
  refine q_callV (pc := 649) _ rfl rfl rfl (HR.c H1 hm 54 rfl) rfl (Nat.le_of_ble_eq_true rfl) (by omega) _ rfl ?_
  refine m_together (by omega) H1 hm N1 K Mk1 ?_
  intro h2 s2 H2 N2 f2
  refine q_icmpeq (pc := 652) rfl (fun _ => ?_) (fun z => absurd rfl z)
  exact kk _ ⟨P, s2, _, κ, ik, tp, tz, C, E, σ, sz, cl, ⟨p1, p2, p3, p4, px⟩, H2, A1.ofh (mf_h f2), K, N2, Mk1.fr f2⟩
theorem L_nearest (hd : 150 ≤ d) (V : INV Ls xs M h) (hi : i + 6 ≤ Ls) (hL : Ls ≤ 3072) (kk : ∀ h', INV Ls xs M h' → wq d 214 1171 [some (.ref mx_big), some (.ref 0), some (.ref 54), some (.int (nI i))] [] h' Q) : wq d 214 657 [some (.ref mx_big), some (.ref 0), some (.ref 54), some (.int (nI i))] [] h Q := by
  obtain ⟨P, s, β, κ, ik, tp, tz, C, E, σ, sz, cl, ⟨p1, p2, p3, p4, px⟩, H, A, K, N, Mk⟩ := V
  have hl : 51 ≤ P.1 := by omega
  have hm : 75 ≤ P.1 := by omega
  refine q_aload_n (pc := 657) rfl rfl rfl ?_
  refine q_aload_n (pc := 658) rfl rfl rfl ?_
  refine q_iload_n (pc := 659) rfl rfl ?_
  refine q_iconst (pc := 660) rfl (nI 1) (by decide) ?_
  refine n_iadd (pc := 661) rfl ?_
  refine n_ild (pc := 662) rfl (HR.big H px) rfl (by omega) (by omega) ?_
  refine q_aload_n (pc := 663) rfl rfl rfl ?_
  refine q_iload_n (pc := 664) rfl rfl ?_
  refine q_iconst (pc := 665) rfl (nI 2) (by decide) ?_
  refine n_iadd (pc := 666) rfl ?_
  refine n_ild (pc := 667) rfl (HR.big H px) rfl (by omega) (by omega) ?_
  refine q_callV (pc := 668) _ rfl rfl rfl (HR.X' H hl) rfl (Nat.le_of_ble_eq_true rfl) (by omega) _ rfl ?_
  refine c_nearestC (by omega) H hl A K ?_
  intro h1 s1 H1 A1 f1
  have N1 := N.ofc f1
  have Mk1 := Mk.cg f1
  refine q_aload_n (pc := 671) rfl rfl rfl ?_
  refine q_aload_n (pc := 672) rfl rfl rfl ?_
  refine q_iload_n (pc := 673) rfl rfl ?_
  refine q_iconst (pc := 674) rfl (nI 1) (by decide) ?_
  refine n_iadd (pc := 675) rfl ?_
  refine n_ild (pc := 676) rfl (HR.big H1 px) rfl (by omega) (by omega) ?_
  refine q_aload_n (pc := 677) rfl rfl rfl ?_
  refine q_iload_n (pc := 678) rfl rfl ?_
  refine q_iconst (pc := 679) rfl (nI 2) (by decide) ?_
  refine n_iadd (pc := 680) rfl ?_
  refine n_ild (pc := 681) rfl (HR.big H1 px) rfl (by omega) (by omega) ?_
  refine q_callV (pc := 682) _ rfl rfl rfl (HR.c H1 hm 54 rfl) rfl (Nat.le_of_ble_eq_true rfl) (by omega) _ rfl ?_
  refine m_nearest (by omega) H1 hm N1 K Mk1 ?_
  intro h2 s2 H2 N2 f2
  refine q_icmpeq (pc := 685) rfl (fun _ => ?_) (fun z => absurd rfl z)
  exact kk _ ⟨P, s2, _, κ, ik, tp, tz, C, E, σ, sz, cl, ⟨p1, p2, p3, p4, px⟩, H2, A1.ofh (mf_h f2), K, N2, Mk1.fr f2⟩
theorem L_share (hd : 150 ≤ d) (V : INV Ls xs M h) (hi : i + 6 ≤ Ls) (hL : Ls ≤ 3072) (kk : ∀ h', INV Ls xs M h' → wq d 214 1171 [some (.ref mx_big), some (.ref 0), some (.ref 54), some (.int (nI i))] [] h' Q) : wq d 214 690 [some (.ref mx_big), some (.ref 0), some (.ref 54), some (.int (nI i))] [] h Q := by
  obtain ⟨P, s, β, κ, ik, tp, tz, C, E, σ, sz, cl, ⟨p1, p2, p3, p4, px⟩, H, A, K, N, Mk⟩ := V
  have hl : 51 ≤ P.1 := by omega
  have hm : 75 ≤ P.1 := by omega
  refine q_aload_n (pc := 690) rfl rfl rfl ?_
  refine q_aload_n (pc := 691) rfl rfl rfl ?_
  refine q_iload_n (pc := 692) rfl rfl ?_
  refine q_iconst (pc := 693) rfl (nI 1) (by decide) ?_
  refine n_iadd (pc := 694) rfl ?_
  refine n_ild (pc := 695) rfl (HR.big H px) rfl (by omega) (by omega) ?_
  refine q_aload_n (pc := 696) rfl rfl rfl ?_
  refine q_iload_n (pc := 697) rfl rfl ?_
  refine q_iconst (pc := 698) rfl (nI 2) (by decide) ?_
  refine n_iadd (pc := 699) rfl ?_
  refine n_ild (pc := 700) rfl (HR.big H px) rfl (by omega) (by omega) ?_
  refine q_callV (pc := 701) _ rfl rfl rfl (HR.X' H hl) rfl (Nat.le_of_ble_eq_true rfl) (by omega) _ rfl ?_
  refine c_share (by omega) H hl A K ?_
  intro h1 s1 H1 A1 f1
  have N1 := N.ofc f1
  have Mk1 := Mk.cg f1
  refine q_aload_n (pc := 704) rfl rfl rfl ?_
  refine q_aload_n (pc := 705) rfl rfl rfl ?_
  refine q_iload_n (pc := 706) rfl rfl ?_
  refine q_iconst (pc := 707) rfl (nI 1) (by decide) ?_
  refine n_iadd (pc := 708) rfl ?_
  refine n_ild (pc := 709) rfl (HR.big H1 px) rfl (by omega) (by omega) ?_
  refine q_aload_n (pc := 710) rfl rfl rfl ?_
  refine q_iload_n (pc := 711) rfl rfl ?_
  refine q_iconst (pc := 712) rfl (nI 2) (by decide) ?_
  refine n_iadd (pc := 713) rfl ?_
  refine n_ild (pc := 714) rfl (HR.big H1 px) rfl (by omega) (by omega) ?_
  refine q_callV (pc := 715) _ rfl rfl rfl (HR.c H1 hm 54 rfl) rfl (Nat.le_of_ble_eq_true rfl) (by omega) _ rfl ?_
  refine m_share (by omega) H1 hm N1 K ?_
  intro h2 s2 H2 N2 f2
  refine q_lcmp (pc := 718) rfl ?_
  refine q_ifeq (pc := 719) rfl (fun _ => ?_) (fun z => absurd (lg_cmp0.mpr rfl) z)
  exact kk _ ⟨P, s2, _, κ, ik, tp, tz, C, E, σ, sz, cl, ⟨p1, p2, p3, p4, px⟩, H2, A1.ofh (mf_h f2), K, N2, Mk1.fr f2⟩
theorem L_tells (hd : 150 ≤ d) (V : INV Ls xs M h) (hi : i + 6 ≤ Ls) (hL : Ls ≤ 3072) (kk : ∀ h', INV Ls xs M h' → wq d 214 1171 [some (.ref mx_big), some (.ref 0), some (.ref 54), some (.int (nI i))] [] h' Q) : wq d 214 724 [some (.ref mx_big), some (.ref 0), some (.ref 54), some (.int (nI i))] [] h Q := by
  obtain ⟨P, s, β, κ, ik, tp, tz, C, E, σ, sz, cl, ⟨p1, p2, p3, p4, px⟩, H, A, K, N, Mk⟩ := V
  have hl : 51 ≤ P.1 := by omega
  have hm : 75 ≤ P.1 := by omega
  refine q_aload_n (pc := 724) rfl rfl rfl ?_
  refine q_aload_n (pc := 725) rfl rfl rfl ?_
  refine q_iload_n (pc := 726) rfl rfl ?_
  refine q_iconst (pc := 727) rfl (nI 1) (by decide) ?_
  refine n_iadd (pc := 728) rfl ?_
  refine n_ild (pc := 729) rfl (HR.big H px) rfl (by omega) (by omega) ?_
  refine q_aload_n (pc := 730) rfl rfl rfl ?_
  refine q_iload_n (pc := 731) rfl rfl ?_
  refine q_iconst (pc := 732) rfl (nI 2) (by decide) ?_
  refine n_iadd (pc := 733) rfl ?_
  refine n_ild (pc := 734) rfl (HR.big H px) rfl (by omega) (by omega) ?_
  refine q_aload_n (pc := 735) rfl rfl rfl ?_
  refine q_iload_n (pc := 736) rfl rfl ?_
  refine q_iconst (pc := 737) rfl (nI 3) (by decide) ?_
  refine n_iadd (pc := 738) rfl ?_
  refine n_ild (pc := 739) rfl (HR.big H px) rfl (by omega) (by omega) ?_
  refine q_callV (pc := 740) _ rfl rfl rfl (HR.X' H hl) rfl (Nat.le_of_ble_eq_true rfl) (by omega) _ rfl ?_
  refine c_tells (by omega) H hl A K ?_
  intro h1 s1 H1 A1 f1
  have N1 := N.ofc f1
  have Mk1 := Mk.cg f1
  refine q_aload_n (pc := 743) rfl rfl rfl ?_
  refine q_aload_n (pc := 744) rfl rfl rfl ?_
  refine q_iload_n (pc := 745) rfl rfl ?_
  refine q_iconst (pc := 746) rfl (nI 1) (by decide) ?_
  refine n_iadd (pc := 747) rfl ?_
  refine n_ild (pc := 748) rfl (HR.big H1 px) rfl (by omega) (by omega) ?_
  refine q_aload_n (pc := 749) rfl rfl rfl ?_
  refine q_iload_n (pc := 750) rfl rfl ?_
  refine q_iconst (pc := 751) rfl (nI 2) (by decide) ?_
  refine n_iadd (pc := 752) rfl ?_
  refine n_ild (pc := 753) rfl (HR.big H1 px) rfl (by omega) (by omega) ?_
  refine q_aload_n (pc := 754) rfl rfl rfl ?_
  refine q_iload_n (pc := 755) rfl rfl ?_
  refine q_iconst (pc := 756) rfl (nI 3) (by decide) ?_
  refine n_iadd (pc := 757) rfl ?_
  refine n_ild (pc := 758) rfl (HR.big H1 px) rfl (by omega) (by omega) ?_
  refine q_callV (pc := 759) _ rfl rfl rfl (HR.c H1 hm 54 rfl) rfl (Nat.le_of_ble_eq_true rfl) (by omega) _ rfl ?_
  refine m_tells (by omega) H1 hm N1 K Mk1 ?_
  intro h2 s2 H2 N2 f2
  refine q_icmpeq (pc := 762) rfl (fun _ => ?_) (fun z => absurd rfl z)
  exact kk _ ⟨P, s2, _, κ, ik, tp, tz, C, E, σ, sz, cl, ⟨p1, p2, p3, p4, px⟩, H2, A1.ofh (mf_h f2), K, N2, Mk1.fr f2⟩
theorem L_film (hd : 150 ≤ d) (V : INV Ls xs M h) (hi : i + 6 ≤ Ls) (hL : Ls ≤ 3072) (kk : ∀ h', INV Ls xs M h' → wq d 214 1171 [some (.ref mx_big), some (.ref 0), some (.ref 54), some (.int (nI i))] [] h' Q) : wq d 214 767 [some (.ref mx_big), some (.ref 0), some (.ref 54), some (.int (nI i))] [] h Q := by
  obtain ⟨P, s, β, κ, ik, tp, tz, C, E, σ, sz, cl, ⟨p1, p2, p3, p4, px⟩, H, A, K, N, Mk⟩ := V
  have hl : 51 ≤ P.1 := by omega
  have hm : 75 ≤ P.1 := by omega
  refine q_aload_n (pc := 767) rfl rfl rfl ?_
  refine q_aload_n (pc := 768) rfl rfl rfl ?_
  refine q_iload_n (pc := 769) rfl rfl ?_
  refine q_iconst (pc := 770) rfl (nI 1) (by decide) ?_
  refine n_iadd (pc := 771) rfl ?_
  refine n_ild (pc := 772) rfl (HR.big H px) rfl (by omega) (by omega) ?_
  refine q_aload_n (pc := 773) rfl rfl rfl ?_
  refine q_iload_n (pc := 774) rfl rfl ?_
  refine q_iconst (pc := 775) rfl (nI 2) (by decide) ?_
  refine n_iadd (pc := 776) rfl ?_
  refine n_ild (pc := 777) rfl (HR.big H px) rfl (by omega) (by omega) ?_
  refine q_aload_n (pc := 778) rfl rfl rfl ?_
  refine q_iload_n (pc := 779) rfl rfl ?_
  refine q_iconst (pc := 780) rfl (nI 3) (by decide) ?_
  refine n_iadd (pc := 781) rfl ?_
  refine n_ild (pc := 782) rfl (HR.big H px) rfl (by omega) (by omega) ?_
  refine q_callV (pc := 783) _ rfl rfl rfl (HR.X' H hl) rfl (Nat.le_of_ble_eq_true rfl) (by omega) _ rfl ?_
  refine c_film (by omega) H hl A K ?_
  intro h1 s1 T1 eT H1 A1 K1 f1
  have N1 := N.ofc f1
  have Mk1 := Mk.cg f1
  refine q_aload_n (pc := 786) rfl rfl rfl ?_
  refine q_aload_n (pc := 787) rfl rfl rfl ?_
  refine q_iload_n (pc := 788) rfl rfl ?_
  refine q_iconst (pc := 789) rfl (nI 1) (by decide) ?_
  refine n_iadd (pc := 790) rfl ?_
  refine n_ild (pc := 791) rfl (HR.big H1 px) rfl (by omega) (by omega) ?_
  refine q_aload_n (pc := 792) rfl rfl rfl ?_
  refine q_iload_n (pc := 793) rfl rfl ?_
  refine q_iconst (pc := 794) rfl (nI 2) (by decide) ?_
  refine n_iadd (pc := 795) rfl ?_
  refine n_ild (pc := 796) rfl (HR.big H1 px) rfl (by omega) (by omega) ?_
  refine q_aload_n (pc := 797) rfl rfl rfl ?_
  refine q_iload_n (pc := 798) rfl rfl ?_
  refine q_iconst (pc := 799) rfl (nI 3) (by decide) ?_
  refine n_iadd (pc := 800) rfl ?_
  refine n_ild (pc := 801) rfl (HR.big H1 px) rfl (by omega) (by omega) ?_
  refine q_callV (pc := 802) _ rfl rfl rfl (HR.c H1 hm 54 rfl) rfl (Nat.le_of_ble_eq_true rfl) (by omega) _ rfl ?_
  refine m_film (by omega) H1 hm N1 K Mk1 ?_
  intro h2 s2 T2 eT2 H2 N2 Mk2 f2
  subst eT2
  subst eT
  refine q_icmpeq (pc := 805) rfl (fun _ => ?_) (fun z => absurd rfl z)
  exact kk _ ⟨P, s2, _, κ, ik, tp, tz, C, E, _, _, _, ⟨p1, p2, p3, p4, px⟩, H2, A1.ofh f2, K1, N2, Mk2⟩
theorem L_drawn (hd : 150 ≤ d) (V : INV Ls xs M h) (hi : i + 6 ≤ Ls) (hL : Ls ≤ 3072) (kk : ∀ h', INV Ls xs M h' → wq d 214 1171 [some (.ref mx_big), some (.ref 0), some (.ref 54), some (.int (nI i))] [] h' Q) : wq d 214 810 [some (.ref mx_big), some (.ref 0), some (.ref 54), some (.int (nI i))] [] h Q := by
  obtain ⟨P, s, β, κ, ik, tp, tz, C, E, σ, sz, cl, ⟨p1, p2, p3, p4, px⟩, H, A, K, N, Mk⟩ := V
  have hl : 51 ≤ P.1 := by omega
  have hm : 75 ≤ P.1 := by omega
  refine q_aload_n (pc := 810) rfl rfl rfl ?_
  refine q_aload_n (pc := 811) rfl rfl rfl ?_
  refine q_iload_n (pc := 812) rfl rfl ?_
  refine q_iconst (pc := 813) rfl (nI 1) (by decide) ?_
  refine n_iadd (pc := 814) rfl ?_
  refine n_ild (pc := 815) rfl (HR.big H px) rfl (by omega) (by omega) ?_
  refine q_callV (pc := 816) _ rfl rfl rfl (HR.X' H hl) rfl (Nat.le_of_ble_eq_true rfl) (by omega) _ rfl ?_
  refine c_drawn (by omega) H hl A K ?_
  intro h1 s1 H1 A1 f1
  have N1 := N.ofc f1
  have Mk1 := Mk.cg f1
  refine q_aload_n (pc := 819) rfl rfl rfl ?_
  refine q_aload_n (pc := 820) rfl rfl rfl ?_
  refine q_iload_n (pc := 821) rfl rfl ?_
  refine q_iconst (pc := 822) rfl (nI 1) (by decide) ?_
  refine n_iadd (pc := 823) rfl ?_
  refine n_ild (pc := 824) rfl (HR.big H1 px) rfl (by omega) (by omega) ?_
  refine q_callV (pc := 825) _ rfl rfl rfl (HR.c H1 hm 54 rfl) rfl (Nat.le_of_ble_eq_true rfl) (by omega) _ rfl ?_
  refine m_drawn (by omega) H1 hm N1 K Mk1 ?_
  intro h2 s2 H2 N2 f2
  refine q_icmpeq (pc := 828) rfl (fun _ => ?_) (fun z => absurd rfl z)
  exact kk _ ⟨P, s2, _, κ, ik, tp, tz, C, E, σ, sz, cl, ⟨p1, p2, p3, p4, px⟩, H2, A1.ofh (mf_h f2), K, N2, Mk1.fr f2⟩
theorem L_chance (hd : 150 ≤ d) (V : INV Ls xs M h) (hi : i + 6 ≤ Ls) (hL : Ls ≤ 3072) (kk : ∀ h', INV Ls xs M h' → wq d 214 1171 [some (.ref mx_big), some (.ref 0), some (.ref 54), some (.int (nI i))] [] h' Q) : wq d 214 833 [some (.ref mx_big), some (.ref 0), some (.ref 54), some (.int (nI i))] [] h Q := by
  obtain ⟨P, s, β, κ, ik, tp, tz, C, E, σ, sz, cl, ⟨p1, p2, p3, p4, px⟩, H, A, K, N, Mk⟩ := V
  have hl : 51 ≤ P.1 := by omega
  have hm : 75 ≤ P.1 := by omega
  refine q_aload_n (pc := 833) rfl rfl rfl ?_
  refine q_aload_n (pc := 834) rfl rfl rfl ?_
  refine q_iload_n (pc := 835) rfl rfl ?_
  refine q_iconst (pc := 836) rfl (nI 1) (by decide) ?_
  refine n_iadd (pc := 837) rfl ?_
  refine n_ild (pc := 838) rfl (HR.big H px) rfl (by omega) (by omega) ?_
  refine q_aload_n (pc := 839) rfl rfl rfl ?_
  refine q_iload_n (pc := 840) rfl rfl ?_
  refine q_iconst (pc := 841) rfl (nI 2) (by decide) ?_
  refine n_iadd (pc := 842) rfl ?_
  refine n_ild (pc := 843) rfl (HR.big H px) rfl (by omega) (by omega) ?_
  refine q_aload_n (pc := 844) rfl rfl rfl ?_
  refine q_iload_n (pc := 845) rfl rfl ?_
  refine q_iconst (pc := 846) rfl (nI 3) (by decide) ?_
  refine n_iadd (pc := 847) rfl ?_
  refine n_ild (pc := 848) rfl (HR.big H px) rfl (by omega) (by omega) ?_
  refine q_aload_n (pc := 849) rfl rfl rfl ?_
  refine q_iload_n (pc := 850) rfl rfl ?_
  refine q_iconst (pc := 851) rfl (nI 4) (by decide) ?_
  refine n_iadd (pc := 852) rfl ?_
  refine n_ild (pc := 853) rfl (HR.big H px) rfl (by omega) (by omega) ?_
  refine q_callV (pc := 854) _ rfl rfl rfl (HR.X' H hl) rfl (Nat.le_of_ble_eq_true rfl) (by omega) _ rfl ?_
  refine c_chance (by omega) H hl A K ?_
  intro h1 s1 H1 A1 f1
  have N1 := N.ofc f1
  have Mk1 := Mk.cg f1
  refine q_aload_n (pc := 857) rfl rfl rfl ?_
  refine q_aload_n (pc := 858) rfl rfl rfl ?_
  refine q_iload_n (pc := 859) rfl rfl ?_
  refine q_iconst (pc := 860) rfl (nI 1) (by decide) ?_
  refine n_iadd (pc := 861) rfl ?_
  refine n_ild (pc := 862) rfl (HR.big H1 px) rfl (by omega) (by omega) ?_
  refine q_aload_n (pc := 863) rfl rfl rfl ?_
  refine q_iload_n (pc := 864) rfl rfl ?_
  refine q_iconst (pc := 865) rfl (nI 2) (by decide) ?_
  refine n_iadd (pc := 866) rfl ?_
  refine n_ild (pc := 867) rfl (HR.big H1 px) rfl (by omega) (by omega) ?_
  refine q_aload_n (pc := 868) rfl rfl rfl ?_
  refine q_iload_n (pc := 869) rfl rfl ?_
  refine q_iconst (pc := 870) rfl (nI 3) (by decide) ?_
  refine n_iadd (pc := 871) rfl ?_
  refine n_ild (pc := 872) rfl (HR.big H1 px) rfl (by omega) (by omega) ?_
  refine q_aload_n (pc := 873) rfl rfl rfl ?_
  refine q_iload_n (pc := 874) rfl rfl ?_
  refine q_iconst (pc := 875) rfl (nI 4) (by decide) ?_
  refine n_iadd (pc := 876) rfl ?_
  refine n_ild (pc := 877) rfl (HR.big H1 px) rfl (by omega) (by omega) ?_
  refine q_callV (pc := 878) _ rfl rfl rfl (HR.c H1 hm 54 rfl) rfl (Nat.le_of_ble_eq_true rfl) (by omega) _ rfl ?_
  refine m_chance (by omega) H1 hm N1 K Mk1 ?_
  intro h2 s2 H2 N2 f2
  refine q_lcmp (pc := 881) rfl ?_
  refine q_ifeq (pc := 882) rfl (fun _ => ?_) (fun z => absurd (lg_cmp0.mpr rfl) z)
  exact kk _ ⟨P, s2, _, κ, ik, tp, tz, C, E, σ, sz, cl, ⟨p1, p2, p3, p4, px⟩, H2, A1.ofh (mf_h f2), K, N2, Mk1.fr f2⟩
theorem L_image (hd : 150 ≤ d) (V : INV Ls xs M h) (hi : i + 6 ≤ Ls) (hL : Ls ≤ 3072) (kk : ∀ h', INV Ls xs M h' → wq d 214 1171 [some (.ref mx_big), some (.ref 0), some (.ref 54), some (.int (nI i))] [] h' Q) : wq d 214 887 [some (.ref mx_big), some (.ref 0), some (.ref 54), some (.int (nI i))] [] h Q := by
  obtain ⟨P, s, β, κ, ik, tp, tz, C, E, σ, sz, cl, ⟨p1, p2, p3, p4, px⟩, H, A, K, N, Mk⟩ := V
  have hl : 51 ≤ P.1 := by omega
  have hm : 75 ≤ P.1 := by omega
  refine q_aload_n (pc := 887) rfl rfl rfl ?_
  refine q_callV (pc := 888) _ rfl rfl rfl (HR.X' H hl) rfl (Nat.le_of_ble_eq_true rfl) (by omega) _ rfl ?_
  refine c_image (by omega) H hl A K ?_
  intro h1 s1 H1 A1 K1 f1
  have N1 := N.ofc f1
  have Mk1 := Mk.cg f1
  refine q_aload_n (pc := 891) rfl rfl rfl ?_
  refine q_callV (pc := 892) _ rfl rfl rfl (HR.c H1 hm 54 rfl) rfl (Nat.le_of_ble_eq_true rfl) (by omega) _ rfl ?_
  refine m_image (by omega) H1 hm N1 K Mk1 ?_
  intro h2 s2 H2 N2 Mk2 f2
  refine q_icmpeq (pc := 895) rfl (fun _ => ?_) (fun z => absurd rfl z)
  exact kk _ ⟨P, s2, _, _, _, tp, tz, C, E, σ, sz, cl, ⟨p1, p2, p3, p4, px⟩, H2, A1.ofh (f2.mono (fun i g => by unfold hS; omega)), K1, N2, Mk2⟩
theorem L_back (hd : 150 ≤ d) (V : INV Ls xs M h) (hi : i + 6 ≤ Ls) (hL : Ls ≤ 3072) (kk : ∀ h', INV Ls xs M h' → wq d 214 1171 [some (.ref mx_big), some (.ref 0), some (.ref 54), some (.int (nI i))] [] h' Q) : wq d 214 900 [some (.ref mx_big), some (.ref 0), some (.ref 54), some (.int (nI i))] [] h Q := by
  obtain ⟨P, s, β, κ, ik, tp, tz, C, E, σ, sz, cl, ⟨p1, p2, p3, p4, px⟩, H, A, K, N, Mk⟩ := V
  have hl : 51 ≤ P.1 := by omega
  have hm : 75 ≤ P.1 := by omega
  refine q_aload_n (pc := 900) rfl rfl rfl ?_
  refine q_callV (pc := 901) _ rfl rfl rfl (HR.X' H hl) rfl (Nat.le_of_ble_eq_true rfl) (by omega) _ rfl ?_
  refine c_back (by omega) H hl A K ?_
  intro h1 s1 β1 eβ H1 A1 K1 f1
  have N1 := N.ofc f1
  have Mk1 := Mk.cg f1
  refine q_aload_n (pc := 904) rfl rfl rfl ?_
  refine q_callV (pc := 905) _ rfl rfl rfl (HR.c H1 hm 54 rfl) rfl (Nat.le_of_ble_eq_true rfl) (by omega) _ rfl ?_
  refine m_back (by omega) H1 hm N1 K Mk1 ?_
  intro h2 s2 H2 N2 f2
  subst eβ
  refine q_icmpeq (pc := 908) rfl (fun _ => ?_) (fun z => absurd rfl z)
  exact kk _ ⟨P, s2, _, κ, ik, tp, tz, C, E, σ, sz, cl, ⟨p1, p2, p3, p4, px⟩, H2, A1.ofh (mf_h f2), K1, N2, Mk1.fr f2⟩
theorem L_count (hd : 150 ≤ d) (V : INV Ls xs M h) (hi : i + 6 ≤ Ls) (hL : Ls ≤ 3072) (kk : ∀ h', INV Ls xs M h' → wq d 214 1171 [some (.ref mx_big), some (.ref 0), some (.ref 54), some (.int (nI i))] [] h' Q) : wq d 214 913 [some (.ref mx_big), some (.ref 0), some (.ref 54), some (.int (nI i))] [] h Q := by
  obtain ⟨P, s, β, κ, ik, tp, tz, C, E, σ, sz, cl, ⟨p1, p2, p3, p4, px⟩, H, A, K, N, Mk⟩ := V
  have hl : 51 ≤ P.1 := by omega
  have hm : 75 ≤ P.1 := by omega
  refine q_aload_n (pc := 913) rfl rfl rfl ?_
  refine q_aload_n (pc := 914) rfl rfl rfl ?_
  refine q_iload_n (pc := 915) rfl rfl ?_
  refine q_iconst (pc := 916) rfl (nI 1) (by decide) ?_
  refine n_iadd (pc := 917) rfl ?_
  refine n_ild (pc := 918) rfl (HR.big H px) rfl (by omega) (by omega) ?_
  refine q_callV (pc := 919) _ rfl rfl rfl (HR.X' H hl) rfl (Nat.le_of_ble_eq_true rfl) (by omega) _ rfl ?_
  refine c_count (by omega) H hl A K ?_
  intro h1 s1 H1 A1 f1
  have N1 := N.ofc f1
  have Mk1 := Mk.cg f1
  refine q_aload_n (pc := 922) rfl rfl rfl ?_
  refine q_aload_n (pc := 923) rfl rfl rfl ?_
  refine q_iload_n (pc := 924) rfl rfl ?_
  refine q_iconst (pc := 925) rfl (nI 1) (by decide) ?_
  refine n_iadd (pc := 926) rfl ?_
  refine n_ild (pc := 927) rfl (HR.big H1 px) rfl (by omega) (by omega) ?_
  refine q_callV (pc := 928) _ rfl rfl rfl (HR.c H1 hm 54 rfl) rfl (Nat.le_of_ble_eq_true rfl) (by omega) _ rfl ?_
  refine m_count (by omega) H1 hm N1 K Mk1 ?_
  intro h2 s2 H2 N2 f2
  refine q_icmpeq (pc := 931) rfl (fun _ => ?_) (fun z => absurd rfl z)
  exact kk _ ⟨P, s2, _, κ, ik, tp, tz, C, E, σ, sz, cl, ⟨p1, p2, p3, p4, px⟩, H2, A1.ofh (mf_h f2), K, N2, Mk1.fr f2⟩
theorem L_sheet (hd : 150 ≤ d) (V : INV Ls xs M h) (hi : i + 6 ≤ Ls) (hL : Ls ≤ 3072) (kk : ∀ h', INV Ls xs M h' → wq d 214 1171 [some (.ref mx_big), some (.ref 0), some (.ref 54), some (.int (nI i))] [] h' Q) : wq d 214 936 [some (.ref mx_big), some (.ref 0), some (.ref 54), some (.int (nI i))] [] h Q := by
  obtain ⟨P, s, β, κ, ik, tp, tz, C, E, σ, sz, cl, ⟨p1, p2, p3, p4, px⟩, H, A, K, N, Mk⟩ := V
  have hl : 51 ≤ P.1 := by omega
  have hm : 75 ≤ P.1 := by omega
  refine q_aload_n (pc := 936) rfl rfl rfl ?_
  refine q_aload_n (pc := 937) rfl rfl rfl ?_
  refine q_iload_n (pc := 938) rfl rfl ?_
  refine q_iconst (pc := 939) rfl (nI 1) (by decide) ?_
  refine n_iadd (pc := 940) rfl ?_
  refine n_ild (pc := 941) rfl (HR.big H px) rfl (by omega) (by omega) ?_
  refine q_aload_n (pc := 942) rfl rfl rfl ?_
  refine q_iload_n (pc := 943) rfl rfl ?_
  refine q_iconst (pc := 944) rfl (nI 2) (by decide) ?_
  refine n_iadd (pc := 945) rfl ?_
  refine n_ild (pc := 946) rfl (HR.big H px) rfl (by omega) (by omega) ?_
  refine q_aload_n (pc := 947) rfl rfl rfl ?_
  refine q_iload_n (pc := 948) rfl rfl ?_
  refine q_iconst (pc := 949) rfl (nI 3) (by decide) ?_
  refine n_iadd (pc := 950) rfl ?_
  refine n_ild (pc := 951) rfl (HR.big H px) rfl (by omega) (by omega) ?_
  refine q_callV (pc := 952) _ rfl rfl rfl (HR.X' H hl) rfl (Nat.le_of_ble_eq_true rfl) (by omega) _ rfl ?_
  refine c_sheet (by omega) H hl A K ?_
  intro h1 s1 T1 eT H1 A1 K1 f1
  have N1 := N.ofc f1
  have Mk1 := Mk.cg f1
  refine q_aload_n (pc := 955) rfl rfl rfl ?_
  refine q_aload_n (pc := 956) rfl rfl rfl ?_
  refine q_iload_n (pc := 957) rfl rfl ?_
  refine q_iconst (pc := 958) rfl (nI 1) (by decide) ?_
  refine n_iadd (pc := 959) rfl ?_
  refine n_ild (pc := 960) rfl (HR.big H1 px) rfl (by omega) (by omega) ?_
  refine q_aload_n (pc := 961) rfl rfl rfl ?_
  refine q_iload_n (pc := 962) rfl rfl ?_
  refine q_iconst (pc := 963) rfl (nI 2) (by decide) ?_
  refine n_iadd (pc := 964) rfl ?_
  refine n_ild (pc := 965) rfl (HR.big H1 px) rfl (by omega) (by omega) ?_
  refine q_aload_n (pc := 966) rfl rfl rfl ?_
  refine q_iload_n (pc := 967) rfl rfl ?_
  refine q_iconst (pc := 968) rfl (nI 3) (by decide) ?_
  refine n_iadd (pc := 969) rfl ?_
  refine n_ild (pc := 970) rfl (HR.big H1 px) rfl (by omega) (by omega) ?_
  refine q_callV (pc := 971) _ rfl rfl rfl (HR.c H1 hm 54 rfl) rfl (Nat.le_of_ble_eq_true rfl) (by omega) _ rfl ?_
  refine m_sheet (by omega) H1 hm N1 K Mk1 ?_
  intro h2 s2 T2 eT2 H2 N2 Mk2 f2
  subst eT2
  subst eT
  refine q_icmpeq (pc := 974) rfl (fun _ => ?_) (fun z => absurd rfl z)
  exact kk _ ⟨P, s2, _, κ, ik, tp, tz, C, E, _, _, _, ⟨p1, p2, p3, p4, px⟩, H2, A1.ofh f2, K1, N2, Mk2⟩
theorem L_cell (hd : 150 ≤ d) (V : INV Ls xs M h) (hi : i + 6 ≤ Ls) (hL : Ls ≤ 3072) (kk : ∀ h', INV Ls xs M h' → wq d 214 1171 [some (.ref mx_big), some (.ref 0), some (.ref 54), some (.int (nI i))] [] h' Q) : wq d 214 979 [some (.ref mx_big), some (.ref 0), some (.ref 54), some (.int (nI i))] [] h Q := by
  obtain ⟨P, s, β, κ, ik, tp, tz, C, E, σ, sz, cl, ⟨p1, p2, p3, p4, px⟩, H, A, K, N, Mk⟩ := V
  have hl : 51 ≤ P.1 := by omega
  have hm : 75 ≤ P.1 := by omega
  refine q_aload_n (pc := 979) rfl rfl rfl ?_
  refine q_aload_n (pc := 980) rfl rfl rfl ?_
  refine q_iload_n (pc := 981) rfl rfl ?_
  refine q_iconst (pc := 982) rfl (nI 1) (by decide) ?_
  refine n_iadd (pc := 983) rfl ?_
  refine n_ild (pc := 984) rfl (HR.big H px) rfl (by omega) (by omega) ?_
  refine q_aload_n (pc := 985) rfl rfl rfl ?_
  refine q_iload_n (pc := 986) rfl rfl ?_
  refine q_iconst (pc := 987) rfl (nI 2) (by decide) ?_
  refine n_iadd (pc := 988) rfl ?_
  refine n_ild (pc := 989) rfl (HR.big H px) rfl (by omega) (by omega) ?_
  refine q_aload_n (pc := 990) rfl rfl rfl ?_
  refine q_iload_n (pc := 991) rfl rfl ?_
  refine q_iconst (pc := 992) rfl (nI 3) (by decide) ?_
  refine n_iadd (pc := 993) rfl ?_
  refine n_ild (pc := 994) rfl (HR.big H px) rfl (by omega) (by omega) ?_
  refine q_callV (pc := 995) _ rfl rfl rfl (HR.X' H hl) rfl (Nat.le_of_ble_eq_true rfl) (by omega) _ rfl ?_
  refine c_cell (by omega) H hl A K ?_
  intro h1 s1 T1 eT H1 A1 K1 f1
  have N1 := N.ofc f1
  have Mk1 := Mk.cg f1
  refine q_aload_n (pc := 998) rfl rfl rfl ?_
  refine q_aload_n (pc := 999) rfl rfl rfl ?_
  refine q_iload_n (pc := 1000) rfl rfl ?_
  refine q_iconst (pc := 1001) rfl (nI 1) (by decide) ?_
  refine n_iadd (pc := 1002) rfl ?_
  refine n_ild (pc := 1003) rfl (HR.big H1 px) rfl (by omega) (by omega) ?_
  refine q_aload_n (pc := 1004) rfl rfl rfl ?_
  refine q_iload_n (pc := 1005) rfl rfl ?_
  refine q_iconst (pc := 1006) rfl (nI 2) (by decide) ?_
  refine n_iadd (pc := 1007) rfl ?_
  refine n_ild (pc := 1008) rfl (HR.big H1 px) rfl (by omega) (by omega) ?_
  refine q_aload_n (pc := 1009) rfl rfl rfl ?_
  refine q_iload_n (pc := 1010) rfl rfl ?_
  refine q_iconst (pc := 1011) rfl (nI 3) (by decide) ?_
  refine n_iadd (pc := 1012) rfl ?_
  refine n_ild (pc := 1013) rfl (HR.big H1 px) rfl (by omega) (by omega) ?_
  refine q_callV (pc := 1014) _ rfl rfl rfl (HR.c H1 hm 54 rfl) rfl (Nat.le_of_ble_eq_true rfl) (by omega) _ rfl ?_
  refine m_cell (by omega) H1 hm N1 K Mk1 ?_
  intro h2 s2 T2 eT2 H2 N2 Mk2 f2
  subst eT2
  subst eT
  refine q_icmpeq (pc := 1017) rfl (fun _ => ?_) (fun z => absurd rfl z)
  exact kk _ ⟨P, s2, _, κ, ik, tp, tz, C, E, _, _, _, ⟨p1, p2, p3, p4, px⟩, H2, A1.ofh f2, K1, N2, Mk2⟩
theorem L_copy (hd : 150 ≤ d) (V : INV Ls xs M h) (hi : i + 6 ≤ Ls) (hL : Ls ≤ 3072) (kk : ∀ h', INV Ls xs M h' → wq d 214 1171 [some (.ref mx_big), some (.ref 0), some (.ref 54), some (.int (nI i))] [] h' Q) : wq d 214 1022 [some (.ref mx_big), some (.ref 0), some (.ref 54), some (.int (nI i))] [] h Q := by
  obtain ⟨P, s, β, κ, ik, tp, tz, C, E, σ, sz, cl, ⟨p1, p2, p3, p4, px⟩, H, A, K, N, Mk⟩ := V
  have hl : 51 ≤ P.1 := by omega
  have hm : 75 ≤ P.1 := by omega
  refine q_aload_n (pc := 1022) rfl rfl rfl ?_
  refine q_aload_n (pc := 1023) rfl rfl rfl ?_
  refine q_iload_n (pc := 1024) rfl rfl ?_
  refine q_iconst (pc := 1025) rfl (nI 1) (by decide) ?_
  refine n_iadd (pc := 1026) rfl ?_
  refine n_ild (pc := 1027) rfl (HR.big H px) rfl (by omega) (by omega) ?_
  refine q_aload_n (pc := 1028) rfl rfl rfl ?_
  refine q_iload_n (pc := 1029) rfl rfl ?_
  refine q_iconst (pc := 1030) rfl (nI 2) (by decide) ?_
  refine n_iadd (pc := 1031) rfl ?_
  refine n_ild (pc := 1032) rfl (HR.big H px) rfl (by omega) (by omega) ?_
  refine q_aload_n (pc := 1033) rfl rfl rfl ?_
  refine q_iload_n (pc := 1034) rfl rfl ?_
  refine q_iconst (pc := 1035) rfl (nI 3) (by decide) ?_
  refine n_iadd (pc := 1036) rfl ?_
  refine n_ild (pc := 1037) rfl (HR.big H px) rfl (by omega) (by omega) ?_
  refine q_aload_n (pc := 1038) rfl rfl rfl ?_
  refine q_iload_n (pc := 1039) rfl rfl ?_
  refine q_iconst (pc := 1040) rfl (nI 4) (by decide) ?_
  refine n_iadd (pc := 1041) rfl ?_
  refine n_ild (pc := 1042) rfl (HR.big H px) rfl (by omega) (by omega) ?_
  refine q_aload_n (pc := 1043) rfl rfl rfl ?_
  refine q_iload_n (pc := 1044) rfl rfl ?_
  refine q_iconst (pc := 1045) rfl (nI 5) (by decide) ?_
  refine n_iadd (pc := 1046) rfl ?_
  refine n_ild (pc := 1047) rfl (HR.big H px) rfl (by omega) (by omega) ?_
  refine q_callV (pc := 1048) _ rfl rfl rfl (HR.X' H hl) rfl (Nat.le_of_ble_eq_true rfl) (by omega) _ rfl ?_
  refine c_copy (by omega) H hl A K ?_
  intro h1 s1 T1 eT H1 A1 K1 f1
  have N1 := N.ofc f1
  have Mk1 := Mk.cg f1
  refine q_aload_n (pc := 1051) rfl rfl rfl ?_
  refine q_aload_n (pc := 1052) rfl rfl rfl ?_
  refine q_iload_n (pc := 1053) rfl rfl ?_
  refine q_iconst (pc := 1054) rfl (nI 1) (by decide) ?_
  refine n_iadd (pc := 1055) rfl ?_
  refine n_ild (pc := 1056) rfl (HR.big H1 px) rfl (by omega) (by omega) ?_
  refine q_aload_n (pc := 1057) rfl rfl rfl ?_
  refine q_iload_n (pc := 1058) rfl rfl ?_
  refine q_iconst (pc := 1059) rfl (nI 2) (by decide) ?_
  refine n_iadd (pc := 1060) rfl ?_
  refine n_ild (pc := 1061) rfl (HR.big H1 px) rfl (by omega) (by omega) ?_
  refine q_aload_n (pc := 1062) rfl rfl rfl ?_
  refine q_iload_n (pc := 1063) rfl rfl ?_
  refine q_iconst (pc := 1064) rfl (nI 3) (by decide) ?_
  refine n_iadd (pc := 1065) rfl ?_
  refine n_ild (pc := 1066) rfl (HR.big H1 px) rfl (by omega) (by omega) ?_
  refine q_aload_n (pc := 1067) rfl rfl rfl ?_
  refine q_iload_n (pc := 1068) rfl rfl ?_
  refine q_iconst (pc := 1069) rfl (nI 4) (by decide) ?_
  refine n_iadd (pc := 1070) rfl ?_
  refine n_ild (pc := 1071) rfl (HR.big H1 px) rfl (by omega) (by omega) ?_
  refine q_aload_n (pc := 1072) rfl rfl rfl ?_
  refine q_iload_n (pc := 1073) rfl rfl ?_
  refine q_iconst (pc := 1074) rfl (nI 5) (by decide) ?_
  refine n_iadd (pc := 1075) rfl ?_
  refine n_ild (pc := 1076) rfl (HR.big H1 px) rfl (by omega) (by omega) ?_
  refine q_callV (pc := 1077) _ rfl rfl rfl (HR.c H1 hm 54 rfl) rfl (Nat.le_of_ble_eq_true rfl) (by omega) _ rfl ?_
  refine m_copy (by omega) H1 hm N1 K Mk1 ?_
  intro h2 s2 T2 eT2 H2 N2 Mk2 f2
  subst eT2
  subst eT
  refine q_icmpeq (pc := 1080) rfl (fun _ => ?_) (fun z => absurd rfl z)
  exact kk _ ⟨P, s2, _, κ, ik, tp, tz, C, E, _, _, _, ⟨p1, p2, p3, p4, px⟩, H2, A1.ofh f2, K1, N2, Mk2⟩
theorem L_crew (hd : 150 ≤ d) (V : INV Ls xs M h) (hi : i + 6 ≤ Ls) (hL : Ls ≤ 3072) (kk : ∀ h', INV Ls xs M h' → wq d 214 1171 [some (.ref mx_big), some (.ref 0), some (.ref 54), some (.int (nI i))] [] h' Q) : wq d 214 1085 [some (.ref mx_big), some (.ref 0), some (.ref 54), some (.int (nI i))] [] h Q := by
  obtain ⟨P, s, β, κ, ik, tp, tz, C, E, σ, sz, cl, ⟨p1, p2, p3, p4, px⟩, H, A, K, N, Mk⟩ := V
  have hl : 51 ≤ P.1 := by omega
  have hm : 75 ≤ P.1 := by omega
  refine q_aload_n (pc := 1085) rfl rfl rfl ?_
  refine q_aload_n (pc := 1086) rfl rfl rfl ?_
  refine q_iload_n (pc := 1087) rfl rfl ?_
  refine q_iconst (pc := 1088) rfl (nI 1) (by decide) ?_
  refine n_iadd (pc := 1089) rfl ?_
  refine n_ild (pc := 1090) rfl (HR.big H px) rfl (by omega) (by omega) ?_
  refine q_aload_n (pc := 1091) rfl rfl rfl ?_
  refine q_iload_n (pc := 1092) rfl rfl ?_
  refine q_iconst (pc := 1093) rfl (nI 2) (by decide) ?_
  refine n_iadd (pc := 1094) rfl ?_
  refine n_ild (pc := 1095) rfl (HR.big H px) rfl (by omega) (by omega) ?_
  refine q_aload_n (pc := 1096) rfl rfl rfl ?_
  refine q_iload_n (pc := 1097) rfl rfl ?_
  refine q_iconst (pc := 1098) rfl (nI 3) (by decide) ?_
  refine n_iadd (pc := 1099) rfl ?_
  refine n_ild (pc := 1100) rfl (HR.big H px) rfl (by omega) (by omega) ?_
  refine q_aload_n (pc := 1101) rfl rfl rfl ?_
  refine q_iload_n (pc := 1102) rfl rfl ?_
  refine q_iconst (pc := 1103) rfl (nI 4) (by decide) ?_
  refine n_iadd (pc := 1104) rfl ?_
  refine n_ild (pc := 1105) rfl (HR.big H px) rfl (by omega) (by omega) ?_
  refine q_callV (pc := 1106) _ rfl rfl rfl (HR.X' H hl) rfl (Nat.le_of_ble_eq_true rfl) (by omega) _ rfl ?_
  refine c_crew (by omega) H hl A K ?_
  intro h1 s1 β1 eβ H1 A1 K1 f1
  have N1 := N.ofc f1
  have Mk1 := Mk.cg f1
  refine q_aload_n (pc := 1109) rfl rfl rfl ?_
  refine q_aload_n (pc := 1110) rfl rfl rfl ?_
  refine q_iload_n (pc := 1111) rfl rfl ?_
  refine q_iconst (pc := 1112) rfl (nI 1) (by decide) ?_
  refine n_iadd (pc := 1113) rfl ?_
  refine n_ild (pc := 1114) rfl (HR.big H1 px) rfl (by omega) (by omega) ?_
  refine q_aload_n (pc := 1115) rfl rfl rfl ?_
  refine q_iload_n (pc := 1116) rfl rfl ?_
  refine q_iconst (pc := 1117) rfl (nI 2) (by decide) ?_
  refine n_iadd (pc := 1118) rfl ?_
  refine n_ild (pc := 1119) rfl (HR.big H1 px) rfl (by omega) (by omega) ?_
  refine q_aload_n (pc := 1120) rfl rfl rfl ?_
  refine q_iload_n (pc := 1121) rfl rfl ?_
  refine q_iconst (pc := 1122) rfl (nI 3) (by decide) ?_
  refine n_iadd (pc := 1123) rfl ?_
  refine n_ild (pc := 1124) rfl (HR.big H1 px) rfl (by omega) (by omega) ?_
  refine q_aload_n (pc := 1125) rfl rfl rfl ?_
  refine q_iload_n (pc := 1126) rfl rfl ?_
  refine q_iconst (pc := 1127) rfl (nI 4) (by decide) ?_
  refine n_iadd (pc := 1128) rfl ?_
  refine n_ild (pc := 1129) rfl (HR.big H1 px) rfl (by omega) (by omega) ?_
  refine q_callV (pc := 1130) _ rfl rfl rfl (HR.c H1 hm 54 rfl) rfl (Nat.le_of_ble_eq_true rfl) (by omega) _ rfl ?_
  refine m_crew (by omega) H1 hm N1 K Mk1 ?_
  intro h2 s2 H2 N2 f2
  subst eβ
  refine q_icmpeq (pc := 1133) rfl (fun _ => ?_) (fun z => absurd rfl z)
  exact kk _ ⟨P, s2, _, κ, ik, tp, tz, C, E, σ, sz, cl, ⟨p1, p2, p3, p4, px⟩, H2, A1.ofh (mf_h f2), K1, N2, Mk1.fr f2⟩
theorem L_taken (hd : 150 ≤ d) (V : INV Ls xs M h) (hi : i + 6 ≤ Ls) (hL : Ls ≤ 3072) (kk : ∀ h', INV Ls xs M h' → wq d 214 1171 [some (.ref mx_big), some (.ref 0), some (.ref 54), some (.int (nI i))] [] h' Q) : wq d 214 1138 [some (.ref mx_big), some (.ref 0), some (.ref 54), some (.int (nI i))] [] h Q := by
  obtain ⟨P, s, β, κ, ik, tp, tz, C, E, σ, sz, cl, ⟨p1, p2, p3, p4, px⟩, H, A, K, N, Mk⟩ := V
  have hl : 51 ≤ P.1 := by omega
  have hm : 75 ≤ P.1 := by omega
  refine q_aload_n (pc := 1138) rfl rfl rfl ?_
  refine q_aload_n (pc := 1139) rfl rfl rfl ?_
  refine q_iload_n (pc := 1140) rfl rfl ?_
  refine q_iconst (pc := 1141) rfl (nI 1) (by decide) ?_
  refine n_iadd (pc := 1142) rfl ?_
  refine n_ild (pc := 1143) rfl (HR.big H px) rfl (by omega) (by omega) ?_
  refine q_aload_n (pc := 1144) rfl rfl rfl ?_
  refine q_iload_n (pc := 1145) rfl rfl ?_
  refine q_iconst (pc := 1146) rfl (nI 2) (by decide) ?_
  refine n_iadd (pc := 1147) rfl ?_
  refine n_ild (pc := 1148) rfl (HR.big H px) rfl (by omega) (by omega) ?_
  refine q_callV (pc := 1149) _ rfl rfl rfl (HR.X' H hl) rfl (Nat.le_of_ble_eq_true rfl) (by omega) _ rfl ?_
  refine c_taken (by omega) H hl A K ?_
  intro h1 s1 H1 A1 f1
  have N1 := N.ofc f1
  have Mk1 := Mk.cg f1
  refine q_aload_n (pc := 1152) rfl rfl rfl ?_
  refine q_aload_n (pc := 1153) rfl rfl rfl ?_
  refine q_iload_n (pc := 1154) rfl rfl ?_
  refine q_iconst (pc := 1155) rfl (nI 1) (by decide) ?_
  refine n_iadd (pc := 1156) rfl ?_
  refine n_ild (pc := 1157) rfl (HR.big H1 px) rfl (by omega) (by omega) ?_
  refine q_aload_n (pc := 1158) rfl rfl rfl ?_
  refine q_iload_n (pc := 1159) rfl rfl ?_
  refine q_iconst (pc := 1160) rfl (nI 2) (by decide) ?_
  refine n_iadd (pc := 1161) rfl ?_
  refine n_ild (pc := 1162) rfl (HR.big H1 px) rfl (by omega) (by omega) ?_
  refine q_callV (pc := 1163) _ rfl rfl rfl (HR.c H1 hm 54 rfl) rfl (Nat.le_of_ble_eq_true rfl) (by omega) _ rfl ?_
  refine m_taken (by omega) H1 hm N1 K Mk1 ?_
  intro h2 s2 H2 N2 f2
  refine q_icmpeq (pc := 1166) rfl (fun _ => ?_) (fun z => absurd rfl z)
  exact kk _ ⟨P, s2, _, κ, ik, tp, tz, C, E, σ, sz, cl, ⟨p1, p2, p3, p4, px⟩, H2, A1.ofh (mf_h f2), K, N2, Mk1.fr f2⟩
theorem and31 (x : Int32) : ∃ j, j < 32 ∧ x &&& nI 31 = nI j := by
  refine ⟨x.toBitVec.toNat &&& 31, ?_, ?_⟩
  · have := Nat.and_le_right (n := x.toBitVec.toNat) (m := 31)
    omega
  · apply Int32.toBitVec_inj.mp
    apply BitVec.eq_of_toNat_eq
    show x.toBitVec.toNat &&& (BitVec.ofNat 32 31).toNat = (BitVec.ofNat 32 (x.toBitVec.toNat &&& 31)).toNat
    have := Nat.and_le_right (n := x.toBitVec.toNat) (m := 31)
    rw [BitVec.toNat_ofNat, BitVec.toNat_ofNat, Nat.mod_eq_of_lt (show 31 < 2 ^ 32 by decide), Nat.mod_eq_of_lt (show x.toBitVec.toNat &&& 31 < 2 ^ 32 by omega)]
theorem L_step (hd : 150 ≤ d) (V : INV Ls xs M h) (hi : i + 6 ≤ Ls) (hL : Ls ≤ 3072) (kk : ∀ h', INV Ls xs M h' → wq d 214 1171 [some (.ref mx_big), some (.ref 0), some (.ref 54), some (.int (nI i))] [] h' Q) : wq d 214 27 [some (.ref mx_big), some (.ref 0), some (.ref 54), some (.int (nI i))] [] h Q := by
  have V0 := V
  obtain ⟨P, s, β, κ, ik, tp, tz, C, E, σ, sz, cl, ⟨p1, p2, p3, p4, px⟩, H, _⟩ := V0
  refine q_aload_n (pc := 27) rfl rfl rfl ?_
  refine q_iload_n (pc := 28) rfl rfl ?_
  refine n_ild (pc := 29) rfl (HR.big H px) rfl (by omega) (by omega) ?_
  refine q_bipush (pc := 30) rfl (nI 31) (by decide) ?_
  refine q_iand (pc := 32) rfl ?_
  obtain ⟨j, hj, e⟩ := and31 (xs i)
  rw [e]
  match j, hj with
  | 0, _ =>
    refine q_tsw (t := 168) (pc := 33) rfl (by decide) ?_
    exact L_set hd V hi hL kk
  | 1, _ =>
    refine q_tsw (t := 211) (pc := 33) rfl (by decide) ?_
    exact L_staff hd V hi hL kk
  | 2, _ =>
    refine q_tsw (t := 254) (pc := 33) rfl (by decide) ?_
    exact L_told hd V hi hL kk
  | 3, _ =>
    refine q_tsw (t := 287) (pc := 33) rfl (by decide) ?_
    exact L_asks hd V hi hL kk
  | 4, _ =>
    refine q_tsw (t := 330) (pc := 33) rfl (by decide) ?_
    exact L_feed hd V hi hL kk
  | 5, _ =>
    refine q_tsw (t := 353) (pc := 33) rfl (by decide) ?_
    exact L_text hd V hi hL kk
  | 6, _ =>
    refine q_tsw (t := 366) (pc := 33) rfl (by decide) ?_
    exact L_force hd V hi hL kk
  | 7, _ =>
    refine q_tsw (t := 389) (pc := 33) rfl (by decide) ?_
    exact L_tide hd V hi hL kk
  | 8, _ =>
    refine q_tsw (t := 412) (pc := 33) rfl (by decide) ?_
    exact L_relay hd V hi hL kk
  | 9, _ =>
    refine q_tsw (t := 445) (pc := 33) rfl (by decide) ?_
    exact L_night hd V hi hL kk
  | 10, _ =>
    refine q_tsw (t := 478) (pc := 33) rfl (by decide) ?_
    exact L_run hd V hi hL kk
  | 11, _ =>
    refine q_tsw (t := 521) (pc := 33) rfl (by decide) ?_
    exact L_wrong hd V hi hL kk
  | 12, _ =>
    refine q_tsw (t := 545) (pc := 33) rfl (by decide) ?_
    exact L_shore hd V hi hL kk
  | 13, _ =>
    refine q_tsw (t := 568) (pc := 33) rfl (by decide) ?_
    exact L_tour hd V hi hL kk
  | 14, _ =>
    refine q_tsw (t := 601) (pc := 33) rfl (by decide) ?_
    exact L_soonest hd V hi hL kk
  | 15, _ =>
    refine q_tsw (t := 634) (pc := 33) rfl (by decide) ?_
    exact L_together hd V hi hL kk
  | 16, _ =>
    refine q_tsw (t := 657) (pc := 33) rfl (by decide) ?_
    exact L_nearest hd V hi hL kk
  | 17, _ =>
    refine q_tsw (t := 690) (pc := 33) rfl (by decide) ?_
    exact L_share hd V hi hL kk
  | 18, _ =>
    refine q_tsw (t := 724) (pc := 33) rfl (by decide) ?_
    exact L_tells hd V hi hL kk
  | 19, _ =>
    refine q_tsw (t := 767) (pc := 33) rfl (by decide) ?_
    exact L_film hd V hi hL kk
  | 20, _ =>
    refine q_tsw (t := 810) (pc := 33) rfl (by decide) ?_
    exact L_drawn hd V hi hL kk
  | 21, _ =>
    refine q_tsw (t := 833) (pc := 33) rfl (by decide) ?_
    exact L_chance hd V hi hL kk
  | 22, _ =>
    refine q_tsw (t := 887) (pc := 33) rfl (by decide) ?_
    exact L_image hd V hi hL kk
  | 23, _ =>
    refine q_tsw (t := 900) (pc := 33) rfl (by decide) ?_
    exact L_back hd V hi hL kk
  | 24, _ =>
    refine q_tsw (t := 913) (pc := 33) rfl (by decide) ?_
    exact L_count hd V hi hL kk
  | 25, _ =>
    refine q_tsw (t := 936) (pc := 33) rfl (by decide) ?_
    exact L_sheet hd V hi hL kk
  | 26, _ =>
    refine q_tsw (t := 979) (pc := 33) rfl (by decide) ?_
    exact L_cell hd V hi hL kk
  | 27, _ =>
    refine q_tsw (t := 1022) (pc := 33) rfl (by decide) ?_
    exact L_copy hd V hi hL kk
  | 28, _ =>
    refine q_tsw (t := 1085) (pc := 33) rfl (by decide) ?_
    exact L_crew hd V hi hL kk
  | 29, _ =>
    refine q_tsw (t := 1138) (pc := 33) rfl (by decide) ?_
    exact L_taken hd V hi hL kk
  | 30, _ =>
    refine q_tsw (t := 1171) (pc := 33) rfl (by decide) ?_
    exact kk h V
  | 31, _ =>
    refine q_tsw (t := 1171) (pc := 33) rfl (by decide) ?_
    exact kk h V
  | n + 32, hj => exact absurd hj (by omega)
theorem sub6 (hL : Ls ≤ 3072) (hi : i ≤ 4000) : nI Ls - nI 6 < nI i ↔ Ls < i + 6 := by
  rw [Int32.lt_iff_toInt_lt, pk_sub_toInt (by omega) (by decide), nI_toInt (by omega)]
  omega
theorem L_head (hd : 150 ≤ d) (hL : Ls ≤ 3072) (hi : i ≤ 4000) (V : INV Ls xs M h) (k1 : Q (some (.int (nI 1))) h) (k2 : i + 6 ≤ Ls → ∀ h', INV Ls xs M h' → wq d 214 18 [some (.ref mx_big), some (.ref 0), some (.ref 54), some (.int (nI (i + 6)))] [] h' Q) : wq d 214 18 [some (.ref mx_big), some (.ref 0), some (.ref 54), some (.int (nI i))] [] h Q := by
  have V0 := V
  obtain ⟨P, s, β, κ, ik, tp, tz, C, E, σ, sz, cl, ⟨p1, p2, p3, p4, px⟩, H, _⟩ := V0
  obtain ⟨fx, hx, _⟩ := HR.big H px
  refine q_iload_n (pc := 18) rfl rfl ?_
  refine q_aload_n (pc := 19) rfl rfl rfl ?_
  refine q_alen (pc := 20) rfl hx (by decide) ?_
  refine q_bipush (pc := 21) rfl (nI 6) (by decide) ?_
  refine q_isub (pc := 23) rfl ?_
  refine q_icmpgt (pc := 24) rfl (fun _ => ?_) (fun g => ?_)
  · refine q_iconst (pc := 1177) rfl (nI 1) (by decide) ?_
    refine q_iret (pc := 1178) rfl (rfl) ?_
    exact k1
  · have g2 : i + 6 ≤ Ls := Nat.not_lt.mp (fun z => g ((sub6 hL hi).mpr z))
    refine L_step hd V g2 hL (fun h1 V1 => ?_)
    refine n_iinc (pc := 1171) rfl [_, _, _, _] 6 (by decide) rfl rfl ?_
    refine q_goto (pc := 1174) rfl ?_
    exact k2 g2 h1 V1
theorem L_loop (hd : 150 ≤ d) (hL : Ls ≤ 3072) (kq : ∀ h, INV Ls xs M h → Q (some (.int (nI 1))) h) (n : Nat) : ∀ (i : Nat) (h : mx_H), Ls < i + 6 * n → i ≤ Ls → INV Ls xs M h → wq d 214 18 [some (.ref mx_big), some (.ref 0), some (.ref 54), some (.int (nI i))] [] h Q := by
  induction n with
  | zero => intro i h hn hi V; exact absurd hn (by omega)
  | succ n ih => intro i h hn hi V; exact L_head hd hL (by omega) V (kq h V) (fun g2 h1 V1 => ih (i + 6) h1 (by omega) g2 V1)
end P74
