/-! ===== each step of the small machine is a step of the machine ===== -/
section MXS
variable {p : Program} {l : Launch} {e : Env} {R : Room} {s : State} {m : MethodId} {args : Array Value} {below : List Frame} {meth : Method} {c : Code} {H : Heap} {locs : List Loc} {cells slots : Nat} {Q : State → Prop}
variable {dC : Nat → ClassId} {dI : Nat → Nat → Nat} {tc : Nat → ClassId} {sa : Nat → Nat} {base Ls : Nat} {xs : Nat → Int32} {av : Nat → Nat} {k pc c0 s0 a : Nat} {ls : Array Slot} {L : mx_L} {h : mx_H} {st r : List Value} {s' : mx_S} {cc : ByteArray}
theorem mx_s_sk {ins : Jvm.ClassFile.Instr} {st' : List Value} {ad : Nat → Nat} (hx : p.tables.exec = Jvm.exec) (hb : c.code = cc) (hd : decode cc pc = .ok (ins, mx_len ins)) (hs : mx_sk ins st = some st')
    (kk : W p l e R s m args below meth c H locs cells slots Q (F0 m (pc + mx_len ins) ls (st'.map (mx_cv ad)))) : W p l e R s m args below meth c H locs cells slots Q (F0 m pc ls (st.map (mx_cv ad))) := by
  unfold mx_sk at hs
  split at hs
  · cases hs; exact lv_iconst hx hb hd rfl kk
  · cases hs; exact lv_bipush hx hb hd rfl kk
  · cases hs; exact lv_sipush hx hb hd rfl kk
  · cases hs; exact lv_lconst hx hb hd rfl kk
  · cases hs; exact lv_null hx hb hd kk
  · split at hs
    · cases hs; exact lv_iadd hx hb hd kk
    · cases hs
  · split at hs
    · cases hs; exact lv_isub hx hb hd kk
    · cases hs
  · split at hs
    · cases hs; exact lv_imul hx hb hd kk
    · cases hs
  · split at hs
    · cases hs; exact lv_iand hx hb hd kk
    · cases hs
  · split at hs
    · cases hs; exact lv_ior hx hb hd kk
    · cases hs
  · split at hs
    · split at hs
      · cases hs
      · next hne => cases hs; exact lv_idiv hx hb hd hne kk
    · cases hs
  · split at hs
    · split at hs
      · cases hs
      · next hne => cases hs; exact lv_irem hx hb hd hne kk
    · cases hs
  · split at hs
    · cases hs; exact lv_ineg hx hb hd kk
    · cases hs
  · split at hs
    · cases hs; exact lv_ishl hx hb hd kk
    · cases hs
  · split at hs
    · cases hs; exact lv_ishr hx hb hd kk
    · cases hs
  · split at hs
    · cases hs; exact lv_iushr hx hb hd rfl kk
    · cases hs
  · split at hs
    · cases hs; exact lv_ladd hx hb hd kk
    · cases hs
  · split at hs
    · cases hs; exact lv_lsub hx hb hd kk
    · cases hs
  · split at hs
    · cases hs; exact lv_land hx hb hd kk
    · cases hs
  · split at hs
    · cases hs; exact lv_lor hx hb hd kk
    · cases hs
  · split at hs
    · cases hs; exact lv_lxor hx hb hd kk
    · cases hs
  · split at hs
    · split at hs
      · cases hs
      · next hne => cases hs; exact lv_ldiv hx hb hd hne kk
    · cases hs
  · split at hs
    · split at hs
      · cases hs
      · next hne => cases hs; exact lv_lrem hx hb hd hne kk
    · cases hs
  · split at hs
    · cases hs; exact lv_lshl hx hb hd rfl kk
    · cases hs
  · split at hs
    · cases hs; exact lv_lshr hx hb hd rfl kk
    · cases hs
  · split at hs
    · cases hs; exact lv_lushr hx hb hd rfl kk
    · cases hs
  · split at hs
    · cases hs; exact W.lcmp hx hb hd kk
    · cases hs
  · split at hs
    · cases hs; exact lv_i2l hx hb hd rfl kk
    · cases hs
  · split at hs
    · cases hs; exact lv_l2i hx hb hd rfl kk
    · cases hs
  · split at hs
    · cases hs; exact lv_i2b hx hb hd rfl kk
    · cases hs
  · split at hs
    · cases hs; exact lv_i2s hx hb hd rfl kk
    · cases hs
  · split at hs
    · cases hs; exact lv_i2c hx hb hd rfl kk
    · cases hs
  · split at hs
    · split at hs
      · next hc => cases hs; exact lv_dup hx hb hd (by rw [mx_cv_cat]; exact hc) kk
      · cases hs
    · cases hs
  · split at hs
    · split at hs
      · next hc => cases hs; exact lv_pop hx hb hd (by rw [mx_cv_cat]; exact hc) kk
      · cases hs
    · cases hs
  · split at hs
    · split at hs
      · next hc => cases hs; exact lv_dup2_11 hx hb hd (by rw [mx_cv_cat]; exact hc.1) (by rw [mx_cv_cat]; exact hc.2) kk
      · cases hs
    · cases hs
  · cases hs
/-- what every step owes, of the state behind it -/
def mx_K (p : Program) (l : Launch) (e : Env) (R : Room) (s : State) (m : MethodId) (args : Array Value) (below : List Frame) (meth : Method) (c : Code) (Q : State → Prop) (dC : Nat → ClassId) (dI : Nat → Nat → Nat) (tc : Nat → ClassId) (sa : Nat → Nat) (base Ls : Nat) (xs : Nat → Int32) (k c0 s0 : Nat) (s' : mx_S) : Prop :=
  ∀ (H : Heap) (locs : List Loc) (ls : Array Slot) (cells slots : Nat), mx_At dC dI tc sa base Ls xs k s c0 s0 s'.2.1 s'.2.2.2 H locs ls cells slots → W p l e R s m args below meth c H locs cells slots Q (F0 m s'.1 ls (s'.2.2.1.map (mx_cv (mx_ad sa base))))
theorem mx_tag0 {w : Value} (h : mx_tag w = 0) : ∃ x, w = .int x := by cases w <;> simp [mx_tag] at h; exact ⟨_, rfl⟩
theorem mx_tag1 {w : Value} (h : mx_tag w = 1) : ∃ x, w = .long x := by cases w <;> simp [mx_tag] at h; exact ⟨_, rfl⟩
theorem mx_tag2 {w : Value} (h : mx_tag w = 2) : w = .null ∨ ∃ x, w = .ref x := by cases w <;> simp [mx_tag] at h; exact Or.inl rfl; exact Or.inr ⟨_, rfl⟩
theorem mx_s_load (hx : p.tables.exec = Jvm.exec) (hb : c.code = cc) (ins : Jvm.ClassFile.Instr) {i t n : Nat} (hcase : (t = 0 ∧ ((ins = .iload i ∧ n = 2) ∨ (n = 1 ∧ ∃ j : Fin 4, ins = .iload_n j ∧ (j : Nat) = i))) ∨ (t = 1 ∧ ((ins = .lload i ∧ n = 2) ∨ (n = 1 ∧ ∃ j : Fin 4, ins = .lload_n j ∧ (j : Nat) = i))) ∨ (t = 2 ∧ ((ins = .aload i ∧ n = 2) ∨ (n = 1 ∧ ∃ j : Fin 4, ins = .aload_n j ∧ (j : Nat) = i))))
    (hd : decode cc pc = .ok (ins, n)) (X : mx_At dC dI tc sa base Ls xs k s c0 s0 L h H locs ls cells slots) (hs : mx_psh (mx_ld L i t) (pc + n) L st h = some (.inl s')) (kk : mx_K p l e R s m args below meth c Q dC dI tc sa base Ls xs k c0 s0 s') :
    W p l e R s m args below meth c H locs cells slots Q (F0 m pc ls (st.map (mx_cv (mx_ad sa base)))) := by
  unfold mx_psh at hs
  split at hs
  · next w hw =>
    cases hs
    obtain ⟨h1, h2⟩ := mx_ld_some hw
    have k1 := kk H locs ls cells slots X
    have hl := X.2.2.1.2.2.2 i w h1
    rcases hcase with ⟨rfl, hc⟩ | ⟨rfl, hc⟩ | ⟨rfl, hc⟩
    · obtain ⟨x, rfl⟩ := mx_tag0 h2
      rcases hc with ⟨rfl, rfl⟩ | ⟨rfl, j, rfl, hj⟩
      · exact lv_iload hx hb hd hl k1
      · exact lv_iload_n hx hb hd hj hl k1
    · obtain ⟨x, rfl⟩ := mx_tag1 h2
      rcases hc with ⟨rfl, rfl⟩ | ⟨rfl, j, rfl, hj⟩
      · exact lv_lload hx hb hd hl k1
      · exact lv_lload_n hx hb hd hj hl k1
    · rcases mx_tag2 h2 with rfl | ⟨x, rfl⟩
      · rcases hc with ⟨rfl, rfl⟩ | ⟨rfl, j, rfl, hj⟩
        · exact lv_aloadN hx hb hd hl k1
        · exact lv_aload_nN hx hb hd hj hl k1
      · rcases hc with ⟨rfl, rfl⟩ | ⟨rfl, j, rfl, hj⟩
        · exact lv_aload hx hb hd hl k1
        · exact lv_aload_n hx hb hd hj hl k1
  · cases hs
theorem mx_s_store (hx : p.tables.exec = Jvm.exec) (hb : c.code = cc) (ins : Jvm.ClassFile.Instr) {i t n : Nat} (hcase : (t = 0 ∧ ((ins = .istore i ∧ n = 2) ∨ (n = 1 ∧ ∃ j : Fin 4, ins = .istore_n j ∧ (j : Nat) = i))) ∨ (t = 1 ∧ ((ins = .lstore i ∧ n = 2) ∨ (n = 1 ∧ ∃ j : Fin 4, ins = .lstore_n j ∧ (j : Nat) = i))) ∨ (t = 2 ∧ ((ins = .astore i ∧ n = 2) ∨ (n = 1 ∧ ∃ j : Fin 4, ins = .astore_n j ∧ (j : Nat) = i))))
    (hd : decode cc pc = .ok (ins, n)) (X : mx_At dC dI tc sa base Ls xs k s c0 s0 L h H locs ls cells slots) (hs : mx_sto t i (pc + n) L st h = some (.inl s')) (kk : mx_K p l e R s m args below meth c Q dC dI tc sa base Ls xs k c0 s0 s') :
    W p l e R s m args below meth c H locs cells slots Q (F0 m pc ls (st.map (mx_cv (mx_ad sa base)))) := by
  unfold mx_sto at hs
  split at hs
  · next v r =>
    by_cases hc0 : mx_tag v = t ∧ i + (if t = 1 then 1 else 0) < L.length
    · rw [if_pos hc0] at hs
      obtain ⟨h2, h3⟩ := hc0
      cases hs
      have hA := X.2.2.1.has
      have hlen := X.2.2.1.2.1
      have key : ∀ ls' : Array Slot, mx_LR (mx_ad sa base) ls' (mx_ml k) (mx_store L i v) → W p l e R s m args below meth c H locs cells slots Q (F0 m (pc + n) ls' (r.map (mx_cv (mx_ad sa base)))) := fun ls' hl => kk H locs ls' cells slots ⟨X.1, X.2.1, hl, X.2.2.2⟩
      rcases hcase with ⟨rfl, hc⟩ | ⟨rfl, hc⟩ | ⟨rfl, hc⟩
      · obtain ⟨x, rfl⟩ := mx_tag0 h2
        have hi : i < mx_ml k := by simpa [hlen] using h3
        rcases hc with ⟨rfl, rfl⟩ | ⟨rfl, j, rfl, hj⟩
        · exact lv_istore hx hb hd hA hi rfl (fun ls' hl => key ls' (X.2.2.1.store1 (by simp [Value.category]) hl))
        · exact lv_istore_n hx hb hd hj hA hi rfl (fun ls' hl => key ls' (X.2.2.1.store1 (by simp [Value.category]) hl))
      · obtain ⟨x, rfl⟩ := mx_tag1 h2
        have hi : i + 1 < mx_ml k := by simpa [hlen] using h3
        rcases hc with ⟨rfl, rfl⟩ | ⟨rfl, j, rfl, hj⟩
        · exact lv_lstore hx hb hd hA hi rfl (fun ls' hl => key ls' (X.2.2.1.store2 rfl hl))
        · exact lv_lstore_n hx hb hd hj hA hi rfl (fun ls' hl => key ls' (X.2.2.1.store2 rfl hl))
      · have hi : i < mx_ml k := by simpa [hlen] using h3
        rcases mx_tag2 h2 with rfl | ⟨x, rfl⟩
        · rcases hc with ⟨rfl, rfl⟩ | ⟨rfl, j, rfl, hj⟩
          · exact lv_astoreN hx hb hd hA hi rfl (fun ls' hl => key ls' (X.2.2.1.store1 (by simp [Value.category]) hl))
          · exact lv_astore_nN hx hb hd hj hA hi rfl (fun ls' hl => key ls' (X.2.2.1.store1 (by simp [Value.category]) hl))
        · rcases hc with ⟨rfl, rfl⟩ | ⟨rfl, j, rfl, hj⟩
          · exact lv_astore hx hb hd hA hi rfl (fun ls' hl => key ls' (X.2.2.1.store1 (by simp [Value.category]) hl))
          · exact lv_astore_n hx hb hd hj hA hi rfl (fun ls' hl => key ls' (X.2.2.1.store1 (by simp [Value.category]) hl))
    · rw [if_neg hc0] at hs
      cases hs
  · cases hs
theorem mx_s_iinc (hx : p.tables.exec = Jvm.exec) (hb : c.code = cc) {i : Nat} {n : Int} {x : Int32} (hd : decode cc pc = .ok (.iinc i n, 3)) (X : mx_At dC dI tc sa base Ls xs k s c0 s0 L h H locs ls cells slots) (hs : mx_ld L i 0 = some (.int x))
    (kk : mx_K p l e R s m args below meth c Q dC dI tc sa base Ls xs k c0 s0 (pc + 3, mx_store L i (.int (x + Int32.ofInt n)), st, h)) :
    W p l e R s m args below meth c H locs cells slots Q (F0 m pc ls (st.map (mx_cv (mx_ad sa base)))) := by
  obtain ⟨h1, -⟩ := mx_ld_some hs
  obtain ⟨j, hj⟩ := List.getElem?_of_mem (mx_al_mem (ad := mx_ad sa base).mpr ⟨_, h1, rfl⟩)
  have hi : i < mx_ml k := by have := (List.getElem?_eq_some_iff.mp h1).1; rw [X.2.2.1.2.1] at this; exact this
  exact lv_iinc (k := j) hx hb hd X.2.2.1.has hj rfl hi rfl (fun ls' hl => kk H locs ls' cells slots ⟨X.1, X.2.1, X.2.2.1.store1 (v := .int (x + Int32.ofInt n)) (by simp [Value.category]) hl, X.2.2.2⟩)
theorem mx_s_if (hx : p.tables.exec = Jvm.exec) (hb : c.code = cc) {co : Jvm.ClassFile.Cond} {o : Int} {x : Int32} (hd : decode cc pc = .ok (.ifCond co o, 3)) (ht : (pc : Int) + o = (a : Int)) (X : mx_At dC dI tc sa base Ls xs k s c0 s0 L h H locs ls cells slots) (hs : mx_if (mx_cmp co x 0) a pc L r h = some (.inl s')) (kk : mx_K p l e R s m args below meth c Q dC dI tc sa base Ls xs k c0 s0 s') :
    W p l e R s m args below meth c H locs cells slots Q (F0 m pc ls ((Value.int x :: r).map (mx_cv (mx_ad sa base)))) := by
  have kt : mx_cmp co x 0 = true → W p l e R s m args below meth c H locs cells slots Q (F0 m a ls (r.map (mx_cv (mx_ad sa base)))) := fun hc => by
    unfold mx_if at hs
    rw [if_pos hc] at hs
    cases hs
    exact kk H locs ls cells slots X
  have kf : ¬ mx_cmp co x 0 = true → W p l e R s m args below meth c H locs cells slots Q (F0 m (pc + 3) ls (r.map (mx_cv (mx_ad sa base)))) := fun hc => by
    unfold mx_if at hs
    rw [if_neg hc] at hs
    cases hs
    exact kk H locs ls cells slots X
  cases co
  · exact lv_if_eq hx hb hd ht (fun q => kt (by simpa [mx_cmp] using q)) (fun q => kf (by simpa [mx_cmp] using q))
  · exact lv_if_ne hx hb hd ht (fun q => kt (by simpa [mx_cmp] using q)) (fun q => kf (by simpa [mx_cmp] using q))
  · exact lv_if_lt hx hb hd ht (fun q => kt (by simpa [mx_cmp] using q)) (fun q => kf (by simpa [mx_cmp] using q))
  · exact lv_if_ge hx hb hd ht (fun q => kt (by simpa [mx_cmp] using q)) (fun q => kf (by simpa [mx_cmp] using q))
  · exact lv_if_gt hx hb hd ht (fun q => kt (by simpa [mx_cmp] using q)) (fun q => kf (by simpa [mx_cmp] using q))
  · exact lv_if_le hx hb hd ht (fun q => kt (by simpa [mx_cmp] using q)) (fun q => kf (by simpa [mx_cmp] using q))
theorem mx_s_icmp (hx : p.tables.exec = Jvm.exec) (hb : c.code = cc) {co : Jvm.ClassFile.Cond} {o : Int} {x y : Int32} (hd : decode cc pc = .ok (.if_icmp co o, 3)) (ht : (pc : Int) + o = (a : Int)) (X : mx_At dC dI tc sa base Ls xs k s c0 s0 L h H locs ls cells slots) (hs : mx_if (mx_cmp co x y) a pc L r h = some (.inl s')) (kk : mx_K p l e R s m args below meth c Q dC dI tc sa base Ls xs k c0 s0 s') :
    W p l e R s m args below meth c H locs cells slots Q (F0 m pc ls ((Value.int y :: Value.int x :: r).map (mx_cv (mx_ad sa base)))) := by
  have kt : mx_cmp co x y = true → W p l e R s m args below meth c H locs cells slots Q (F0 m a ls (r.map (mx_cv (mx_ad sa base)))) := fun hc => by
    unfold mx_if at hs
    rw [if_pos hc] at hs
    cases hs
    exact kk H locs ls cells slots X
  have kf : ¬ mx_cmp co x y = true → W p l e R s m args below meth c H locs cells slots Q (F0 m (pc + 3) ls (r.map (mx_cv (mx_ad sa base)))) := fun hc => by
    unfold mx_if at hs
    rw [if_neg hc] at hs
    cases hs
    exact kk H locs ls cells slots X
  cases co
  · exact lv_icmp_eq hx hb hd ht (fun q => kt (by simpa [mx_cmp] using q)) (fun q => kf (by simpa [mx_cmp] using q))
  · exact lv_icmp_ne hx hb hd ht (fun q => kt (by simpa [mx_cmp] using q)) (fun q => kf (by simpa [mx_cmp] using q))
  · exact lv_icmp_lt hx hb hd ht (fun q => kt (by simpa [mx_cmp] using q)) (fun q => kf (by simpa [mx_cmp] using q))
  · exact lv_icmp_ge hx hb hd ht (fun q => kt (by simpa [mx_cmp] using q)) (fun q => kf (by simpa [mx_cmp] using q))
  · exact lv_icmp_gt hx hb hd ht (fun q => kt (by simpa [mx_cmp] using q)) (fun q => kf (by simpa [mx_cmp] using q))
  · exact lv_icmp_le hx hb hd ht (fun q => kt (by simpa [mx_cmp] using q)) (fun q => kf (by simpa [mx_cmp] using q))
theorem mx_tg_some {pc t : Nat} {o : Int} (h : mx_tg pc o = some t) : (pc : Int) + o = (t : Int) := by
  unfold mx_tg at h
  split at h
  · cases h
    omega
  · cases h
theorem mx_s_tsw (hx : p.tables.exec = Jvm.exec) (hb : c.code = cc) {d lo hi : Int} {offs : Array Int} {n : Nat} {x : Int32} (hd : decode cc pc = .ok (.tableswitch d lo hi offs, n)) (X : mx_At dC dI tc sa base Ls xs k s c0 s0 L h H locs ls cells slots) (hs : mx_jmp (mx_tsw d lo hi offs pc x) L r h = some (.inl s')) (kk : mx_K p l e R s m args below meth c Q dC dI tc sa base Ls xs k c0 s0 s') :
    W p l e R s m args below meth c H locs cells slots Q (F0 m pc ls ((Value.int x :: r).map (mx_cv (mx_ad sa base)))) := by
  unfold mx_jmp at hs
  split at hs
  · next t ht =>
    cases hs
    have k1 := kk H locs ls cells slots X
    unfold mx_tsw at ht
    split at ht
    · next ho => exact lv_tableOut hx hb hd ho (mx_tg_some ht) k1
    · next ho =>
      split at ht
      · next o hoo => exact lv_tableIn hx hb hd (fun q => ho (Or.inl q)) (fun q => ho (Or.inr q)) hoo (mx_tg_some ht) k1
      · cases ht
  · cases hs
theorem mx_s_lsw (hx : p.tables.exec = Jvm.exec) (hb : c.code = cc) {d : Int} {ps : Array (Int × Int)} {n : Nat} {x : Int32} (hd : decode cc pc = .ok (.lookupswitch d ps, n)) (hsort : (ps.toList.zip (ps.toList.drop 1)).all (fun (a, next) => a.1 < next.1) = true) (X : mx_At dC dI tc sa base Ls xs k s c0 s0 L h H locs ls cells slots) (hs : mx_jmp (mx_tg pc (Op.lookupswitch.offset ps.toList d x.toInt)) L r h = some (.inl s')) (kk : mx_K p l e R s m args below meth c Q dC dI tc sa base Ls xs k c0 s0 s') :
    W p l e R s m args below meth c H locs cells slots Q (F0 m pc ls ((Value.int x :: r).map (mx_cv (mx_ad sa base)))) := by
  unfold mx_jmp at hs
  split at hs
  · next t ht =>
    cases hs
    exact lv_lookup hx hb hd hsort rfl (mx_tg_some ht) (kk H locs ls cells slots X)
  · cases hs
theorem mx_here {sa : Nat → Nat} {base Ls b : Nat} {xs : Nat → Int32} {ci : Nat} {fs : List Value} {H : Heap} (X : mx_Rp dC dI tc sa base Ls xs h H) (hb : h.2.2 b = .inr (ci, fs)) (hc : ci ≠ 99) : b < h.1 ∧ b < mx_big := by
  obtain ⟨-, h2, h3, h4⟩ := X
  by_cases hlt : b < h.1
  · exact ⟨hlt, by omega⟩
  · exfalso
    by_cases hbig : b = mx_big
    · subst hbig
      rw [h3] at hb
      cases hb
    · rw [h2 b (by omega) hbig] at hb
      cases hb
      exact hc rfl
theorem mx_hereA {sa : Nat → Nat} {base Ls b t n : Nat} {xs : Nat → Int32} {f : mx_C} {H : Heap} (X : mx_Rp dC dI tc sa base Ls xs h H) (hb : h.2.2 b = .inl (t, n, f)) : (b < h.1 ∧ b < mx_big) ∨ (b = mx_big ∧ t = 0 ∧ n = Ls ∧ f = .inl xs) := by
  obtain ⟨-, h2, h3, h4⟩ := X
  by_cases hlt : b < h.1
  · exact Or.inl ⟨hlt, by omega⟩
  · by_cases hbig : b = mx_big
    · subst hbig
      rw [h3] at hb
      cases hb
      exact Or.inr ⟨rfl, rfl, rfl, rfl⟩
    · rw [h2 b (by omega) hbig] at hb
      cases hb
theorem mx_Rp.set {b : Nat} {e : mx_E} {H1 : Heap} (X : mx_Rp dC dI tc sa base Ls xs h H) (hb : b < h.1) (hP : va_P (dC, dI) mx_cl ((mx_wl tc sa base h).set b (base + b, mx_ce tc (mx_ad sa base) e)) H1) : mx_Rp dC dI tc sa base Ls xs (mx_set h b e) H1 := by
  obtain ⟨-, h2, h3, h4⟩ := X
  rw [mx_wl_set e hb] at hP
  refine ⟨hP, fun i hi hne => ?_, ?_, h4⟩
  · have hib : ¬ i = b := by
      have : h.1 ≤ i := hi
      omega
    simp only [mx_set, if_neg hib]
    exact h2 i hi hne
  · have hib : ¬ mx_big = b := by omega
    simp only [mx_set, if_neg hib]
    exact h3
theorem mx_Rp.new {q n : Nat} {e : mx_E} {H1 : Heap} (X : mx_Rp dC dI tc sa base Ls xs h H) (hq : q = base + h.1) (hb : h.1 < mx_big) (hP : va_P (dC, dI) mx_cl (mx_wl tc sa base h ++ [(q, mx_ce tc (mx_ad sa base) e)]) H1) : mx_Rp dC dI tc sa base Ls xs (mx_new h n e) H1 := by
  obtain ⟨-, h2, h3, h4⟩ := X
  subst hq
  rw [mx_wl_new n e] at hP
  refine ⟨hP, fun i hi hne => ?_, ?_, hb⟩
  · have hib : ¬ i = h.1 := by
      have : h.1 + 1 ≤ i := hi
      omega
    simp only [mx_new, if_neg hib]
    exact h2 i (by have : h.1 + 1 ≤ i := hi; omega) hne
  · have hib : ¬ mx_big = h.1 := by omega
    simp only [mx_new, if_neg hib]
    exact h3
end MXS
