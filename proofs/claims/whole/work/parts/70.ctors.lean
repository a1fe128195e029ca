/-! ===== heaps that grow; the small constructors ===== -/
section P70
variable {d k pc a b n m len j : Nat} {v : Int} {L : mx_L} {st r : List Value} {h : mx_H} {es : List mx_E} {e : mx_E} {Q : Option Value → mx_H → Prop} {x y : Int32}
/-- from b on there lies a list -/
def hp (h : mx_H) (b m : Nat) (es : List mx_E) : mx_H := (b + es.length, h.2.1 + m, fun i => if i < b then h.2.2 i else (es[i - b]?).getD (h.2.2 i))
theorem hp_new : mx_new (hp h b m es) n e = hp h b (m + n) (es ++ [e]) := by
  unfold mx_new hp
  refine Prod.ext ?_ (Prod.ext ?_ ?_)
  · show b + es.length + 1 = b + (es ++ [e]).length
    rw [List.length_append]
    rfl
  · show h.2.1 + m + n = h.2.1 + (m + n)
    omega
  · funext i
    show (if i = b + es.length then e else if i < b then h.2.2 i else (es[i - b]?).getD (h.2.2 i)) = if i < b then h.2.2 i else ((es ++ [e])[i - b]?).getD (h.2.2 i)
    by_cases h1 : i = b + es.length
    · rw [if_pos h1, if_neg (by omega), show i - b = es.length by omega, List.getElem?_append_right (Nat.le_refl _), Nat.sub_self]
      rfl
    · rw [if_neg h1]
      by_cases h2 : i < b
      · rw [if_pos h2, if_pos h2]
      · rw [if_neg h2, if_neg h2]
        by_cases h3 : i - b < es.length
        · rw [List.getElem?_append_left h3]
        · rw [List.getElem?_eq_none (by omega), List.getElem?_eq_none (by rw [List.length_append]; show es.length + 1 ≤ i - b; omega)]
theorem hp_one (hb : h.1 = b) : mx_new h n e = hp h b n [e] := by
  unfold mx_new hp
  refine Prod.ext ?_ (Prod.ext ?_ ?_)
  · show h.1 + 1 = b + 1
    rw [hb]
  · rfl
  · funext i
    show (if i = h.1 then e else h.2.2 i) = if i < b then h.2.2 i else ([e][i - b]?).getD (h.2.2 i)
    rw [hb]
    by_cases h1 : i = b
    · rw [if_pos h1, if_neg (by omega), show i - b = 0 by omega]
      rfl
    · rw [if_neg h1]
      by_cases h2 : i < b
      · rw [if_pos h2]
      · rw [if_neg h2, List.getElem?_eq_none (by show 1 ≤ i - b; omega)]
        rfl
theorem hp_set (hj : j < es.length) : mx_set (hp h b m es) (b + j) e = hp h b m (es.set j e) := by
  unfold mx_set hp
  refine Prod.ext ?_ (Prod.ext rfl ?_)
  · show b + es.length = b + (es.set j e).length
    rw [List.length_set]
  · funext i
    show (if i = b + j then e else if i < b then h.2.2 i else (es[i - b]?).getD (h.2.2 i)) = if i < b then h.2.2 i else ((es.set j e)[i - b]?).getD (h.2.2 i)
    rw [List.getElem?_set]
    by_cases h1 : i = b + j
    · rw [if_pos h1, if_neg (by omega), if_pos (by omega), if_pos hj]
      rfl
    · rw [if_neg h1]
      by_cases h2 : i < b
      · rw [if_pos h2, if_pos h2]
      · rw [if_neg h2, if_neg h2, if_neg (by omega)]
theorem hp_at (he : es[j]? = some e) : (hp h b m es).2.2 (b + j) = e := by
  show (if b + j < b then h.2.2 (b + j) else (es[b + j - b]?).getD (h.2.2 (b + j))) = e
  rw [if_neg (by omega), Nat.add_sub_cancel_left, he]
  rfl
/-- a list more lies from b on -/
def EX (h h' : mx_H) (b m : Nat) (es : List mx_E) : Prop := h'.1 = b + es.length ∧ h'.2.1 = h.2.1 + m ∧ (∀ i, i < b ∨ b + es.length ≤ i → h'.2.2 i = h.2.2 i) ∧ ∀ j e, es[j]? = some e → h'.2.2 (b + j) = e
theorem hp_EX : EX h (hp h b m es) b m es := by
  refine ⟨rfl, rfl, fun i hi => ?_, fun j e he => hp_at he⟩
  show (if i < b then h.2.2 i else (es[i - b]?).getD (h.2.2 i)) = h.2.2 i
  by_cases h2 : i < b
  · rw [if_pos h2]
  · rw [if_neg h2, List.getElem?_eq_none (by omega)]
    rfl
theorem k_newI (len m' : Nat) (es' : List mx_E) (hc : mx_tb k pc = some (.newarray .int, a, v)) (hx : x = nI n) (hn : n ≤ 100000) (hl : es.length = len) (hb : b + len < mx_big) (he : es ++ [.inl (0, n, .inl fun _ => 0)] = es') (hm : m + n = m') (kk : wq d k (pc + 2) L (.ref (b + len) :: r) (hp h b m' es') Q) : wq d k pc L (.int x :: r) (hp h b m es) Q := by
  subst hx he hl hm
  have e0 := x_cl (j := n) (by omega)
  refine q_newI hc ⟨nI_pos (by omega), by rw [e0]; exact hn, hb⟩ ?_
  rw [e0, hp_new]
  exact kk
theorem k_newZ (len m' : Nat) (es' : List mx_E) (hc : mx_tb k pc = some (.newarray .boolean, a, v)) (hx : x = nI n) (hn : n ≤ 100000) (hl : es.length = len) (hb : b + len < mx_big) (he : es ++ [.inl (1, n, .inl fun _ => 0)] = es') (hm : m + n = m') (kk : wq d k (pc + 2) L (.ref (b + len) :: r) (hp h b m' es') Q) : wq d k pc L (.int x :: r) (hp h b m es) Q := by
  subst hx he hl hm
  have e0 := x_cl (j := n) (by omega)
  refine q_newZ hc ⟨nI_pos (by omega), by rw [e0]; exact hn, hb⟩ ?_
  rw [e0, hp_new]
  exact kk
theorem k_newC (len m' : Nat) (es' : List mx_E) (hc : mx_tb k pc = some (.newarray .char, a, v)) (hx : x = nI n) (hn : n ≤ 100000) (hl : es.length = len) (hb : b + len < mx_big) (he : es ++ [.inl (2, n, .inl fun _ => 0)] = es') (hm : m + n = m') (kk : wq d k (pc + 2) L (.ref (b + len) :: r) (hp h b m' es') Q) : wq d k pc L (.int x :: r) (hp h b m es) Q := by
  subst hx he hl hm
  have e0 := x_cl (j := n) (by omega)
  refine q_newC hc ⟨nI_pos (by omega), by rw [e0]; exact hn, hb⟩ ?_
  rw [e0, hp_new]
  exact kk
theorem k_newQ {jj : Nat} (len m' : Nat) (es' : List mx_E) (hc : mx_tb k pc = some (.anewarray jj, a, v)) (ha : 3 ≤ a ∧ a ≤ 5) (hx : x = nI n) (hn : n ≤ 100000) (hl : es.length = len) (hb : b + len < mx_big) (he : es ++ [.inl (a, n, .inr fun _ => none)] = es') (hm : m + n = m') (kk : wq d k (pc + 3) L (.ref (b + len) :: r) (hp h b m' es') Q) : wq d k pc L (.int x :: r) (hp h b m es) Q := by
  subst hx he hl hm
  have e0 := x_cl (j := n) (by omega)
  refine q_newQ hc ha ⟨nI_pos (by omega), by rw [e0]; exact hn, hb⟩ ?_
  rw [e0, hp_new]
  exact kk
theorem k_new {jj : Nat} {fs : List Value} (len m' : Nat) (es' : List mx_E) (hc : mx_tb k pc = some (.new jj, a, v)) (hf : mx_defs a = fs) (hl : es.length = len) (hb : b + len < mx_big) (he : es ++ [.inr (a, fs)] = es') (hm : m + mx_nf a = m') (kk : wq d k (pc + 3) L (.ref (b + len) :: st) (hp h b m' es') Q) : wq d k pc L st (hp h b m es) Q := by
  subst hf he hl hm
  refine q_new hc hb ?_
  rw [hp_new]
  exact kk
theorem k_putf {jj j bb ci : Nat} {fs fs' : List Value} {va : Value} (es' : List mx_E) (hc : mx_tb k pc = some (.putfield jj, a, v)) (hbb : bb = b + j) (hh : es[j]? = some (.inr (ci, fs))) (hi : ci = a / 100) (hlen : a % 100 < fs.length) (hf : mx_fit (mx_tyf a) va = true) (hs : fs.set (a % 100) va = fs') (he : es.set j (.inr (ci, fs')) = es') (kk : wq d k (pc + 3) L r (hp h b m es') Q) : wq d k pc L (va :: .ref bb :: r) (hp h b m es) Q := by
  subst hbb he
  refine q_putf hc (hp_at hh) hi hlen hf hs ?_
  rw [hp_set (List.getElem?_eq_some_iff.mp hh).1]
  exact kk
theorem k_ist {i j bb : Nat} {f : Nat → Int32} (es' : List mx_E) (hc : mx_tb k pc = some (.iastore, a, v)) (hbb : bb = b + j) (hh : es[j]? = some (.inl (0, n, .inl f))) (hb : b + j < mx_big) (hx : x = nI i) (hj : i < n) (hn : n < 2 ^ 31) (he : es.set j (.inl (0, n, .inl (upd f i y))) = es') (kk : wq d k (pc + 1) L r (hp h b m es') Q) : wq d k pc L (.int y :: .int x :: .ref bb :: r) (hp h b m es) Q := by
  subst hbb he hx
  refine q_iastore hc (hp_at hh) hb (x_vin hj hn) ?_
  rw [x_cl (by omega), hp_set (List.getElem?_eq_some_iff.mp hh).1]
  exact kk
theorem k_cst {i j bb : Nat} {f : Nat → Int32} {z : Int32} (es' : List mx_E) (hc : mx_tb k pc = some (.castore, a, v)) (hbb : bb = b + j) (hh : es[j]? = some (.inl (2, n, .inl f))) (hb : b + j < mx_big) (hx : x = nI i) (hj : i < n) (hn : n < 2 ^ 31) (hz : vp_nar .char y = z) (he : es.set j (.inl (2, n, .inl (upd f i z))) = es') (kk : wq d k (pc + 1) L r (hp h b m es') Q) : wq d k pc L (.int y :: .int x :: .ref bb :: r) (hp h b m es) Q := by
  subst hbb he hx hz
  refine q_castore hc (hp_at hh) hb (x_vin hj hn) ?_
  rw [x_cl (by omega), hp_set (List.getElem?_eq_some_iff.mp hh).1]
  exact kk
theorem k_aast {i j jw bb w u ci : Nat} {g : Nat → Option Nat} {fs : List Value} (es' : List mx_E) (hc : mx_tb k pc = some (.aastore, a, v)) (hbb : bb = b + j) (hw : w = b + jw) (hh : es[j]? = some (.inl (u, n, .inr g))) (hhw : es[jw]? = some (.inr (ci, fs))) (hu : 3 ≤ u ∧ u ≤ 5) (hci : ci = mx_el u) (hb : b + j < mx_big) (hx : x = nI i) (hj : i < n) (hn : n < 2 ^ 31) (he : es.set j (.inl (u, n, .inr (va_up g i (some w)))) = es') (kk : wq d k (pc + 1) L r (hp h b m es') Q) : wq d k pc L (.ref w :: .int x :: .ref bb :: r) (hp h b m es) Q := by
  subst hbb he hx
  refine q_aastore hc (hp_at hh) ((congrArg _ hw).trans (hp_at hhw)) hu hci hb (x_vin hj hn) ?_
  rw [x_cl (by omega), hp_set (List.getElem?_eq_some_iff.mp hh).1]
  exact kk
theorem i_obj2 (hq : Q none h) : wc d 14 [.ref b] h Q := by
  refine wc.go [_] rfl ?_
  refine q_aload_n (pc := 0) rfl rfl rfl ?_
  refine q_obj (pc := 1) rfl rfl ?_
  refine q_vret (pc := 4) rfl rfl ?_
  exact hq
theorem i_obj1 (hq : Q none h) : wc d 12 [.ref b] h Q := by
  refine wc.go [_] rfl ?_
  refine q_aload_n (pc := 0) rfl rfl rfl ?_
  refine q_obj (pc := 1) rfl rfl ?_
  refine q_vret (pc := 4) rfl rfl ?_
  exact hq
theorem i_beach (hd : 3 ≤ d) (hb : b ≤ 1000) (h1 : h.1 = b) (kk : ∀ h', EX h h' b 98 [.inr (0, [.ref (b + 1), .ref (b + 2), .ref (b + 3), .int 0, .int 0, .int 0]), .inl (0, 36, .inl (fun _ => 0)), .inl (0, 36, .inl (fun _ => 0)), .inl (3, 4, .inr (va_up (va_up (va_up (va_up (fun _ => none) 0 (some (b + 4))) 1 (some (b + 5))) 2 (some (b + 6))) 3 (some (b + 7)))), .inr (2, [.int 0, .int 0, .int 0, .int 0]), .inr (2, [.int 0, .int 0, .int 0, .int 0]), .inr (2, [.int 0, .int 0, .int 0, .int 0]), .inr (2, [.int 0, .int 0, .int 0, .int 0])] → Q none h') : wc d 0 [.ref b] (mx_new h (mx_nf 0) (.inr (0, mx_defs 0))) Q := by
  rw [show mx_new h (mx_nf 0) (.inr (0, mx_defs 0)) = hp h b 6 [.inr (0, [.null, .null, .null, .int 0, .int 0, .int 0])] from hp_one h1]
  refine wc.go [_, _] rfl ?_
  refine q_aload_n (pc := 0) rfl rfl rfl ?_
  refine q_obj (pc := 1) rfl rfl ?_
  refine q_aload_n (pc := 4) rfl rfl rfl ?_
  refine q_bipush (pc := 5) rfl (nI 36) (by decide) ?_
  refine k_newI (pc := 7) 1 42 [_, _] rfl rfl (by decide) rfl (by show _ < 1000000; omega) rfl rfl ?_
  refine k_putf (fs' := [_, _, _, _, _, _]) (j := 0) (pc := 9) [_, _] rfl rfl rfl rfl (Nat.le_of_ble_eq_true rfl) rfl rfl rfl ?_
  refine q_aload_n (pc := 12) rfl rfl rfl ?_
  refine q_bipush (pc := 13) rfl (nI 36) (by decide) ?_
  refine k_newI (pc := 15) 2 78 [_, _, _] rfl rfl (by decide) rfl (by show _ < 1000000; omega) rfl rfl ?_
  refine k_putf (fs' := [_, _, _, _, _, _]) (j := 0) (pc := 17) [_, _, _] rfl rfl rfl rfl (Nat.le_of_ble_eq_true rfl) rfl rfl rfl ?_
  refine q_aload_n (pc := 20) rfl rfl rfl ?_
  refine q_iconst (pc := 21) rfl (nI 4) (by decide) ?_
  refine k_newQ (pc := 22) 3 82 [_, _, _, _] rfl (by decide) rfl (by decide) rfl (by show _ < 1000000; omega) rfl rfl ?_
  refine k_putf (fs' := [_, _, _, _, _, _]) (j := 0) (pc := 25) [_, _, _, _] rfl rfl rfl rfl (Nat.le_of_ble_eq_true rfl) rfl rfl rfl ?_
  refine q_iconst (pc := 28) rfl (nI 0) (by decide) ?_
  refine q_istore_n (pc := 29) [_, _] rfl (Nat.le_of_ble_eq_true rfl) rfl ?_
  refine q_iload_n (pc := 30) rfl rfl ?_
  refine q_iconst (pc := 31) rfl (nI 4) (by decide) ?_
  refine n_icmpge (pc := 32) rfl (by omega) (by omega) (fun z => absurd z (by decide)) (fun _ => ?_)
  refine q_aload_n (pc := 35) rfl rfl rfl ?_
  refine q_getf (pc := 36) rfl (hp_at (j := 0) rfl) rfl rfl ?_
  refine q_iload_n (pc := 39) rfl rfl ?_
  refine k_new (fs := [.int 0, .int 0, .int 0, .int 0]) (pc := 40) 4 86 [_, _, _, _, _] rfl rfl rfl (by show _ < 1000000; omega) rfl rfl ?_
  refine q_dup (pc := 43) rfl rfl ?_
  refine q_callI (pc := 44) _ (by decide) rfl rfl rfl rfl (Nat.le_of_ble_eq_true rfl) (by omega) _ rfl ?_
  refine i_obj2 ?_
  refine k_aast (i := 0) (j := 3) (jw := 4) (pc := 47) [_, _, _, _, _] rfl rfl rfl rfl rfl (by decide) rfl (by show _ < 1000000; omega) rfl (by decide) (by decide) rfl ?_
  refine q_iinc (pc := 48) [_, _] (nI 1) rfl rfl (by decide) rfl ?_
  rw [nI_add]
  refine q_goto (pc := 51) rfl ?_
  refine q_iload_n (pc := 30) rfl rfl ?_
  refine q_iconst (pc := 31) rfl (nI 4) (by decide) ?_
  refine n_icmpge (pc := 32) rfl (by omega) (by omega) (fun z => absurd z (by decide)) (fun _ => ?_)
  refine q_aload_n (pc := 35) rfl rfl rfl ?_
  refine q_getf (pc := 36) rfl (hp_at (j := 0) rfl) rfl rfl ?_
  refine q_iload_n (pc := 39) rfl rfl ?_
  refine k_new (fs := [.int 0, .int 0, .int 0, .int 0]) (pc := 40) 5 90 [_, _, _, _, _, _] rfl rfl rfl (by show _ < 1000000; omega) rfl rfl ?_
  refine q_dup (pc := 43) rfl rfl ?_
  refine q_callI (pc := 44) _ (by decide) rfl rfl rfl rfl (Nat.le_of_ble_eq_true rfl) (by omega) _ rfl ?_
  refine i_obj2 ?_
  refine k_aast (i := 1) (j := 3) (jw := 5) (pc := 47) [_, _, _, _, _, _] rfl rfl rfl rfl rfl (by decide) rfl (by show _ < 1000000; omega) rfl (by decide) (by decide) rfl ?_
  refine q_iinc (pc := 48) [_, _] (nI 1) rfl rfl (by decide) rfl ?_
  rw [nI_add]
  refine q_goto (pc := 51) rfl ?_
  refine q_iload_n (pc := 30) rfl rfl ?_
  refine q_iconst (pc := 31) rfl (nI 4) (by decide) ?_
  refine n_icmpge (pc := 32) rfl (by omega) (by omega) (fun z => absurd z (by decide)) (fun _ => ?_)
  refine q_aload_n (pc := 35) rfl rfl rfl ?_
  refine q_getf (pc := 36) rfl (hp_at (j := 0) rfl) rfl rfl ?_
  refine q_iload_n (pc := 39) rfl rfl ?_
  refine k_new (fs := [.int 0, .int 0, .int 0, .int 0]) (pc := 40) 6 94 [_, _, _, _, _, _, _] rfl rfl rfl (by show _ < 1000000; omega) rfl rfl ?_
  refine q_dup (pc := 43) rfl rfl ?_
  refine q_callI (pc := 44) _ (by decide) rfl rfl rfl rfl (Nat.le_of_ble_eq_true rfl) (by omega) _ rfl ?_
  refine i_obj2 ?_
  refine k_aast (i := 2) (j := 3) (jw := 6) (pc := 47) [_, _, _, _, _, _, _] rfl rfl rfl rfl rfl (by decide) rfl (by show _ < 1000000; omega) rfl (by decide) (by decide) rfl ?_
  refine q_iinc (pc := 48) [_, _] (nI 1) rfl rfl (by decide) rfl ?_
  rw [nI_add]
  refine q_goto (pc := 51) rfl ?_
  refine q_iload_n (pc := 30) rfl rfl ?_
  refine q_iconst (pc := 31) rfl (nI 4) (by decide) ?_
  refine n_icmpge (pc := 32) rfl (by omega) (by omega) (fun z => absurd z (by decide)) (fun _ => ?_)
  refine q_aload_n (pc := 35) rfl rfl rfl ?_
  refine q_getf (pc := 36) rfl (hp_at (j := 0) rfl) rfl rfl ?_
  refine q_iload_n (pc := 39) rfl rfl ?_
  refine k_new (fs := [.int 0, .int 0, .int 0, .int 0]) (pc := 40) 7 98 [_, _, _, _, _, _, _, _] rfl rfl rfl (by show _ < 1000000; omega) rfl rfl ?_
  refine q_dup (pc := 43) rfl rfl ?_
  refine q_callI (pc := 44) _ (by decide) rfl rfl rfl rfl (Nat.le_of_ble_eq_true rfl) (by omega) _ rfl ?_
  refine i_obj2 ?_
  refine k_aast (i := 3) (j := 3) (jw := 7) (pc := 47) [_, _, _, _, _, _, _, _] rfl rfl rfl rfl rfl (by decide) rfl (by show _ < 1000000; omega) rfl (by decide) (by decide) rfl ?_
  refine q_iinc (pc := 48) [_, _] (nI 1) rfl rfl (by decide) rfl ?_
  rw [nI_add]
  refine q_goto (pc := 51) rfl ?_
  refine q_iload_n (pc := 30) rfl rfl ?_
  refine q_iconst (pc := 31) rfl (nI 4) (by decide) ?_
  refine n_icmpge (pc := 32) rfl (by omega) (by omega) (fun _ => ?_) (fun z => absurd z (by decide))
  refine q_vret (pc := 54) rfl rfl ?_
  exact kk _ hp_EX
theorem i_reader (hd : 3 ≤ d) (hb : b ≤ 1000) (h1 : h.1 = b) (kk : ∀ h', EX h h' b 655 [.inr (3, [.ref (b + 1), .int 0, .ref (b + 2), .ref (b + 3), .int 0, .int 0, .ref (b + 4), .int 0, .ref (b + 5), .int ((-1))]), .inl (0, 160, .inl (fun _ => 0)), .inl (0, 161, .inl (fun _ => 0)), .inl (0, 161, .inl (fun _ => 0)), .inl (0, 160, .inl (fun _ => 0)), .inl (0, 3, .inl (fun _ => 0))] → Q none h') : wc d 18 [.ref b] (mx_new h (mx_nf 3) (.inr (3, mx_defs 3))) Q := by
  rw [show mx_new h (mx_nf 3) (.inr (3, mx_defs 3)) = hp h b 10 [.inr (3, [.null, .int 0, .null, .null, .int 0, .int 0, .null, .int 0, .null, .int 0])] from hp_one h1]
  refine wc.go [_] rfl ?_
  refine q_aload_n (pc := 0) rfl rfl rfl ?_
  refine q_obj (pc := 1) rfl rfl ?_
  refine q_aload_n (pc := 4) rfl rfl rfl ?_
  refine q_sipush (pc := 5) rfl (nI 160) (by decide) ?_
  refine k_newI (pc := 8) 1 170 [_, _] rfl rfl (by decide) rfl (by show _ < 1000000; omega) rfl rfl ?_
  refine k_putf (fs' := [_, _, _, _, _, _, _, _, _, _]) (j := 0) (pc := 10) [_, _] rfl rfl rfl rfl (Nat.le_of_ble_eq_true rfl) rfl rfl rfl ?_
  refine q_aload_n (pc := 13) rfl rfl rfl ?_
  refine q_sipush (pc := 14) rfl (nI 161) (by decide) ?_
  refine k_newI (pc := 17) 2 331 [_, _, _] rfl rfl (by decide) rfl (by show _ < 1000000; omega) rfl rfl ?_
  refine k_putf (fs' := [_, _, _, _, _, _, _, _, _, _]) (j := 0) (pc := 19) [_, _, _] rfl rfl rfl rfl (Nat.le_of_ble_eq_true rfl) rfl rfl rfl ?_
  refine q_aload_n (pc := 22) rfl rfl rfl ?_
  refine q_sipush (pc := 23) rfl (nI 161) (by decide) ?_
  refine k_newI (pc := 26) 3 492 [_, _, _, _] rfl rfl (by decide) rfl (by show _ < 1000000; omega) rfl rfl ?_
  refine k_putf (fs' := [_, _, _, _, _, _, _, _, _, _]) (j := 0) (pc := 28) [_, _, _, _] rfl rfl rfl rfl (Nat.le_of_ble_eq_true rfl) rfl rfl rfl ?_
  refine q_aload_n (pc := 31) rfl rfl rfl ?_
  refine q_sipush (pc := 32) rfl (nI 160) (by decide) ?_
  refine k_newI (pc := 35) 4 652 [_, _, _, _, _] rfl rfl (by decide) rfl (by show _ < 1000000; omega) rfl rfl ?_
  refine k_putf (fs' := [_, _, _, _, _, _, _, _, _, _]) (j := 0) (pc := 37) [_, _, _, _, _] rfl rfl rfl rfl (Nat.le_of_ble_eq_true rfl) rfl rfl rfl ?_
  refine q_aload_n (pc := 40) rfl rfl rfl ?_
  refine q_iconst (pc := 41) rfl (nI 3) (by decide) ?_
  refine k_newI (pc := 42) 5 655 [_, _, _, _, _, _] rfl rfl (by decide) rfl (by show _ < 1000000; omega) rfl rfl ?_
  refine k_putf (fs' := [_, _, _, _, _, _, _, _, _, _]) (j := 0) (pc := 44) [_, _, _, _, _, _] rfl rfl rfl rfl (Nat.le_of_ble_eq_true rfl) rfl rfl rfl ?_
  refine q_aload_n (pc := 47) rfl rfl rfl ?_
  refine q_iconst (pc := 48) rfl ((-1)) (by decide) ?_
  refine k_putf (fs' := [_, _, _, _, _, _, _, _, _, _]) (j := 0) (pc := 49) [_, _, _, _, _, _] rfl rfl rfl rfl (Nat.le_of_ble_eq_true rfl) rfl rfl rfl ?_
  refine q_vret (pc := 52) rfl rfl ?_
  exact kk _ hp_EX
theorem i_rules (hd : 3 ≤ d) (hb : b ≤ 1000) (h1 : h.1 = b) (kk : ∀ h', EX h h' b 213 [.inr (4, [.ref (b + 1), .int 0, .ref (b + 2), .ref (b + 3), .ref (b + 4)]), .inl (4, 6, .inr (fun _ => none)), .inl (0, 6, .inl (fun _ => 0)), .inl (0, 160, .inl (fun _ => 0)), .inl (0, 36, .inl (fun _ => 0))] → Q none h') : wc d 43 [.ref b] (mx_new h (mx_nf 4) (.inr (4, mx_defs 4))) Q := by
  rw [show mx_new h (mx_nf 4) (.inr (4, mx_defs 4)) = hp h b 5 [.inr (4, [.null, .int 0, .null, .null, .null])] from hp_one h1]
  refine wc.go [_] rfl ?_
  refine q_aload_n (pc := 0) rfl rfl rfl ?_
  refine q_obj (pc := 1) rfl rfl ?_
  refine q_aload_n (pc := 4) rfl rfl rfl ?_
  refine q_bipush (pc := 5) rfl (nI 6) (by decide) ?_
  refine k_newQ (pc := 7) 1 11 [_, _] rfl (by decide) rfl (by decide) rfl (by show _ < 1000000; omega) rfl rfl ?_
  refine k_putf (fs' := [_, _, _, _, _]) (j := 0) (pc := 10) [_, _] rfl rfl rfl rfl (Nat.le_of_ble_eq_true rfl) rfl rfl rfl ?_
  refine q_aload_n (pc := 13) rfl rfl rfl ?_
  refine q_bipush (pc := 14) rfl (nI 6) (by decide) ?_
  refine k_newI (pc := 16) 2 17 [_, _, _] rfl rfl (by decide) rfl (by show _ < 1000000; omega) rfl rfl ?_
  refine k_putf (fs' := [_, _, _, _, _]) (j := 0) (pc := 18) [_, _, _] rfl rfl rfl rfl (Nat.le_of_ble_eq_true rfl) rfl rfl rfl ?_
  refine q_aload_n (pc := 21) rfl rfl rfl ?_
  refine q_sipush (pc := 22) rfl (nI 160) (by decide) ?_
  refine k_newI (pc := 25) 3 177 [_, _, _, _] rfl rfl (by decide) rfl (by show _ < 1000000; omega) rfl rfl ?_
  refine k_putf (fs' := [_, _, _, _, _]) (j := 0) (pc := 27) [_, _, _, _] rfl rfl rfl rfl (Nat.le_of_ble_eq_true rfl) rfl rfl rfl ?_
  refine q_aload_n (pc := 30) rfl rfl rfl ?_
  refine q_bipush (pc := 31) rfl (nI 36) (by decide) ?_
  refine k_newI (pc := 33) 4 213 [_, _, _, _, _] rfl rfl (by decide) rfl (by show _ < 1000000; omega) rfl rfl ?_
  refine k_putf (fs' := [_, _, _, _, _]) (j := 0) (pc := 35) [_, _, _, _, _] rfl rfl rfl rfl (Nat.le_of_ble_eq_true rfl) rfl rfl rfl ?_
  refine q_vret (pc := 38) rfl rfl ?_
  exact kk _ hp_EX
theorem i_sheet (hd : 3 ≤ d) (hb : b ≤ 1000) (h1 : h.1 = b) (kk : ∀ h', EX h h' b 43 [.inr (5, [.ref (b + 1), .int ((-1)), .int 0]), .inl (0, 40, .inl (fun _ => 0))] → Q none h') : wc d 56 [.ref b] (mx_new h (mx_nf 5) (.inr (5, mx_defs 5))) Q := by
  rw [show mx_new h (mx_nf 5) (.inr (5, mx_defs 5)) = hp h b 3 [.inr (5, [.null, .int 0, .int 0])] from hp_one h1]
  refine wc.go [_] rfl ?_
  refine q_aload_n (pc := 0) rfl rfl rfl ?_
  refine q_obj (pc := 1) rfl rfl ?_
  refine q_aload_n (pc := 4) rfl rfl rfl ?_
  refine q_bipush (pc := 5) rfl (nI 40) (by decide) ?_
  refine k_newI (pc := 7) 1 43 [_, _] rfl rfl (by decide) rfl (by show _ < 1000000; omega) rfl rfl ?_
  refine k_putf (fs' := [_, _, _]) (j := 0) (pc := 9) [_, _] rfl rfl rfl rfl (Nat.le_of_ble_eq_true rfl) rfl rfl rfl ?_
  refine q_aload_n (pc := 12) rfl rfl rfl ?_
  refine q_iconst (pc := 13) rfl ((-1)) (by decide) ?_
  refine k_putf (fs' := [_, _, _]) (j := 0) (pc := 14) [_, _] rfl rfl rfl rfl (Nat.le_of_ble_eq_true rfl) rfl rfl rfl ?_
  refine q_vret (pc := 17) rfl rfl ?_
  exact kk _ hp_EX
theorem i_ways (hd : 3 ≤ d) (hb : b ≤ 1000) (h1 : h.1 = b) (kk : ∀ h', EX h h' b 942 [.inr (7, [.ref (b + 1), .int 0, .ref (b + 2), .ref (b + 3), .ref (b + 4), .int 0, .int 0]), .inl (0, 7, .inl (fun _ => 0)), .inl (0, 896, .inl (fun _ => 0)), .inl (0, 28, .inl (fun _ => 0)), .inl (0, 4, .inl (fun _ => 0))] → Q none h') : wc d 63 [.ref b] (mx_new h (mx_nf 7) (.inr (7, mx_defs 7))) Q := by
  rw [show mx_new h (mx_nf 7) (.inr (7, mx_defs 7)) = hp h b 7 [.inr (7, [.null, .int 0, .null, .null, .null, .int 0, .int 0])] from hp_one h1]
  refine wc.go [_] rfl ?_
  refine q_aload_n (pc := 0) rfl rfl rfl ?_
  refine q_obj (pc := 1) rfl rfl ?_
  refine q_aload_n (pc := 4) rfl rfl rfl ?_
  refine q_bipush (pc := 5) rfl (nI 7) (by decide) ?_
  refine k_newI (pc := 7) 1 14 [_, _] rfl rfl (by decide) rfl (by show _ < 1000000; omega) rfl rfl ?_
  refine k_putf (fs' := [_, _, _, _, _, _, _]) (j := 0) (pc := 9) [_, _] rfl rfl rfl rfl (Nat.le_of_ble_eq_true rfl) rfl rfl rfl ?_
  refine q_aload_n (pc := 12) rfl rfl rfl ?_
  refine q_sipush (pc := 13) rfl (nI 896) (by decide) ?_
  refine k_newI (pc := 16) 2 910 [_, _, _] rfl rfl (by decide) rfl (by show _ < 1000000; omega) rfl rfl ?_
  refine k_putf (fs' := [_, _, _, _, _, _, _]) (j := 0) (pc := 18) [_, _, _] rfl rfl rfl rfl (Nat.le_of_ble_eq_true rfl) rfl rfl rfl ?_
  refine q_aload_n (pc := 21) rfl rfl rfl ?_
  refine q_bipush (pc := 22) rfl (nI 28) (by decide) ?_
  refine k_newI (pc := 24) 3 938 [_, _, _, _] rfl rfl (by decide) rfl (by show _ < 1000000; omega) rfl rfl ?_
  refine k_putf (fs' := [_, _, _, _, _, _, _]) (j := 0) (pc := 26) [_, _, _, _] rfl rfl rfl rfl (Nat.le_of_ble_eq_true rfl) rfl rfl rfl ?_
  refine q_aload_n (pc := 29) rfl rfl rfl ?_
  refine q_iconst (pc := 30) rfl (nI 4) (by decide) ?_
  refine k_newI (pc := 31) 4 942 [_, _, _, _, _] rfl rfl (by decide) rfl (by show _ < 1000000; omega) rfl rfl ?_
  refine k_putf (fs' := [_, _, _, _, _, _, _]) (j := 0) (pc := 33) [_, _, _, _, _] rfl rfl rfl rfl (Nat.le_of_ble_eq_true rfl) rfl rfl rfl ?_
  refine q_vret (pc := 36) rfl rfl ?_
  exact kk _ hp_EX
end P70
