/-! ===== the model's constructor, walked by program ===== -/
section P71
variable {d k pc a b n m len j : Nat} {v : Int} {L : mx_L} {st r : List Value} {h : mx_H} {es : List mx_E} {e : mx_E} {Q : Option Value → mx_H → Prop} {x y : Int32}
set_option maxHeartbeats 4000000 in
theorem i_model (hd : 3 ≤ d) (hb : b ≤ 1000) (h1 : h.1 = b) (kk : ∀ h', EX h h' b 2168 [.inr (9, [.ref (b + 1), .ref (b + 2), .ref (b + 3), .int 0, .ref (b + 4), .int 0, .int 0, .int 0, .int 0, .int 0, .ref (b + 5), .ref (b + 6), .int (nI 1), .int 0, .ref (b + 7), .ref (b + 8), .int 0, .ref (b + 9), .int 0, .int 0, .int 0, .ref (b + 10), .ref (b + 11), .int 0, .ref (b + 12), .ref (b + 13), .int 0, .int 0, .int 0, .ref (b + 14), .ref (b + 15), .ref (b + 16), .ref (b + 17), .ref (b + 18), .ref (b + 19), .ref (b + 20)]), .inl (0, 91, .inl (fun _ => 0)), .inl (0, 91, .inl (fun _ => 0)), .inl (0, 91, .inl (fun _ => 0)), .inl (0, 160, .inl (fun _ => 0)), .inl (0, 960, .inl (upd (upd (upd (upd (upd (fun _ => 0) 0 (nI 2)) 1 ((-10))) 2 ((-25))) 3 ((-10))) 4 (nI 0))), .inl (0, 18, .inl (upd (upd (upd (fun _ => 0) 0 (nI 3)) 1 (nI 4)) 2 (nI 5))), .inl (2, 72, .inl (upd (upd (upd (upd (upd (upd (upd (upd (upd (upd (upd (upd (upd (upd (upd (upd (upd (upd (upd (upd (upd (upd (upd (upd (upd (upd (upd (upd (upd (upd (upd (upd (upd (upd (upd (upd (upd (upd (upd (upd (upd (upd (upd (upd (upd (upd (upd (upd (upd (upd (upd (upd (upd (upd (upd (upd (upd (upd (upd (upd (upd (upd (upd (upd (upd (upd (upd (upd (upd (upd (upd (upd (fun _ => 0) 0 (nI 109)) 1 (nI 97)) 2 (nI 114)) 3 (nI 107)) 4 (nI 0)) 5 (nI 0)) 6 (nI 114)) 7 (nI 111)) 8 (nI 119)) 9 (nI 0)) 10 (nI 0)) 11 (nI 0)) 12 (nI 99)) 13 (nI 111)) 14 (nI 108)) 15 (nI 117)) 16 (nI 109)) 17 (nI 110)) 18 (nI 116)) 19 (nI 105)) 20 (nI 100)) 21 (nI 101)) 22 (nI 0)) 23 (nI 0)) 24 (nI 110)) 25 (nI 117)) 26 (nI 109)) 27 (nI 98)) 28 (nI 101)) 29 (nI 114)) 30 (nI 98)) 31 (nI 101)) 32 (nI 115)) 33 (nI 105)) 34 (nI 100)) 35 (nI 101)) 36 (nI 116)) 37 (nI 97)) 38 (nI 107)) 39 (nI 101)) 40 (nI 115)) 41 (nI 0)) 42 (nI 108)) 43 (nI 97)) 44 (nI 121)) 45 (nI 115)) 46 (nI 0)) 47 (nI 0)) 48 (nI 108)) 49 (nI 101)) 50 (nI 97)) 51 (nI 118)) 52 (nI 101)) 53 (nI 115)) 54 (nI 111)) 55 (nI 114)) 56 (nI 0)) 57 (nI 0)) 58 (nI 0)) 59 (nI 0)) 60 (nI 97)) 61 (nI 110)) 62 (nI 100)) 63 (nI 0)) 64 (nI 0)) 65 (nI 0)) 66 (nI 110)) 67 (nI 111)) 68 (nI 116)) 69 (nI 0)) 70 (nI 0)) 71 (nI 0))), .inl (0, 160, .inl (fun _ => 0)), .inl (0, 160, .inl (fun _ => 0)), .inl (0, 36, .inl (fun _ => 0)), .inl (1, 36, .inl (fun _ => 0)), .inl (0, 7, .inl (fun _ => 0)), .inl (0, 28, .inl (fun _ => 0)), .inl (0, 4, .inl (fun _ => 0)), .inl (0, 4, .inl (fun _ => 0)), .inl (0, 4, .inl (upd (upd (upd (upd (fun _ => 0) 0 ((-1))) 1 ((-1))) 2 ((-1))) 3 ((-1)))), .inl (0, 4, .inl (fun _ => 0)), .inl (0, 160, .inl (fun _ => 0)), .inl (0, 40, .inl (fun _ => 0)), .inl (0, 6, .inl (upd (upd (upd (upd (upd (upd (fun _ => 0) 0 ((-1))) 1 (nI 0)) 2 (nI 0)) 3 (nI 1)) 4 (nI 2)) 5 (nI 0)))] → Q none h') : wc d 131 [.ref b] (mx_new h (mx_nf 9) (.inr (9, mx_defs 9))) Q := by
  rw [show mx_new h (mx_nf 9) (.inr (9, mx_defs 9)) = hp h b 36 [.inr (9, [.null, .null, .null, .int 0, .null, .int 0, .int 0, .int 0, .int 0, .int 0, .null, .null, .int 0, .int 0, .null, .null, .int 0, .null, .int 0, .int 0, .int 0, .null, .null, .int 0, .null, .null, .int 0, .int 0, .int 0, .null, .null, .null, .null, .null, .null, .null])] from hp_one h1]
  refine wc.go [_] rfl ?_
  refine q_aload_n (pc := 0) rfl rfl rfl ?_
  refine q_obj (pc := 1) rfl rfl ?_
  refine q_aload_n (pc := 4) rfl rfl rfl ?_
  refine q_bipush (pc := 5) rfl (nI 91) (by decide) ?_
  refine k_newI (pc := 7) 1 127 [_, _] rfl rfl (by decide) rfl (by show _ < 1000000; omega) rfl rfl ?_
  refine k_putf (fs' := [_, _, _, _, _, _, _, _, _, _, _, _, _, _, _, _, _, _, _, _, _, _, _, _, _, _, _, _, _, _, _, _, _, _, _, _]) (j := 0) (pc := 9) [_, _] rfl rfl rfl rfl (Nat.le_of_ble_eq_true rfl) rfl rfl rfl ?_
  refine q_aload_n (pc := 12) rfl rfl rfl ?_
  refine q_bipush (pc := 13) rfl (nI 91) (by decide) ?_
  refine k_newI (pc := 15) 2 218 [_, _, _] rfl rfl (by decide) rfl (by show _ < 1000000; omega) rfl rfl ?_
  refine k_putf (fs' := [_, _, _, _, _, _, _, _, _, _, _, _, _, _, _, _, _, _, _, _, _, _, _, _, _, _, _, _, _, _, _, _, _, _, _, _]) (j := 0) (pc := 17) [_, _, _] rfl rfl rfl rfl (Nat.le_of_ble_eq_true rfl) rfl rfl rfl ?_
  refine q_aload_n (pc := 20) rfl rfl rfl ?_
  refine q_bipush (pc := 21) rfl (nI 91) (by decide) ?_
  refine k_newI (pc := 23) 3 309 [_, _, _, _] rfl rfl (by decide) rfl (by show _ < 1000000; omega) rfl rfl ?_
  refine k_putf (fs' := [_, _, _, _, _, _, _, _, _, _, _, _, _, _, _, _, _, _, _, _, _, _, _, _, _, _, _, _, _, _, _, _, _, _, _, _]) (j := 0) (pc := 25) [_, _, _, _] rfl rfl rfl rfl (Nat.le_of_ble_eq_true rfl) rfl rfl rfl ?_
  refine q_aload_n (pc := 28) rfl rfl rfl ?_
  refine q_sipush (pc := 29) rfl (nI 160) (by decide) ?_
  refine k_newI (pc := 32) 4 469 [_, _, _, _, _] rfl rfl (by decide) rfl (by show _ < 1000000; omega) rfl rfl ?_
  refine k_putf (fs' := [_, _, _, _, _, _, _, _, _, _, _, _, _, _, _, _, _, _, _, _, _, _, _, _, _, _, _, _, _, _, _, _, _, _, _, _]) (j := 0) (pc := 34) [_, _, _, _, _] rfl rfl rfl rfl (Nat.le_of_ble_eq_true rfl) rfl rfl rfl ?_
  refine q_aload_n (pc := 37) rfl rfl rfl ?_
  refine q_sipush (pc := 38) rfl (nI 960) (by decide) ?_
  refine k_newI (pc := 41) 5 1429 [_, _, _, _, _, _] rfl rfl (by decide) rfl (by show _ < 1000000; omega) rfl rfl ?_
  refine k_putf (fs' := [_, _, _, _, _, _, _, _, _, _, _, _, _, _, _, _, _, _, _, _, _, _, _, _, _, _, _, _, _, _, _, _, _, _, _, _]) (j := 0) (pc := 43) [_, _, _, _, _, _] rfl rfl rfl rfl (Nat.le_of_ble_eq_true rfl) rfl rfl rfl ?_
  refine q_aload_n (pc := 46) rfl rfl rfl ?_
  refine q_bipush (pc := 47) rfl (nI 18) (by decide) ?_
  refine k_newI (pc := 49) 6 1447 [_, _, _, _, _, _, _] rfl rfl (by decide) rfl (by show _ < 1000000; omega) rfl rfl ?_
  refine k_putf (fs' := [_, _, _, _, _, _, _, _, _, _, _, _, _, _, _, _, _, _, _, _, _, _, _, _, _, _, _, _, _, _, _, _, _, _, _, _]) (j := 0) (pc := 51) [_, _, _, _, _, _, _] rfl rfl rfl rfl (Nat.le_of_ble_eq_true rfl) rfl rfl rfl ?_
  refine q_aload_n (pc := 54) rfl rfl rfl ?_
  refine q_aload_n (pc := 55) rfl rfl rfl ?_
  refine q_callV (pc := 56) _ rfl rfl rfl (hp_at (j := 0) rfl) rfl (Nat.le_of_ble_eq_true rfl) (by omega) _ rfl ?_
  refine wc.go [_] rfl ?_
  refine q_aload_n (pc := 0) rfl rfl rfl ?_
  refine q_getf (pc := 1) rfl (hp_at (j := 0) rfl) rfl rfl ?_
  refine q_iconst (pc := 4) rfl (nI 0) (by decide) ?_
  refine q_iconst (pc := 5) rfl (nI 2) (by decide) ?_
  refine k_ist (i := 0) (j := 5) (pc := 6) [_, _, _, _, _, _, _] rfl rfl rfl (by show _ < 1000000; omega) rfl (by decide) (by decide) rfl ?_
  refine q_aload_n (pc := 7) rfl rfl rfl ?_
  refine q_getf (pc := 8) rfl (hp_at (j := 0) rfl) rfl rfl ?_
  refine q_iconst (pc := 11) rfl (nI 1) (by decide) ?_
  refine q_bipush (pc := 12) rfl ((-10)) (by decide) ?_
  refine k_ist (i := 1) (j := 5) (pc := 14) [_, _, _, _, _, _, _] rfl rfl rfl (by show _ < 1000000; omega) rfl (by decide) (by decide) rfl ?_
  refine q_aload_n (pc := 15) rfl rfl rfl ?_
  refine q_getf (pc := 16) rfl (hp_at (j := 0) rfl) rfl rfl ?_
  refine q_iconst (pc := 19) rfl (nI 2) (by decide) ?_
  refine q_bipush (pc := 20) rfl ((-25)) (by decide) ?_
  refine k_ist (i := 2) (j := 5) (pc := 22) [_, _, _, _, _, _, _] rfl rfl rfl (by show _ < 1000000; omega) rfl (by decide) (by decide) rfl ?_
  refine q_aload_n (pc := 23) rfl rfl rfl ?_
  refine q_getf (pc := 24) rfl (hp_at (j := 0) rfl) rfl rfl ?_
  refine q_iconst (pc := 27) rfl (nI 3) (by decide) ?_
  refine q_bipush (pc := 28) rfl ((-10)) (by decide) ?_
  refine k_ist (i := 3) (j := 5) (pc := 30) [_, _, _, _, _, _, _] rfl rfl rfl (by show _ < 1000000; omega) rfl (by decide) (by decide) rfl ?_
  refine q_aload_n (pc := 31) rfl rfl rfl ?_
  refine q_getf (pc := 32) rfl (hp_at (j := 0) rfl) rfl rfl ?_
  refine q_iconst (pc := 35) rfl (nI 4) (by decide) ?_
  refine q_iconst (pc := 36) rfl (nI 0) (by decide) ?_
  refine k_ist (i := 4) (j := 5) (pc := 37) [_, _, _, _, _, _, _] rfl rfl rfl (by show _ < 1000000; omega) rfl (by decide) (by decide) rfl ?_
  refine q_aload_n (pc := 38) rfl rfl rfl ?_
  refine q_getf (pc := 39) rfl (hp_at (j := 0) rfl) rfl rfl ?_
  refine q_iconst (pc := 42) rfl (nI 0) (by decide) ?_
  refine q_iconst (pc := 43) rfl (nI 3) (by decide) ?_
  refine k_ist (i := 0) (j := 6) (pc := 44) [_, _, _, _, _, _, _] rfl rfl rfl (by show _ < 1000000; omega) rfl (by decide) (by decide) rfl ?_
  refine q_aload_n (pc := 45) rfl rfl rfl ?_
  refine q_getf (pc := 46) rfl (hp_at (j := 0) rfl) rfl rfl ?_
  refine q_iconst (pc := 49) rfl (nI 1) (by decide) ?_
  refine q_iconst (pc := 50) rfl (nI 4) (by decide) ?_
  refine k_ist (i := 1) (j := 6) (pc := 51) [_, _, _, _, _, _, _] rfl rfl rfl (by show _ < 1000000; omega) rfl (by decide) (by decide) rfl ?_
  refine q_aload_n (pc := 52) rfl rfl rfl ?_
  refine q_getf (pc := 53) rfl (hp_at (j := 0) rfl) rfl rfl ?_
  refine q_iconst (pc := 56) rfl (nI 2) (by decide) ?_
  refine q_iconst (pc := 57) rfl (nI 5) (by decide) ?_
  refine k_ist (i := 2) (j := 6) (pc := 58) [_, _, _, _, _, _, _] rfl rfl rfl (by show _ < 1000000; omega) rfl (by decide) (by decide) rfl ?_
  refine q_iconst (pc := 59) rfl (nI 1) (by decide) ?_
  refine q_iret (pc := 60) rfl (rfl) ?_
  refine k_putf (fs' := [_, _, _, _, _, _, _, _, _, _, _, _, _, _, _, _, _, _, _, _, _, _, _, _, _, _, _, _, _, _, _, _, _, _, _, _]) (j := 0) (pc := 59) [_, _, _, _, _, _, _] rfl rfl rfl rfl (Nat.le_of_ble_eq_true rfl) rfl rfl rfl ?_
  refine q_aload_n (pc := 62) rfl rfl rfl ?_
  refine q_bipush (pc := 63) rfl (nI 72) (by decide) ?_
  refine k_newC (pc := 65) 7 1519 [_, _, _, _, _, _, _, _] rfl rfl (by decide) rfl (by show _ < 1000000; omega) rfl rfl ?_
  refine q_dup (pc := 67) rfl rfl ?_
  refine q_iconst (pc := 68) rfl (nI 0) (by decide) ?_
  refine q_bipush (pc := 69) rfl (nI 109) (by decide) ?_
  refine k_cst (i := 0) (j := 7) (z := nI 109) (pc := 71) [_, _, _, _, _, _, _, _] rfl rfl rfl (by show _ < 1000000; omega) rfl (by decide) (by decide) (by decide) rfl ?_
  refine q_dup (pc := 72) rfl rfl ?_
  refine q_iconst (pc := 73) rfl (nI 1) (by decide) ?_
  refine q_bipush (pc := 74) rfl (nI 97) (by decide) ?_
  refine k_cst (i := 1) (j := 7) (z := nI 97) (pc := 76) [_, _, _, _, _, _, _, _] rfl rfl rfl (by show _ < 1000000; omega) rfl (by decide) (by decide) (by decide) rfl ?_
  refine q_dup (pc := 77) rfl rfl ?_
  refine q_iconst (pc := 78) rfl (nI 2) (by decide) ?_
  refine q_bipush (pc := 79) rfl (nI 114) (by decide) ?_
  refine k_cst (i := 2) (j := 7) (z := nI 114) (pc := 81) [_, _, _, _, _, _, _, _] rfl rfl rfl (by show _ < 1000000; omega) rfl (by decide) (by decide) (by decide) rfl ?_
  refine q_dup (pc := 82) rfl rfl ?_
  refine q_iconst (pc := 83) rfl (nI 3) (by decide) ?_
  refine q_bipush (pc := 84) rfl (nI 107) (by decide) ?_
  refine k_cst (i := 3) (j := 7) (z := nI 107) (pc := 86) [_, _, _, _, _, _, _, _] rfl rfl rfl (by show _ < 1000000; omega) rfl (by decide) (by decide) (by decide) rfl ?_
  refine q_dup (pc := 87) rfl rfl ?_
  refine q_iconst (pc := 88) rfl (nI 4) (by decide) ?_
  refine q_iconst (pc := 89) rfl (nI 0) (by decide) ?_
  refine k_cst (i := 4) (j := 7) (z := nI 0) (pc := 90) [_, _, _, _, _, _, _, _] rfl rfl rfl (by show _ < 1000000; omega) rfl (by decide) (by decide) (by decide) rfl ?_
  refine q_dup (pc := 91) rfl rfl ?_
  refine q_iconst (pc := 92) rfl (nI 5) (by decide) ?_
  refine q_iconst (pc := 93) rfl (nI 0) (by decide) ?_
  refine k_cst (i := 5) (j := 7) (z := nI 0) (pc := 94) [_, _, _, _, _, _, _, _] rfl rfl rfl (by show _ < 1000000; omega) rfl (by decide) (by decide) (by decide) rfl ?_
  refine q_dup (pc := 95) rfl rfl ?_
  refine q_bipush (pc := 96) rfl (nI 6) (by decide) ?_
  refine q_bipush (pc := 98) rfl (nI 114) (by decide) ?_
  refine k_cst (i := 6) (j := 7) (z := nI 114) (pc := 100) [_, _, _, _, _, _, _, _] rfl rfl rfl (by show _ < 1000000; omega) rfl (by decide) (by decide) (by decide) rfl ?_
  refine q_dup (pc := 101) rfl rfl ?_
  refine q_bipush (pc := 102) rfl (nI 7) (by decide) ?_
  refine q_bipush (pc := 104) rfl (nI 111) (by decide) ?_
  refine k_cst (i := 7) (j := 7) (z := nI 111) (pc := 106) [_, _, _, _, _, _, _, _] rfl rfl rfl (by show _ < 1000000; omega) rfl (by decide) (by decide) (by decide) rfl ?_
  refine q_dup (pc := 107) rfl rfl ?_
  refine q_bipush (pc := 108) rfl (nI 8) (by decide) ?_
  refine q_bipush (pc := 110) rfl (nI 119) (by decide) ?_
  refine k_cst (i := 8) (j := 7) (z := nI 119) (pc := 112) [_, _, _, _, _, _, _, _] rfl rfl rfl (by show _ < 1000000; omega) rfl (by decide) (by decide) (by decide) rfl ?_
  refine q_dup (pc := 113) rfl rfl ?_
  refine q_bipush (pc := 114) rfl (nI 9) (by decide) ?_
  refine q_iconst (pc := 116) rfl (nI 0) (by decide) ?_
  refine k_cst (i := 9) (j := 7) (z := nI 0) (pc := 117) [_, _, _, _, _, _, _, _] rfl rfl rfl (by show _ < 1000000; omega) rfl (by decide) (by decide) (by decide) rfl ?_
  refine q_dup (pc := 118) rfl rfl ?_
  refine q_bipush (pc := 119) rfl (nI 10) (by decide) ?_
  refine q_iconst (pc := 121) rfl (nI 0) (by decide) ?_
  refine k_cst (i := 10) (j := 7) (z := nI 0) (pc := 122) [_, _, _, _, _, _, _, _] rfl rfl rfl (by show _ < 1000000; omega) rfl (by decide) (by decide) (by decide) rfl ?_
  refine q_dup (pc := 123) rfl rfl ?_
  refine q_bipush (pc := 124) rfl (nI 11) (by decide) ?_
  refine q_iconst (pc := 126) rfl (nI 0) (by decide) ?_
  refine k_cst (i := 11) (j := 7) (z := nI 0) (pc := 127) [_, _, _, _, _, _, _, _] rfl rfl rfl (by show _ < 1000000; omega) rfl (by decide) (by decide) (by decide) rfl ?_
  refine q_dup (pc := 128) rfl rfl ?_
  refine q_bipush (pc := 129) rfl (nI 12) (by decide) ?_
  refine q_bipush (pc := 131) rfl (nI 99) (by decide) ?_
  refine k_cst (i := 12) (j := 7) (z := nI 99) (pc := 133) [_, _, _, _, _, _, _, _] rfl rfl rfl (by show _ < 1000000; omega) rfl (by decide) (by decide) (by decide) rfl ?_
  refine q_dup (pc := 134) rfl rfl ?_
  refine q_bipush (pc := 135) rfl (nI 13) (by decide) ?_
  refine q_bipush (pc := 137) rfl (nI 111) (by decide) ?_
  refine k_cst (i := 13) (j := 7) (z := nI 111) (pc := 139) [_, _, _, _, _, _, _, _] rfl rfl rfl (by show _ < 1000000; omega) rfl (by decide) (by decide) (by decide) rfl ?_
  refine q_dup (pc := 140) rfl rfl ?_
  refine q_bipush (pc := 141) rfl (nI 14) (by decide) ?_
  refine q_bipush (pc := 143) rfl (nI 108) (by decide) ?_
  refine k_cst (i := 14) (j := 7) (z := nI 108) (pc := 145) [_, _, _, _, _, _, _, _] rfl rfl rfl (by show _ < 1000000; omega) rfl (by decide) (by decide) (by decide) rfl ?_
  refine q_dup (pc := 146) rfl rfl ?_
  refine q_bipush (pc := 147) rfl (nI 15) (by decide) ?_
  refine q_bipush (pc := 149) rfl (nI 117) (by decide) ?_
  refine k_cst (i := 15) (j := 7) (z := nI 117) (pc := 151) [_, _, _, _, _, _, _, _] rfl rfl rfl (by show _ < 1000000; omega) rfl (by decide) (by decide) (by decide) rfl ?_
  refine q_dup (pc := 152) rfl rfl ?_
  refine q_bipush (pc := 153) rfl (nI 16) (by decide) ?_
  refine q_bipush (pc := 155) rfl (nI 109) (by decide) ?_
  refine k_cst (i := 16) (j := 7) (z := nI 109) (pc := 157) [_, _, _, _, _, _, _, _] rfl rfl rfl (by show _ < 1000000; omega) rfl (by decide) (by decide) (by decide) rfl ?_
  refine q_dup (pc := 158) rfl rfl ?_
  refine q_bipush (pc := 159) rfl (nI 17) (by decide) ?_
  refine q_bipush (pc := 161) rfl (nI 110) (by decide) ?_
  refine k_cst (i := 17) (j := 7) (z := nI 110) (pc := 163) [_, _, _, _, _, _, _, _] rfl rfl rfl (by show _ < 1000000; omega) rfl (by decide) (by decide) (by decide) rfl ?_
  refine q_dup (pc := 164) rfl rfl ?_
  refine q_bipush (pc := 165) rfl (nI 18) (by decide) ?_
  refine q_bipush (pc := 167) rfl (nI 116) (by decide) ?_
  refine k_cst (i := 18) (j := 7) (z := nI 116) (pc := 169) [_, _, _, _, _, _, _, _] rfl rfl rfl (by show _ < 1000000; omega) rfl (by decide) (by decide) (by decide) rfl ?_
  refine q_dup (pc := 170) rfl rfl ?_
  refine q_bipush (pc := 171) rfl (nI 19) (by decide) ?_
  refine q_bipush (pc := 173) rfl (nI 105) (by decide) ?_
  refine k_cst (i := 19) (j := 7) (z := nI 105) (pc := 175) [_, _, _, _, _, _, _, _] rfl rfl rfl (by show _ < 1000000; omega) rfl (by decide) (by decide) (by decide) rfl ?_
  refine q_dup (pc := 176) rfl rfl ?_
  refine q_bipush (pc := 177) rfl (nI 20) (by decide) ?_
  refine q_bipush (pc := 179) rfl (nI 100) (by decide) ?_
  refine k_cst (i := 20) (j := 7) (z := nI 100) (pc := 181) [_, _, _, _, _, _, _, _] rfl rfl rfl (by show _ < 1000000; omega) rfl (by decide) (by decide) (by decide) rfl ?_
  refine q_dup (pc := 182) rfl rfl ?_
  refine q_bipush (pc := 183) rfl (nI 21) (by decide) ?_
  refine q_bipush (pc := 185) rfl (nI 101) (by decide) ?_
  refine k_cst (i := 21) (j := 7) (z := nI 101) (pc := 187) [_, _, _, _, _, _, _, _] rfl rfl rfl (by show _ < 1000000; omega) rfl (by decide) (by decide) (by decide) rfl ?_
  refine q_dup (pc := 188) rfl rfl ?_
  refine q_bipush (pc := 189) rfl (nI 22) (by decide) ?_
  refine q_iconst (pc := 191) rfl (nI 0) (by decide) ?_
  refine k_cst (i := 22) (j := 7) (z := nI 0) (pc := 192) [_, _, _, _, _, _, _, _] rfl rfl rfl (by show _ < 1000000; omega) rfl (by decide) (by decide) (by decide) rfl ?_
  refine q_dup (pc := 193) rfl rfl ?_
  refine q_bipush (pc := 194) rfl (nI 23) (by decide) ?_
  refine q_iconst (pc := 196) rfl (nI 0) (by decide) ?_
  refine k_cst (i := 23) (j := 7) (z := nI 0) (pc := 197) [_, _, _, _, _, _, _, _] rfl rfl rfl (by show _ < 1000000; omega) rfl (by decide) (by decide) (by decide) rfl ?_
  refine q_dup (pc := 198) rfl rfl ?_
  refine q_bipush (pc := 199) rfl (nI 24) (by decide) ?_
  refine q_bipush (pc := 201) rfl (nI 110) (by decide) ?_
  refine k_cst (i := 24) (j := 7) (z := nI 110) (pc := 203) [_, _, _, _, _, _, _, _] rfl rfl rfl (by show _ < 1000000; omega) rfl (by decide) (by decide) (by decide) rfl ?_
  refine q_dup (pc := 204) rfl rfl ?_
  refine q_bipush (pc := 205) rfl (nI 25) (by decide) ?_
  refine q_bipush (pc := 207) rfl (nI 117) (by decide) ?_
  refine k_cst (i := 25) (j := 7) (z := nI 117) (pc := 209) [_, _, _, _, _, _, _, _] rfl rfl rfl (by show _ < 1000000; omega) rfl (by decide) (by decide) (by decide) rfl ?_
  refine q_dup (pc := 210) rfl rfl ?_
  refine q_bipush (pc := 211) rfl (nI 26) (by decide) ?_
  refine q_bipush (pc := 213) rfl (nI 109) (by decide) ?_
  refine k_cst (i := 26) (j := 7) (z := nI 109) (pc := 215) [_, _, _, _, _, _, _, _] rfl rfl rfl (by show _ < 1000000; omega) rfl (by decide) (by decide) (by decide) rfl ?_
  refine q_dup (pc := 216) rfl rfl ?_
  refine q_bipush (pc := 217) rfl (nI 27) (by decide) ?_
  refine q_bipush (pc := 219) rfl (nI 98) (by decide) ?_
  refine k_cst (i := 27) (j := 7) (z := nI 98) (pc := 221) [_, _, _, _, _, _, _, _] rfl rfl rfl (by show _ < 1000000; omega) rfl (by decide) (by decide) (by decide) rfl ?_
  refine q_dup (pc := 222) rfl rfl ?_
  refine q_bipush (pc := 223) rfl (nI 28) (by decide) ?_
  refine q_bipush (pc := 225) rfl (nI 101) (by decide) ?_
  refine k_cst (i := 28) (j := 7) (z := nI 101) (pc := 227) [_, _, _, _, _, _, _, _] rfl rfl rfl (by show _ < 1000000; omega) rfl (by decide) (by decide) (by decide) rfl ?_
  refine q_dup (pc := 228) rfl rfl ?_
  refine q_bipush (pc := 229) rfl (nI 29) (by decide) ?_
  refine q_bipush (pc := 231) rfl (nI 114) (by decide) ?_
  refine k_cst (i := 29) (j := 7) (z := nI 114) (pc := 233) [_, _, _, _, _, _, _, _] rfl rfl rfl (by show _ < 1000000; omega) rfl (by decide) (by decide) (by decide) rfl ?_
  refine q_dup (pc := 234) rfl rfl ?_
  refine q_bipush (pc := 235) rfl (nI 30) (by decide) ?_
  refine q_bipush (pc := 237) rfl (nI 98) (by decide) ?_
  refine k_cst (i := 30) (j := 7) (z := nI 98) (pc := 239) [_, _, _, _, _, _, _, _] rfl rfl rfl (by show _ < 1000000; omega) rfl (by decide) (by decide) (by decide) rfl ?_
  refine q_dup (pc := 240) rfl rfl ?_
  refine q_bipush (pc := 241) rfl (nI 31) (by decide) ?_
  refine q_bipush (pc := 243) rfl (nI 101) (by decide) ?_
  refine k_cst (i := 31) (j := 7) (z := nI 101) (pc := 245) [_, _, _, _, _, _, _, _] rfl rfl rfl (by show _ < 1000000; omega) rfl (by decide) (by decide) (by decide) rfl ?_
  refine q_dup (pc := 246) rfl rfl ?_
  refine q_bipush (pc := 247) rfl (nI 32) (by decide) ?_
  refine q_bipush (pc := 249) rfl (nI 115) (by decide) ?_
  refine k_cst (i := 32) (j := 7) (z := nI 115) (pc := 251) [_, _, _, _, _, _, _, _] rfl rfl rfl (by show _ < 1000000; omega) rfl (by decide) (by decide) (by decide) rfl ?_
  refine q_dup (pc := 252) rfl rfl ?_
  refine q_bipush (pc := 253) rfl (nI 33) (by decide) ?_
  refine q_bipush (pc := 255) rfl (nI 105) (by decide) ?_
  refine k_cst (i := 33) (j := 7) (z := nI 105) (pc := 257) [_, _, _, _, _, _, _, _] rfl rfl rfl (by show _ < 1000000; omega) rfl (by decide) (by decide) (by decide) rfl ?_
  refine q_dup (pc := 258) rfl rfl ?_
  refine q_bipush (pc := 259) rfl (nI 34) (by decide) ?_
  refine q_bipush (pc := 261) rfl (nI 100) (by decide) ?_
  refine k_cst (i := 34) (j := 7) (z := nI 100) (pc := 263) [_, _, _, _, _, _, _, _] rfl rfl rfl (by show _ < 1000000; omega) rfl (by decide) (by decide) (by decide) rfl ?_
  refine q_dup (pc := 264) rfl rfl ?_
  refine q_bipush (pc := 265) rfl (nI 35) (by decide) ?_
  refine q_bipush (pc := 267) rfl (nI 101) (by decide) ?_
  refine k_cst (i := 35) (j := 7) (z := nI 101) (pc := 269) [_, _, _, _, _, _, _, _] rfl rfl rfl (by show _ < 1000000; omega) rfl (by decide) (by decide) (by decide) rfl ?_
  refine q_dup (pc := 270) rfl rfl ?_
  refine q_bipush (pc := 271) rfl (nI 36) (by decide) ?_
  refine q_bipush (pc := 273) rfl (nI 116) (by decide) ?_
  refine k_cst (i := 36) (j := 7) (z := nI 116) (pc := 275) [_, _, _, _, _, _, _, _] rfl rfl rfl (by show _ < 1000000; omega) rfl (by decide) (by decide) (by decide) rfl ?_
  refine q_dup (pc := 276) rfl rfl ?_
  refine q_bipush (pc := 277) rfl (nI 37) (by decide) ?_
  refine q_bipush (pc := 279) rfl (nI 97) (by decide) ?_
  refine k_cst (i := 37) (j := 7) (z := nI 97) (pc := 281) [_, _, _, _, _, _, _, _] rfl rfl rfl (by show _ < 1000000; omega) rfl (by decide) (by decide) (by decide) rfl ?_
  refine q_dup (pc := 282) rfl rfl ?_
  refine q_bipush (pc := 283) rfl (nI 38) (by decide) ?_
  refine q_bipush (pc := 285) rfl (nI 107) (by decide) ?_
  refine k_cst (i := 38) (j := 7) (z := nI 107) (pc := 287) [_, _, _, _, _, _, _, _] rfl rfl rfl (by show _ < 1000000; omega) rfl (by decide) (by decide) (by decide) rfl ?_
  refine q_dup (pc := 288) rfl rfl ?_
  refine q_bipush (pc := 289) rfl (nI 39) (by decide) ?_
  refine q_bipush (pc := 291) rfl (nI 101) (by decide) ?_
  refine k_cst (i := 39) (j := 7) (z := nI 101) (pc := 293) [_, _, _, _, _, _, _, _] rfl rfl rfl (by show _ < 1000000; omega) rfl (by decide) (by decide) (by decide) rfl ?_
  refine q_dup (pc := 294) rfl rfl ?_
  refine q_bipush (pc := 295) rfl (nI 40) (by decide) ?_
  refine q_bipush (pc := 297) rfl (nI 115) (by decide) ?_
  refine k_cst (i := 40) (j := 7) (z := nI 115) (pc := 299) [_, _, _, _, _, _, _, _] rfl rfl rfl (by show _ < 1000000; omega) rfl (by decide) (by decide) (by decide) rfl ?_
  refine q_dup (pc := 300) rfl rfl ?_
  refine q_bipush (pc := 301) rfl (nI 41) (by decide) ?_
  refine q_iconst (pc := 303) rfl (nI 0) (by decide) ?_
  refine k_cst (i := 41) (j := 7) (z := nI 0) (pc := 304) [_, _, _, _, _, _, _, _] rfl rfl rfl (by show _ < 1000000; omega) rfl (by decide) (by decide) (by decide) rfl ?_
  refine q_dup (pc := 305) rfl rfl ?_
  refine q_bipush (pc := 306) rfl (nI 42) (by decide) ?_
  refine q_bipush (pc := 308) rfl (nI 108) (by decide) ?_
  refine k_cst (i := 42) (j := 7) (z := nI 108) (pc := 310) [_, _, _, _, _, _, _, _] rfl rfl rfl (by show _ < 1000000; omega) rfl (by decide) (by decide) (by decide) rfl ?_
  refine q_dup (pc := 311) rfl rfl ?_
  refine q_bipush (pc := 312) rfl (nI 43) (by decide) ?_
  refine q_bipush (pc := 314) rfl (nI 97) (by decide) ?_
  refine k_cst (i := 43) (j := 7) (z := nI 97) (pc := 316) [_, _, _, _, _, _, _, _] rfl rfl rfl (by show _ < 1000000; omega) rfl (by decide) (by decide) (by decide) rfl ?_
  refine q_dup (pc := 317) rfl rfl ?_
  refine q_bipush (pc := 318) rfl (nI 44) (by decide) ?_
  refine q_bipush (pc := 320) rfl (nI 121) (by decide) ?_
  refine k_cst (i := 44) (j := 7) (z := nI 121) (pc := 322) [_, _, _, _, _, _, _, _] rfl rfl rfl (by show _ < 1000000; omega) rfl (by decide) (by decide) (by decide) rfl ?_
  refine q_dup (pc := 323) rfl rfl ?_
  refine q_bipush (pc := 324) rfl (nI 45) (by decide) ?_
  refine q_bipush (pc := 326) rfl (nI 115) (by decide) ?_
  refine k_cst (i := 45) (j := 7) (z := nI 115) (pc := 328) [_, _, _, _, _, _, _, _] rfl rfl rfl (by show _ < 1000000; omega) rfl (by decide) (by decide) (by decide) rfl ?_
  refine q_dup (pc := 329) rfl rfl ?_
  refine q_bipush (pc := 330) rfl (nI 46) (by decide) ?_
  refine q_iconst (pc := 332) rfl (nI 0) (by decide) ?_
  refine k_cst (i := 46) (j := 7) (z := nI 0) (pc := 333) [_, _, _, _, _, _, _, _] rfl rfl rfl (by show _ < 1000000; omega) rfl (by decide) (by decide) (by decide) rfl ?_
  refine q_dup (pc := 334) rfl rfl ?_
  refine q_bipush (pc := 335) rfl (nI 47) (by decide) ?_
  refine q_iconst (pc := 337) rfl (nI 0) (by decide) ?_
  refine k_cst (i := 47) (j := 7) (z := nI 0) (pc := 338) [_, _, _, _, _, _, _, _] rfl rfl rfl (by show _ < 1000000; omega) rfl (by decide) (by decide) (by decide) rfl ?_
  refine q_dup (pc := 339) rfl rfl ?_
  refine q_bipush (pc := 340) rfl (nI 48) (by decide) ?_
  refine q_bipush (pc := 342) rfl (nI 108) (by decide) ?_
  refine k_cst (i := 48) (j := 7) (z := nI 108) (pc := 344) [_, _, _, _, _, _, _, _] rfl rfl rfl (by show _ < 1000000; omega) rfl (by decide) (by decide) (by decide) rfl ?_
  refine q_dup (pc := 345) rfl rfl ?_
  refine q_bipush (pc := 346) rfl (nI 49) (by decide) ?_
  refine q_bipush (pc := 348) rfl (nI 101) (by decide) ?_
  refine k_cst (i := 49) (j := 7) (z := nI 101) (pc := 350) [_, _, _, _, _, _, _, _] rfl rfl rfl (by show _ < 1000000; omega) rfl (by decide) (by decide) (by decide) rfl ?_
  refine q_dup (pc := 351) rfl rfl ?_
  refine q_bipush (pc := 352) rfl (nI 50) (by decide) ?_
  refine q_bipush (pc := 354) rfl (nI 97) (by decide) ?_
  refine k_cst (i := 50) (j := 7) (z := nI 97) (pc := 356) [_, _, _, _, _, _, _, _] rfl rfl rfl (by show _ < 1000000; omega) rfl (by decide) (by decide) (by decide) rfl ?_
  refine q_dup (pc := 357) rfl rfl ?_
  refine q_bipush (pc := 358) rfl (nI 51) (by decide) ?_
  refine q_bipush (pc := 360) rfl (nI 118) (by decide) ?_
  refine k_cst (i := 51) (j := 7) (z := nI 118) (pc := 362) [_, _, _, _, _, _, _, _] rfl rfl rfl (by show _ < 1000000; omega) rfl (by decide) (by decide) (by decide) rfl ?_
  refine q_dup (pc := 363) rfl rfl ?_
  refine q_bipush (pc := 364) rfl (nI 52) (by decide) ?_
  refine q_bipush (pc := 366) rfl (nI 101) (by decide) ?_
  refine k_cst (i := 52) (j := 7) (z := nI 101) (pc := 368) [_, _, _, _, _, _, _, _] rfl rfl rfl (by show _ < 1000000; omega) rfl (by decide) (by decide) (by decide) rfl ?_
  refine q_dup (pc := 369) rfl rfl ?_
  refine q_bipush (pc := 370) rfl (nI 53) (by decide) ?_
  refine q_bipush (pc := 372) rfl (nI 115) (by decide) ?_
  refine k_cst (i := 53) (j := 7) (z := nI 115) (pc := 374) [_, _, _, _, _, _, _, _] rfl rfl rfl (by show _ < 1000000; omega) rfl (by decide) (by decide) (by decide) rfl ?_
  refine q_dup (pc := 375) rfl rfl ?_
  refine q_bipush (pc := 376) rfl (nI 54) (by decide) ?_
  refine q_bipush (pc := 378) rfl (nI 111) (by decide) ?_
  refine k_cst (i := 54) (j := 7) (z := nI 111) (pc := 380) [_, _, _, _, _, _, _, _] rfl rfl rfl (by show _ < 1000000; omega) rfl (by decide) (by decide) (by decide) rfl ?_
  refine q_dup (pc := 381) rfl rfl ?_
  refine q_bipush (pc := 382) rfl (nI 55) (by decide) ?_
  refine q_bipush (pc := 384) rfl (nI 114) (by decide) ?_
  refine k_cst (i := 55) (j := 7) (z := nI 114) (pc := 386) [_, _, _, _, _, _, _, _] rfl rfl rfl (by show _ < 1000000; omega) rfl (by decide) (by decide) (by decide) rfl ?_
  refine q_dup (pc := 387) rfl rfl ?_
  refine q_bipush (pc := 388) rfl (nI 56) (by decide) ?_
  refine q_iconst (pc := 390) rfl (nI 0) (by decide) ?_
  refine k_cst (i := 56) (j := 7) (z := nI 0) (pc := 391) [_, _, _, _, _, _, _, _] rfl rfl rfl (by show _ < 1000000; omega) rfl (by decide) (by decide) (by decide) rfl ?_
  refine q_dup (pc := 392) rfl rfl ?_
  refine q_bipush (pc := 393) rfl (nI 57) (by decide) ?_
  refine q_iconst (pc := 395) rfl (nI 0) (by decide) ?_
  refine k_cst (i := 57) (j := 7) (z := nI 0) (pc := 396) [_, _, _, _, _, _, _, _] rfl rfl rfl (by show _ < 1000000; omega) rfl (by decide) (by decide) (by decide) rfl ?_
  refine q_dup (pc := 397) rfl rfl ?_
  refine q_bipush (pc := 398) rfl (nI 58) (by decide) ?_
  refine q_iconst (pc := 400) rfl (nI 0) (by decide) ?_
  refine k_cst (i := 58) (j := 7) (z := nI 0) (pc := 401) [_, _, _, _, _, _, _, _] rfl rfl rfl (by show _ < 1000000; omega) rfl (by decide) (by decide) (by decide) rfl ?_
  refine q_dup (pc := 402) rfl rfl ?_
  refine q_bipush (pc := 403) rfl (nI 59) (by decide) ?_
  refine q_iconst (pc := 405) rfl (nI 0) (by decide) ?_
  refine k_cst (i := 59) (j := 7) (z := nI 0) (pc := 406) [_, _, _, _, _, _, _, _] rfl rfl rfl (by show _ < 1000000; omega) rfl (by decide) (by decide) (by decide) rfl ?_
  refine q_dup (pc := 407) rfl rfl ?_
  refine q_bipush (pc := 408) rfl (nI 60) (by decide) ?_
  refine q_bipush (pc := 410) rfl (nI 97) (by decide) ?_
  refine k_cst (i := 60) (j := 7) (z := nI 97) (pc := 412) [_, _, _, _, _, _, _, _] rfl rfl rfl (by show _ < 1000000; omega) rfl (by decide) (by decide) (by decide) rfl ?_
  refine q_dup (pc := 413) rfl rfl ?_
  refine q_bipush (pc := 414) rfl (nI 61) (by decide) ?_
  refine q_bipush (pc := 416) rfl (nI 110) (by decide) ?_
  refine k_cst (i := 61) (j := 7) (z := nI 110) (pc := 418) [_, _, _, _, _, _, _, _] rfl rfl rfl (by show _ < 1000000; omega) rfl (by decide) (by decide) (by decide) rfl ?_
  refine q_dup (pc := 419) rfl rfl ?_
  refine q_bipush (pc := 420) rfl (nI 62) (by decide) ?_
  refine q_bipush (pc := 422) rfl (nI 100) (by decide) ?_
  refine k_cst (i := 62) (j := 7) (z := nI 100) (pc := 424) [_, _, _, _, _, _, _, _] rfl rfl rfl (by show _ < 1000000; omega) rfl (by decide) (by decide) (by decide) rfl ?_
  refine q_dup (pc := 425) rfl rfl ?_
  refine q_bipush (pc := 426) rfl (nI 63) (by decide) ?_
  refine q_iconst (pc := 428) rfl (nI 0) (by decide) ?_
  refine k_cst (i := 63) (j := 7) (z := nI 0) (pc := 429) [_, _, _, _, _, _, _, _] rfl rfl rfl (by show _ < 1000000; omega) rfl (by decide) (by decide) (by decide) rfl ?_
  refine q_dup (pc := 430) rfl rfl ?_
  refine q_bipush (pc := 431) rfl (nI 64) (by decide) ?_
  refine q_iconst (pc := 433) rfl (nI 0) (by decide) ?_
  refine k_cst (i := 64) (j := 7) (z := nI 0) (pc := 434) [_, _, _, _, _, _, _, _] rfl rfl rfl (by show _ < 1000000; omega) rfl (by decide) (by decide) (by decide) rfl ?_
  refine q_dup (pc := 435) rfl rfl ?_
  refine q_bipush (pc := 436) rfl (nI 65) (by decide) ?_
  refine q_iconst (pc := 438) rfl (nI 0) (by decide) ?_
  refine k_cst (i := 65) (j := 7) (z := nI 0) (pc := 439) [_, _, _, _, _, _, _, _] rfl rfl rfl (by show _ < 1000000; omega) rfl (by decide) (by decide) (by decide) rfl ?_
  refine q_dup (pc := 440) rfl rfl ?_
  refine q_bipush (pc := 441) rfl (nI 66) (by decide) ?_
  refine q_bipush (pc := 443) rfl (nI 110) (by decide) ?_
  refine k_cst (i := 66) (j := 7) (z := nI 110) (pc := 445) [_, _, _, _, _, _, _, _] rfl rfl rfl (by show _ < 1000000; omega) rfl (by decide) (by decide) (by decide) rfl ?_
  refine q_dup (pc := 446) rfl rfl ?_
  refine q_bipush (pc := 447) rfl (nI 67) (by decide) ?_
  refine q_bipush (pc := 449) rfl (nI 111) (by decide) ?_
  refine k_cst (i := 67) (j := 7) (z := nI 111) (pc := 451) [_, _, _, _, _, _, _, _] rfl rfl rfl (by show _ < 1000000; omega) rfl (by decide) (by decide) (by decide) rfl ?_
  refine q_dup (pc := 452) rfl rfl ?_
  refine q_bipush (pc := 453) rfl (nI 68) (by decide) ?_
  refine q_bipush (pc := 455) rfl (nI 116) (by decide) ?_
  refine k_cst (i := 68) (j := 7) (z := nI 116) (pc := 457) [_, _, _, _, _, _, _, _] rfl rfl rfl (by show _ < 1000000; omega) rfl (by decide) (by decide) (by decide) rfl ?_
  refine q_dup (pc := 458) rfl rfl ?_
  refine q_bipush (pc := 459) rfl (nI 69) (by decide) ?_
  refine q_iconst (pc := 461) rfl (nI 0) (by decide) ?_
  refine k_cst (i := 69) (j := 7) (z := nI 0) (pc := 462) [_, _, _, _, _, _, _, _] rfl rfl rfl (by show _ < 1000000; omega) rfl (by decide) (by decide) (by decide) rfl ?_
  refine q_dup (pc := 463) rfl rfl ?_
  refine q_bipush (pc := 464) rfl (nI 70) (by decide) ?_
  refine q_iconst (pc := 466) rfl (nI 0) (by decide) ?_
  refine k_cst (i := 70) (j := 7) (z := nI 0) (pc := 467) [_, _, _, _, _, _, _, _] rfl rfl rfl (by show _ < 1000000; omega) rfl (by decide) (by decide) (by decide) rfl ?_
  refine q_dup (pc := 468) rfl rfl ?_
  refine q_bipush (pc := 469) rfl (nI 71) (by decide) ?_
  refine q_iconst (pc := 471) rfl (nI 0) (by decide) ?_
  refine k_cst (i := 71) (j := 7) (z := nI 0) (pc := 472) [_, _, _, _, _, _, _, _] rfl rfl rfl (by show _ < 1000000; omega) rfl (by decide) (by decide) (by decide) rfl ?_
  refine k_putf (fs' := [_, _, _, _, _, _, _, _, _, _, _, _, _, _, _, _, _, _, _, _, _, _, _, _, _, _, _, _, _, _, _, _, _, _, _, _]) (j := 0) (pc := 473) [_, _, _, _, _, _, _, _] rfl rfl rfl rfl (Nat.le_of_ble_eq_true rfl) rfl rfl rfl ?_
  refine q_aload_n (pc := 476) rfl rfl rfl ?_
  refine q_sipush (pc := 477) rfl (nI 160) (by decide) ?_
  refine k_newI (pc := 480) 8 1679 [_, _, _, _, _, _, _, _, _] rfl rfl (by decide) rfl (by show _ < 1000000; omega) rfl rfl ?_
  refine k_putf (fs' := [_, _, _, _, _, _, _, _, _, _, _, _, _, _, _, _, _, _, _, _, _, _, _, _, _, _, _, _, _, _, _, _, _, _, _, _]) (j := 0) (pc := 482) [_, _, _, _, _, _, _, _, _] rfl rfl rfl rfl (Nat.le_of_ble_eq_true rfl) rfl rfl rfl ?_
  refine q_aload_n (pc := 485) rfl rfl rfl ?_
  refine q_sipush (pc := 486) rfl (nI 160) (by decide) ?_
  refine k_newI (pc := 489) 9 1839 [_, _, _, _, _, _, _, _, _, _] rfl rfl (by decide) rfl (by show _ < 1000000; omega) rfl rfl ?_
  refine k_putf (fs' := [_, _, _, _, _, _, _, _, _, _, _, _, _, _, _, _, _, _, _, _, _, _, _, _, _, _, _, _, _, _, _, _, _, _, _, _]) (j := 0) (pc := 491) [_, _, _, _, _, _, _, _, _, _] rfl rfl rfl rfl (Nat.le_of_ble_eq_true rfl) rfl rfl rfl ?_
  refine q_aload_n (pc := 494) rfl rfl rfl ?_
  refine q_bipush (pc := 495) rfl (nI 36) (by decide) ?_
  refine k_newI (pc := 497) 10 1875 [_, _, _, _, _, _, _, _, _, _, _] rfl rfl (by decide) rfl (by show _ < 1000000; omega) rfl rfl ?_
  refine k_putf (fs' := [_, _, _, _, _, _, _, _, _, _, _, _, _, _, _, _, _, _, _, _, _, _, _, _, _, _, _, _, _, _, _, _, _, _, _, _]) (j := 0) (pc := 499) [_, _, _, _, _, _, _, _, _, _, _] rfl rfl rfl rfl (Nat.le_of_ble_eq_true rfl) rfl rfl rfl ?_
  refine q_aload_n (pc := 502) rfl rfl rfl ?_
  refine q_bipush (pc := 503) rfl (nI 36) (by decide) ?_
  refine k_newZ (pc := 505) 11 1911 [_, _, _, _, _, _, _, _, _, _, _, _] rfl rfl (by decide) rfl (by show _ < 1000000; omega) rfl rfl ?_
  refine k_putf (fs' := [_, _, _, _, _, _, _, _, _, _, _, _, _, _, _, _, _, _, _, _, _, _, _, _, _, _, _, _, _, _, _, _, _, _, _, _]) (j := 0) (pc := 507) [_, _, _, _, _, _, _, _, _, _, _, _] rfl rfl rfl rfl (Nat.le_of_ble_eq_true rfl) rfl rfl rfl ?_
  refine q_aload_n (pc := 510) rfl rfl rfl ?_
  refine q_bipush (pc := 511) rfl (nI 7) (by decide) ?_
  refine k_newI (pc := 513) 12 1918 [_, _, _, _, _, _, _, _, _, _, _, _, _] rfl rfl (by decide) rfl (by show _ < 1000000; omega) rfl rfl ?_
  refine k_putf (fs' := [_, _, _, _, _, _, _, _, _, _, _, _, _, _, _, _, _, _, _, _, _, _, _, _, _, _, _, _, _, _, _, _, _, _, _, _]) (j := 0) (pc := 515) [_, _, _, _, _, _, _, _, _, _, _, _, _] rfl rfl rfl rfl (Nat.le_of_ble_eq_true rfl) rfl rfl rfl ?_
  refine q_aload_n (pc := 518) rfl rfl rfl ?_
  refine q_bipush (pc := 519) rfl (nI 28) (by decide) ?_
  refine k_newI (pc := 521) 13 1946 [_, _, _, _, _, _, _, _, _, _, _, _, _, _] rfl rfl (by decide) rfl (by show _ < 1000000; omega) rfl rfl ?_
  refine k_putf (fs' := [_, _, _, _, _, _, _, _, _, _, _, _, _, _, _, _, _, _, _, _, _, _, _, _, _, _, _, _, _, _, _, _, _, _, _, _]) (j := 0) (pc := 523) [_, _, _, _, _, _, _, _, _, _, _, _, _, _] rfl rfl rfl rfl (Nat.le_of_ble_eq_true rfl) rfl rfl rfl ?_
  refine q_aload_n (pc := 526) rfl rfl rfl ?_
  refine q_iconst (pc := 527) rfl (nI 4) (by decide) ?_
  refine k_newI (pc := 528) 14 1950 [_, _, _, _, _, _, _, _, _, _, _, _, _, _, _] rfl rfl (by decide) rfl (by show _ < 1000000; omega) rfl rfl ?_
  refine k_putf (fs' := [_, _, _, _, _, _, _, _, _, _, _, _, _, _, _, _, _, _, _, _, _, _, _, _, _, _, _, _, _, _, _, _, _, _, _, _]) (j := 0) (pc := 530) [_, _, _, _, _, _, _, _, _, _, _, _, _, _, _] rfl rfl rfl rfl (Nat.le_of_ble_eq_true rfl) rfl rfl rfl ?_
  refine q_aload_n (pc := 533) rfl rfl rfl ?_
  refine q_iconst (pc := 534) rfl (nI 4) (by decide) ?_
  refine k_newI (pc := 535) 15 1954 [_, _, _, _, _, _, _, _, _, _, _, _, _, _, _, _] rfl rfl (by decide) rfl (by show _ < 1000000; omega) rfl rfl ?_
  refine k_putf (fs' := [_, _, _, _, _, _, _, _, _, _, _, _, _, _, _, _, _, _, _, _, _, _, _, _, _, _, _, _, _, _, _, _, _, _, _, _]) (j := 0) (pc := 537) [_, _, _, _, _, _, _, _, _, _, _, _, _, _, _, _] rfl rfl rfl rfl (Nat.le_of_ble_eq_true rfl) rfl rfl rfl ?_
  refine q_aload_n (pc := 540) rfl rfl rfl ?_
  refine q_iconst (pc := 541) rfl (nI 4) (by decide) ?_
  refine k_newI (pc := 542) 16 1958 [_, _, _, _, _, _, _, _, _, _, _, _, _, _, _, _, _] rfl rfl (by decide) rfl (by show _ < 1000000; omega) rfl rfl ?_
  refine q_dup (pc := 544) rfl rfl ?_
  refine q_iconst (pc := 545) rfl (nI 0) (by decide) ?_
  refine q_iconst (pc := 546) rfl ((-1)) (by decide) ?_
  refine k_ist (i := 0) (j := 16) (pc := 547) [_, _, _, _, _, _, _, _, _, _, _, _, _, _, _, _, _] rfl rfl rfl (by show _ < 1000000; omega) rfl (by decide) (by decide) rfl ?_
  refine q_dup (pc := 548) rfl rfl ?_
  refine q_iconst (pc := 549) rfl (nI 1) (by decide) ?_
  refine q_iconst (pc := 550) rfl ((-1)) (by decide) ?_
  refine k_ist (i := 1) (j := 16) (pc := 551) [_, _, _, _, _, _, _, _, _, _, _, _, _, _, _, _, _] rfl rfl rfl (by show _ < 1000000; omega) rfl (by decide) (by decide) rfl ?_
  refine q_dup (pc := 552) rfl rfl ?_
  refine q_iconst (pc := 553) rfl (nI 2) (by decide) ?_
  refine q_iconst (pc := 554) rfl ((-1)) (by decide) ?_
  refine k_ist (i := 2) (j := 16) (pc := 555) [_, _, _, _, _, _, _, _, _, _, _, _, _, _, _, _, _] rfl rfl rfl (by show _ < 1000000; omega) rfl (by decide) (by decide) rfl ?_
  refine q_dup (pc := 556) rfl rfl ?_
  refine q_iconst (pc := 557) rfl (nI 3) (by decide) ?_
  refine q_iconst (pc := 558) rfl ((-1)) (by decide) ?_
  refine k_ist (i := 3) (j := 16) (pc := 559) [_, _, _, _, _, _, _, _, _, _, _, _, _, _, _, _, _] rfl rfl rfl (by show _ < 1000000; omega) rfl (by decide) (by decide) rfl ?_
  refine k_putf (fs' := [_, _, _, _, _, _, _, _, _, _, _, _, _, _, _, _, _, _, _, _, _, _, _, _, _, _, _, _, _, _, _, _, _, _, _, _]) (j := 0) (pc := 560) [_, _, _, _, _, _, _, _, _, _, _, _, _, _, _, _, _] rfl rfl rfl rfl (Nat.le_of_ble_eq_true rfl) rfl rfl rfl ?_
  refine q_aload_n (pc := 563) rfl rfl rfl ?_
  refine q_iconst (pc := 564) rfl (nI 4) (by decide) ?_
  refine k_newI (pc := 565) 17 1962 [_, _, _, _, _, _, _, _, _, _, _, _, _, _, _, _, _, _] rfl rfl (by decide) rfl (by show _ < 1000000; omega) rfl rfl ?_
  refine k_putf (fs' := [_, _, _, _, _, _, _, _, _, _, _, _, _, _, _, _, _, _, _, _, _, _, _, _, _, _, _, _, _, _, _, _, _, _, _, _]) (j := 0) (pc := 567) [_, _, _, _, _, _, _, _, _, _, _, _, _, _, _, _, _, _] rfl rfl rfl rfl (Nat.le_of_ble_eq_true rfl) rfl rfl rfl ?_
  refine q_aload_n (pc := 570) rfl rfl rfl ?_
  refine q_sipush (pc := 571) rfl (nI 160) (by decide) ?_
  refine k_newI (pc := 574) 18 2122 [_, _, _, _, _, _, _, _, _, _, _, _, _, _, _, _, _, _, _] rfl rfl (by decide) rfl (by show _ < 1000000; omega) rfl rfl ?_
  refine k_putf (fs' := [_, _, _, _, _, _, _, _, _, _, _, _, _, _, _, _, _, _, _, _, _, _, _, _, _, _, _, _, _, _, _, _, _, _, _, _]) (j := 0) (pc := 576) [_, _, _, _, _, _, _, _, _, _, _, _, _, _, _, _, _, _, _] rfl rfl rfl rfl (Nat.le_of_ble_eq_true rfl) rfl rfl rfl ?_
  refine q_aload_n (pc := 579) rfl rfl rfl ?_
  refine q_bipush (pc := 580) rfl (nI 40) (by decide) ?_
  refine k_newI (pc := 582) 19 2162 [_, _, _, _, _, _, _, _, _, _, _, _, _, _, _, _, _, _, _, _] rfl rfl (by decide) rfl (by show _ < 1000000; omega) rfl rfl ?_
  refine k_putf (fs' := [_, _, _, _, _, _, _, _, _, _, _, _, _, _, _, _, _, _, _, _, _, _, _, _, _, _, _, _, _, _, _, _, _, _, _, _]) (j := 0) (pc := 584) [_, _, _, _, _, _, _, _, _, _, _, _, _, _, _, _, _, _, _, _] rfl rfl rfl rfl (Nat.le_of_ble_eq_true rfl) rfl rfl rfl ?_
  refine q_aload_n (pc := 587) rfl rfl rfl ?_
  refine q_bipush (pc := 588) rfl (nI 6) (by decide) ?_
  refine k_newI (pc := 590) 20 2168 [_, _, _, _, _, _, _, _, _, _, _, _, _, _, _, _, _, _, _, _, _] rfl rfl (by decide) rfl (by show _ < 1000000; omega) rfl rfl ?_
  refine q_dup (pc := 592) rfl rfl ?_
  refine q_iconst (pc := 593) rfl (nI 0) (by decide) ?_
  refine q_iconst (pc := 594) rfl ((-1)) (by decide) ?_
  refine k_ist (i := 0) (j := 20) (pc := 595) [_, _, _, _, _, _, _, _, _, _, _, _, _, _, _, _, _, _, _, _, _] rfl rfl rfl (by show _ < 1000000; omega) rfl (by decide) (by decide) rfl ?_
  refine q_dup (pc := 596) rfl rfl ?_
  refine q_iconst (pc := 597) rfl (nI 1) (by decide) ?_
  refine q_iconst (pc := 598) rfl (nI 0) (by decide) ?_
  refine k_ist (i := 1) (j := 20) (pc := 599) [_, _, _, _, _, _, _, _, _, _, _, _, _, _, _, _, _, _, _, _, _] rfl rfl rfl (by show _ < 1000000; omega) rfl (by decide) (by decide) rfl ?_
  refine q_dup (pc := 600) rfl rfl ?_
  refine q_iconst (pc := 601) rfl (nI 2) (by decide) ?_
  refine q_iconst (pc := 602) rfl (nI 0) (by decide) ?_
  refine k_ist (i := 2) (j := 20) (pc := 603) [_, _, _, _, _, _, _, _, _, _, _, _, _, _, _, _, _, _, _, _, _] rfl rfl rfl (by show _ < 1000000; omega) rfl (by decide) (by decide) rfl ?_
  refine q_dup (pc := 604) rfl rfl ?_
  refine q_iconst (pc := 605) rfl (nI 3) (by decide) ?_
  refine q_iconst (pc := 606) rfl (nI 1) (by decide) ?_
  refine k_ist (i := 3) (j := 20) (pc := 607) [_, _, _, _, _, _, _, _, _, _, _, _, _, _, _, _, _, _, _, _, _] rfl rfl rfl (by show _ < 1000000; omega) rfl (by decide) (by decide) rfl ?_
  refine q_dup (pc := 608) rfl rfl ?_
  refine q_iconst (pc := 609) rfl (nI 4) (by decide) ?_
  refine q_iconst (pc := 610) rfl (nI 2) (by decide) ?_
  refine k_ist (i := 4) (j := 20) (pc := 611) [_, _, _, _, _, _, _, _, _, _, _, _, _, _, _, _, _, _, _, _, _] rfl rfl rfl (by show _ < 1000000; omega) rfl (by decide) (by decide) rfl ?_
  refine q_dup (pc := 612) rfl rfl ?_
  refine q_iconst (pc := 613) rfl (nI 5) (by decide) ?_
  refine q_iconst (pc := 614) rfl (nI 0) (by decide) ?_
  refine k_ist (i := 5) (j := 20) (pc := 615) [_, _, _, _, _, _, _, _, _, _, _, _, _, _, _, _, _, _, _, _, _] rfl rfl rfl (by show _ < 1000000; omega) rfl (by decide) (by decide) rfl ?_
  refine k_putf (fs' := [_, _, _, _, _, _, _, _, _, _, _, _, _, _, _, _, _, _, _, _, _, _, _, _, _, _, _, _, _, _, _, _, _, _, _, _]) (j := 0) (pc := 616) [_, _, _, _, _, _, _, _, _, _, _, _, _, _, _, _, _, _, _, _, _] rfl rfl rfl rfl (Nat.le_of_ble_eq_true rfl) rfl rfl rfl ?_
  refine q_vret (pc := 619) rfl rfl ?_
  exact kk _ hp_EX
end P71
