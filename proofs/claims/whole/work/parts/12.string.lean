/-! ===== String constants: length, charAt ===== -/
section MXZ
variable {p : Program} {l : Launch} {e : Env} {R : Room} {s : State} {m : MethodId} {args : Array Value} {below : List Frame} {meth : Method} {c : Code} {H : Heap} {locs : List Loc} {cells slots : Nat} {Q : State → Prop}
variable {dC : Nat → ClassId} {dI : Nat → Nat → Nat} {tc : Nat → ClassId} {sa : Nat → Nat} {base Ls : Nat} {xs : Nat → Int32} {av : Nat → Nat} {k pc c0 s0 a : Nat} {ls : Array Slot} {L : mx_L} {h : mx_H} {st r : List Value} {s' : mx_S}
theorem mx_s_slen (C : mx_Cx dC dI tc sa base Ls xs av k p R s m args meth c c0) (hk : mx_mc k < 13) {i b n : Nat} (hd : decode (mx_mb k) pc = .ok (.invokevirtual i, 3)) (hl : mx_has k (i, 25, a, 0) = true) (X : mx_At dC dI tc sa base Ls xs k s c0 s0 L h H locs ls cells slots) (hn : mx_slen b = some n) (h8 : mx_ok8 r = true) (hrc : h.1 ≤ c0 + R.cells) (hrs : h.2.1 ≤ s0 + R.slots)
    (kk : mx_K p l e R s m args below meth c Q dC dI tc sa base Ls xs k c0 s0 (pc + 3, L, .int (Int32.ofNat n) :: r, h)) : W p l e R s m args below meth c H locs cells slots Q (F0 m pc ls ((Value.ref b :: r).map (mx_cv (mx_ad sa base)))) := by
  sorry
theorem mx_s_schr (C : mx_Cx dC dI tc sa base Ls xs av k p R s m args meth c c0) (hk : mx_mc k < 13) {i b n : Nat} {x : Int32} (hd : decode (mx_mb k) pc = .ok (.invokevirtual i, 3)) (hl : mx_has k (i, 26, a, 0) = true) (X : mx_At dC dI tc sa base Ls xs k s c0 s0 L h H locs ls cells slots) (hn : mx_slen b = some n) (h8 : mx_ok8 r = true) (hv : mx_vin x n = true) (hrc : h.1 ≤ c0 + R.cells) (hrs : h.2.1 ≤ s0 + R.slots)
    (kk : mx_K p l e R s m args below meth c Q dC dI tc sa base Ls xs k c0 s0 (pc + 3, L, .int ((mx_byt.getD (b - mx_big - 1) []).getD x.toNatClampNeg 0) :: r, h)) : W p l e R s m args below meth c H locs cells slots Q (F0 m pc ls ((Value.int x :: Value.ref b :: r).map (mx_cv (mx_ad sa base)))) := by
  sorry
end MXZ
