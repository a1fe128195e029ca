/-! ===== the pure claim ===== -/
theorem mx_law (Ls : Nat) (hL : Ls ≤ 3072) (xs : Nat → Int32) : ∃ (n : Nat) (h' : mx_H), mx_run n 200 214 (0, mx_ent 4 [.ref mx_big], [], mx_h0 Ls xs) = some (some (.int 1), h') ∧ h'.1 ≤ 600000 ∧ h'.2.1 ≤ 7302249 := by
  have W : wq 200 214 0 [some (.ref mx_big), none, none, none] [] (mx_h0 Ls xs) (fun r h' => r = some (.int 1) ∧ h'.1 ≤ 600000 ∧ h'.2.1 ≤ 7302249) := by
    refine q_new (pc := 0) rfl (by show 0 < 1000000; decide) ?_
    rw [show (mx_h0 Ls xs).1 = 0 from rfl]
    refine q_dup (pc := 3) rfl rfl ?_
    refine q_callI (pc := 4) _ (by decide) rfl rfl rfl rfl (Nat.le_of_ble_eq_true rfl) (by decide) _ rfl ?_
    refine i_X8 (Ls := Ls) (xs := xs) (by decide) rfl (if_pos (c := mx_big = mx_big) (e := mx_nil) rfl) ?_
    intro h1 s1 P1 C E ⟨a1, a2, a3, a4, a5⟩ H1 A1 ⟨c1, c2, c3, c4⟩
    have hh1 : h1.1 = 54 := H1.2.1.trans a3
    have hk : txok (C 0) (E 0) := (A1.2.2.2.2.2.1.2.2 0 (by omega)).2.2.2
    refine q_astore_n (pc := 7) [_, _, _, _] rfl rfl (Nat.le_of_ble_eq_true rfl) rfl ?_
    refine q_new (pc := 8) rfl (by rw [hh1]; decide) ?_
    rw [hh1]
    refine q_dup (pc := 11) rfl rfl ?_
    refine q_callI (pc := 12) _ (by decide) rfl rfl rfl rfl (Nat.le_of_ble_eq_true rfl) (by decide) _ rfl ?_
    refine i_model (by decide) (by decide) hh1 ?_
    intro h2 e2
    have H2 := m_HR a1 a2 H1 e2
    refine q_astore_n (pc := 15) [_, _, _, _] rfl rfl (Nat.le_of_ble_eq_true rfl) rfl ?_
    refine q_iconst (pc := 16) rfl (nI 0) (by decide) ?_
    refine q_istore_n (pc := 17) [_, _, _, _] rfl (Nat.le_of_ble_eq_true rfl) rfl ?_
    have a4' : P1.2.2.2.1 ≤ 5000 := by
      rw [a4]
      show 0 + _ ≤ 5000
      decide
    refine L_loop (M := 10000) (by decide) hL (fun h V => ?_) 600 0 h2 (by omega) (Nat.zero_le _) ⟨PX P1, sX s1, _, _, _, _, _, _, _, _, _, _, ⟨rfl, ?_, ?_, ?_, a5⟩, H2, A1.ofh sf_X, ?_, m_NW, ?_⟩
    · obtain ⟨P, s, β, κ, ik, tp, tz, C, E, σ, sz, cl, ⟨p1, p2, p3, p4, px⟩, H, _⟩ := V
      have t1 := tid_le H.1.2
      have t2 := H.1.2
      refine ⟨rfl, ?_, ?_⟩
      · rw [H.2.1, p3]
        omega
      · rw [H.2.2.1]
        omega
    · show 1 ≤ P1.2.1
      omega
    · show 75 = tid P1.2.1
      rw [a2]
      rfl
    · show P1.2.2.2.1 + 2168 ≤ 10000 + 165 * P1.2.1
      omega
    · show AOK P1.2.1 _ _ _ _ _ _ _
      rw [a2]
      exact ⟨⟨fun _ _ => Nat.zero_le _, fun _ _ => ⟨Nat.zero_le _, Nat.zero_le _, by show 0 < 36; decide, Nat.zero_le _⟩, Nat.zero_le _, Nat.zero_le _, by show 0 < 1; decide⟩, Nat.zero_le _, ⟨fun _ _ => Nat.zero_le _, fun _ _ => ⟨Nat.zero_le _, Nat.zero_le _, by show 0 < 36; decide, Nat.zero_le _⟩, Nat.zero_le _, Nat.zero_le _, by show 0 < 1; decide⟩, Nat.zero_le _, Nat.zero_le _, Nat.zero_le _, fun _ h => absurd h (Nat.not_lt_zero _), fun _ _ => ⟨Nat.zero_le _, Or.inl rfl⟩⟩
    · show MK _ P1.2.1 _ _ _ _ _ _ _ _ _
      rw [a2]
      exact m_MK hk c1 c2 c3 c4
  obtain ⟨n, r, h', e, q1, q2, q3⟩ := W
  subst q1
  exact ⟨n, h', e, q2, q3⟩
