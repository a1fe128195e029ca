/-! ===== behind both constructors ===== -/
section P73
variable {d k pc a b n m len j i : Nat} {v : Int} {L : mx_L} {st r : List Value} {h h' h0 : mx_H} {es : List mx_E} {e : mx_E} {Q : Option Value → mx_H → Prop} {x y : Int32} {s : mx_St} {P : mx_Pm} {C : Nat → Nat → Int32} {E : Nat → Nat → Nat}
def sM54 (j : Nat) : Int32 := if j = 12 then nI 1 else 0
def sM59 : Nat → Int32 := (upd (upd (upd (upd (upd (fun _ => 0) 0 (nI 2)) 1 ((-10))) 2 ((-25))) 3 ((-10))) 4 (nI 0))
def sM60 : Nat → Int32 := (upd (upd (upd (fun _ => 0) 0 (nI 3)) 1 (nI 4)) 2 (nI 5))
def sM61 : Nat → Int32 := (upd (upd (upd (upd (upd (upd (upd (upd (upd (upd (upd (upd (upd (upd (upd (upd (upd (upd (upd (upd (upd (upd (upd (upd (upd (upd (upd (upd (upd (upd (upd (upd (upd (upd (upd (upd (upd (upd (upd (upd (upd (upd (upd (upd (upd (upd (upd (upd (upd (upd (upd (upd (upd (upd (upd (upd (upd (upd (upd (upd (upd (upd (upd (upd (upd (upd (upd (upd (upd (upd (upd (upd (fun _ => 0) 0 (nI 109)) 1 (nI 97)) 2 (nI 114)) 3 (nI 107)) 4 (nI 0)) 5 (nI 0)) 6 (nI 114)) 7 (nI 111)) 8 (nI 119)) 9 (nI 0)) 10 (nI 0)) 11 (nI 0)) 12 (nI 99)) 13 (nI 111)) 14 (nI 108)) 15 (nI 117)) 16 (nI 109)) 17 (nI 110)) 18 (nI 116)) 19 (nI 105)) 20 (nI 100)) 21 (nI 101)) 22 (nI 0)) 23 (nI 0)) 24 (nI 110)) 25 (nI 117)) 26 (nI 109)) 27 (nI 98)) 28 (nI 101)) 29 (nI 114)) 30 (nI 98)) 31 (nI 101)) 32 (nI 115)) 33 (nI 105)) 34 (nI 100)) 35 (nI 101)) 36 (nI 116)) 37 (nI 97)) 38 (nI 107)) 39 (nI 101)) 40 (nI 115)) 41 (nI 0)) 42 (nI 108)) 43 (nI 97)) 44 (nI 121)) 45 (nI 115)) 46 (nI 0)) 47 (nI 0)) 48 (nI 108)) 49 (nI 101)) 50 (nI 97)) 51 (nI 118)) 52 (nI 101)) 53 (nI 115)) 54 (nI 111)) 55 (nI 114)) 56 (nI 0)) 57 (nI 0)) 58 (nI 0)) 59 (nI 0)) 60 (nI 97)) 61 (nI 110)) 62 (nI 100)) 63 (nI 0)) 64 (nI 0)) 65 (nI 0)) 66 (nI 110)) 67 (nI 111)) 68 (nI 116)) 69 (nI 0)) 70 (nI 0)) 71 (nI 0))
def sM70 : Nat → Int32 := (upd (upd (upd (upd (fun _ => 0) 0 ((-1))) 1 ((-1))) 2 ((-1))) 3 ((-1)))
def sM74 : Nat → Int32 := (upd (upd (upd (upd (upd (upd (fun _ => 0) 0 ((-1))) 1 (nI 0)) 2 (nI 0)) 3 (nI 1)) 4 (nI 2)) 5 (nI 0))
def sM (b : Nat) : Nat → Int32 := if b = 54 then sM54 else if b = 59 then sM59 else if b = 60 then sM60 else if b = 61 then sM61 else if b = 70 then sM70 else if b = 74 then sM74 else fun _ => 0
def sX (s : mx_St) : mx_St := fun b => if 54 ≤ b ∧ b < 75 then sM b else s b
def esM : List mx_E := [.inr (9, [.ref (54 + 1), .ref (54 + 2), .ref (54 + 3), .int 0, .ref (54 + 4), .int 0, .int 0, .int 0, .int 0, .int 0, .ref (54 + 5), .ref (54 + 6), .int (nI 1), .int 0, .ref (54 + 7), .ref (54 + 8), .int 0, .ref (54 + 9), .int 0, .int 0, .int 0, .ref (54 + 10), .ref (54 + 11), .int 0, .ref (54 + 12), .ref (54 + 13), .int 0, .int 0, .int 0, .ref (54 + 14), .ref (54 + 15), .ref (54 + 16), .ref (54 + 17), .ref (54 + 18), .ref (54 + 19), .ref (54 + 20)]), .inl (0, 91, .inl (fun _ => 0)), .inl (0, 91, .inl (fun _ => 0)), .inl (0, 91, .inl (fun _ => 0)), .inl (0, 160, .inl (fun _ => 0)), .inl (0, 960, .inl (upd (upd (upd (upd (upd (fun _ => 0) 0 (nI 2)) 1 ((-10))) 2 ((-25))) 3 ((-10))) 4 (nI 0))), .inl (0, 18, .inl (upd (upd (upd (fun _ => 0) 0 (nI 3)) 1 (nI 4)) 2 (nI 5))), .inl (2, 72, .inl (upd (upd (upd (upd (upd (upd (upd (upd (upd (upd (upd (upd (upd (upd (upd (upd (upd (upd (upd (upd (upd (upd (upd (upd (upd (upd (upd (upd (upd (upd (upd (upd (upd (upd (upd (upd (upd (upd (upd (upd (upd (upd (upd (upd (upd (upd (upd (upd (upd (upd (upd (upd (upd (upd (upd (upd (upd (upd (upd (upd (upd (upd (upd (upd (upd (upd (upd (upd (upd (upd (upd (upd (fun _ => 0) 0 (nI 109)) 1 (nI 97)) 2 (nI 114)) 3 (nI 107)) 4 (nI 0)) 5 (nI 0)) 6 (nI 114)) 7 (nI 111)) 8 (nI 119)) 9 (nI 0)) 10 (nI 0)) 11 (nI 0)) 12 (nI 99)) 13 (nI 111)) 14 (nI 108)) 15 (nI 117)) 16 (nI 109)) 17 (nI 110)) 18 (nI 116)) 19 (nI 105)) 20 (nI 100)) 21 (nI 101)) 22 (nI 0)) 23 (nI 0)) 24 (nI 110)) 25 (nI 117)) 26 (nI 109)) 27 (nI 98)) 28 (nI 101)) 29 (nI 114)) 30 (nI 98)) 31 (nI 101)) 32 (nI 115)) 33 (nI 105)) 34 (nI 100)) 35 (nI 101)) 36 (nI 116)) 37 (nI 97)) 38 (nI 107)) 39 (nI 101)) 40 (nI 115)) 41 (nI 0)) 42 (nI 108)) 43 (nI 97)) 44 (nI 121)) 45 (nI 115)) 46 (nI 0)) 47 (nI 0)) 48 (nI 108)) 49 (nI 101)) 50 (nI 97)) 51 (nI 118)) 52 (nI 101)) 53 (nI 115)) 54 (nI 111)) 55 (nI 114)) 56 (nI 0)) 57 (nI 0)) 58 (nI 0)) 59 (nI 0)) 60 (nI 97)) 61 (nI 110)) 62 (nI 100)) 63 (nI 0)) 64 (nI 0)) 65 (nI 0)) 66 (nI 110)) 67 (nI 111)) 68 (nI 116)) 69 (nI 0)) 70 (nI 0)) 71 (nI 0))), .inl (0, 160, .inl (fun _ => 0)), .inl (0, 160, .inl (fun _ => 0)), .inl (0, 36, .inl (fun _ => 0)), .inl (1, 36, .inl (fun _ => 0)), .inl (0, 7, .inl (fun _ => 0)), .inl (0, 28, .inl (fun _ => 0)), .inl (0, 4, .inl (fun _ => 0)), .inl (0, 4, .inl (fun _ => 0)), .inl (0, 4, .inl (upd (upd (upd (upd (fun _ => 0) 0 ((-1))) 1 ((-1))) 2 ((-1))) 3 ((-1)))), .inl (0, 4, .inl (fun _ => 0)), .inl (0, 160, .inl (fun _ => 0)), .inl (0, 40, .inl (fun _ => 0)), .inl (0, 6, .inl (upd (upd (upd (upd (upd (upd (fun _ => 0) 0 ((-1))) 1 (nI 0)) 2 (nI 0)) 3 (nI 1)) 4 (nI 2)) 5 (nI 0)))]
theorem AL_model : AL (fun i => hr_c i (sM i)) 54 [.inr (9, [.ref (54 + 1), .ref (54 + 2), .ref (54 + 3), .int 0, .ref (54 + 4), .int 0, .int 0, .int 0, .int 0, .int 0, .ref (54 + 5), .ref (54 + 6), .int (nI 1), .int 0, .ref (54 + 7), .ref (54 + 8), .int 0, .ref (54 + 9), .int 0, .int 0, .int 0, .ref (54 + 10), .ref (54 + 11), .int 0, .ref (54 + 12), .ref (54 + 13), .int 0, .int 0, .int 0, .ref (54 + 14), .ref (54 + 15), .ref (54 + 16), .ref (54 + 17), .ref (54 + 18), .ref (54 + 19), .ref (54 + 20)]), .inl (0, 91, .inl (fun _ => 0)), .inl (0, 91, .inl (fun _ => 0)), .inl (0, 91, .inl (fun _ => 0)), .inl (0, 160, .inl (fun _ => 0)), .inl (0, 960, .inl (upd (upd (upd (upd (upd (fun _ => 0) 0 (nI 2)) 1 ((-10))) 2 ((-25))) 3 ((-10))) 4 (nI 0))), .inl (0, 18, .inl (upd (upd (upd (fun _ => 0) 0 (nI 3)) 1 (nI 4)) 2 (nI 5))), .inl (2, 72, .inl (upd (upd (upd (upd (upd (upd (upd (upd (upd (upd (upd (upd (upd (upd (upd (upd (upd (upd (upd (upd (upd (upd (upd (upd (upd (upd (upd (upd (upd (upd (upd (upd (upd (upd (upd (upd (upd (upd (upd (upd (upd (upd (upd (upd (upd (upd (upd (upd (upd (upd (upd (upd (upd (upd (upd (upd (upd (upd (upd (upd (upd (upd (upd (upd (upd (upd (upd (upd (upd (upd (upd (upd (fun _ => 0) 0 (nI 109)) 1 (nI 97)) 2 (nI 114)) 3 (nI 107)) 4 (nI 0)) 5 (nI 0)) 6 (nI 114)) 7 (nI 111)) 8 (nI 119)) 9 (nI 0)) 10 (nI 0)) 11 (nI 0)) 12 (nI 99)) 13 (nI 111)) 14 (nI 108)) 15 (nI 117)) 16 (nI 109)) 17 (nI 110)) 18 (nI 116)) 19 (nI 105)) 20 (nI 100)) 21 (nI 101)) 22 (nI 0)) 23 (nI 0)) 24 (nI 110)) 25 (nI 117)) 26 (nI 109)) 27 (nI 98)) 28 (nI 101)) 29 (nI 114)) 30 (nI 98)) 31 (nI 101)) 32 (nI 115)) 33 (nI 105)) 34 (nI 100)) 35 (nI 101)) 36 (nI 116)) 37 (nI 97)) 38 (nI 107)) 39 (nI 101)) 40 (nI 115)) 41 (nI 0)) 42 (nI 108)) 43 (nI 97)) 44 (nI 121)) 45 (nI 115)) 46 (nI 0)) 47 (nI 0)) 48 (nI 108)) 49 (nI 101)) 50 (nI 97)) 51 (nI 118)) 52 (nI 101)) 53 (nI 115)) 54 (nI 111)) 55 (nI 114)) 56 (nI 0)) 57 (nI 0)) 58 (nI 0)) 59 (nI 0)) 60 (nI 97)) 61 (nI 110)) 62 (nI 100)) 63 (nI 0)) 64 (nI 0)) 65 (nI 0)) 66 (nI 110)) 67 (nI 111)) 68 (nI 116)) 69 (nI 0)) 70 (nI 0)) 71 (nI 0))), .inl (0, 160, .inl (fun _ => 0)), .inl (0, 160, .inl (fun _ => 0)), .inl (0, 36, .inl (fun _ => 0)), .inl (1, 36, .inl (fun _ => 0)), .inl (0, 7, .inl (fun _ => 0)), .inl (0, 28, .inl (fun _ => 0)), .inl (0, 4, .inl (fun _ => 0)), .inl (0, 4, .inl (fun _ => 0)), .inl (0, 4, .inl (upd (upd (upd (upd (fun _ => 0) 0 ((-1))) 1 ((-1))) 2 ((-1))) 3 ((-1)))), .inl (0, 4, .inl (fun _ => 0)), .inl (0, 160, .inl (fun _ => 0)), .inl (0, 40, .inl (fun _ => 0)), .inl (0, 6, .inl (upd (upd (upd (upd (upd (upd (fun _ => 0) 0 ((-1))) 1 (nI 0)) 2 (nI 0)) 3 (nI 1)) 4 (nI 2)) 5 (nI 0)))] := ⟨rfl, rfl, rfl, rfl, rfl, rfl, rfl, rfl, rfl, rfl, rfl, rfl, rfl, rfl, rfl, rfl, rfl, rfl, rfl, rfl, rfl, trivial⟩
theorem sM_names : ∀ k, k < 12 → ∀ i, i < 6 → sM61 (6 * k + i) = wMb k i := by decide +kernel
theorem sM_above : ∀ i, i < 6 → sM74 i = abM i := by decide +kernel
theorem sM_sorts : ∀ q, q < 4 → sM70 q = -1 := by decide +kernel
theorem sM_code : ∀ i, i < 5 → sM59 (160 * 0 + i) = mc (fto.getD i 0) := by decide +kernel
theorem sX_in (h : 54 ≤ b ∧ b < 75) : sX s b = sM b := if_pos h
theorem sX_out (h : ¬ (54 ≤ b ∧ b < 75)) : sX s b = s b := if_neg h
def PX (P : mx_Pm) : mx_Pm := (75, P.2.1, 75, P.2.2.2.1 + 2168, P.2.2.2.2)
theorem m_HR (h1 : P.1 = 51) (h2 : P.2.1 = 1) (H : HR P h s) (e : EX h h' 54 2168 esM) : HR (PX P) h' (sX s) := by
  obtain ⟨⟨q1, q2⟩, q3, q4, q5, q6, q7, q8⟩ := H
  obtain ⟨e1, e2, e3, e4⟩ := e
  refine ⟨⟨Nat.le_refl 75, q2⟩, e1, by show h'.2.1 = P.2.2.2.1 + 2168; rw [e2, q4], fun b hb => ?_, (e3 32 (Or.inl (by decide))).trans q6, fun t ht => ?_, (e3 mx_big (Or.inr (by decide))).trans q8⟩
  · obtain ⟨o1, o2, o3⟩ := okc_spec hb
    have o1 : b < 75 := o1
    by_cases g : b < 54
    · rw [sX_out (by omega), e3 b (Or.inl g)]
      exact q5 b (okc_of (by rw [h1]; omega) o2 (by omega))
    · rw [sX_in (by omega)]
      have hlt : b - 54 < esM.length := by show b - 54 < 21; omega
      have hg := List.getElem?_eq_getElem hlt
      have u1 := e4 _ _ hg
      have u2 := AL.ap (es := esM) AL_model hg
      rw [show 54 + (b - 54) = b by omega] at u1 u2
      rw [u1, u2]
  · have ht : t < P.2.1 := ht
    obtain rfl : t = 0 := by omega
    obtain ⟨u1, u2, u3⟩ := q7 0 ht
    refine ⟨?_, ?_, ?_⟩
    · rw [e3 _ (Or.inl (by decide)), sX_out (by decide)]; exact u1
    · rw [e3 _ (Or.inl (by decide))]; exact u2
    · rw [e3 _ (Or.inl (by decide)), sX_out (by decide)]; exact u3
theorem m_NW : NW (sX s) (fun _ => 0) := fun i _ => congrFun (sX_in (b := 55) (by decide)) i
theorem sf_X : sf s (sX s) hS := fun i hi => sX_out (fun g => hi g)
theorem m_MK (hk : txok (C 0) (E 0)) (hC : ∀ i, i < 5 → C 0 i = fto.getD i 0) (q0 : E 0 0 = 3) (q1 : E 0 1 = 4) (q2 : E 0 2 = 5) : MK (sX s) 1 (fun _ => 0) 0 ftp 0 C E (fun _ => -1) (fun _ => 0) (fun _ _ => 0) := by
  refine ⟨fun i _ => congrFun (sX_in (b := 56) (by decide)) i, congrFun (sX_in (b := 54) (by decide)) 3, fun i hi => absurd hi (Nat.not_lt_zero i), congrFun (sX_in (b := 54) (by decide)) 5, ⟨congrFun (sX_in (b := 54) (by decide)) 12, by decide, fun t ht => ?_⟩, fun q hq => ⟨(congrFun (sX_in (b := 70) (by decide)) q).trans (sM_sorts q hq), congrFun (sX_in (b := 71) (by decide)) q, fun i _ => congrFun (sX_in (b := 72) (by decide)) _⟩, fun k hk i hi => (congrFun (sX_in (b := 61) (by decide)) _).trans (sM_names k hk i hi), fun i hi => (congrFun (sX_in (b := 74) (by decide)) i).trans (sM_above i hi)⟩
  obtain rfl : t = 0 := by omega
  refine ⟨fun i hi => ?_, fun p hp => ?_, hk⟩
  · rw [q2] at hi
    rw [hC i hi]
    exact (congrFun (sX_in (b := 59) (by decide)) _).trans (sM_code i hi)
  · refine (congrFun (sX_in (b := 60) (by decide)) _).trans ?_
    rcases (show p = 0 ∨ p = 1 ∨ p = 2 by omega) with rfl | rfl | rfl
    · rw [q0]; decide
    · rw [q1]; decide
    · rw [q2]; decide
end P73
