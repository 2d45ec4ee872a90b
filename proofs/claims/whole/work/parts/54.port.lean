theorem pt0 {r : Nat → Int32} (h : ∀ i, 6 ≤ i → i < 18 → r i = -1) : pt r 6 = 0 ∧ nt r 6 = 0 := by
  have a0 := h 12 (by decide) (by decide)
  have a1 := h 13 (by decide) (by decide)
  have a2 := h 14 (by decide) (by decide)
  have a3 := h 15 (by decide) (by decide)
  have a4 := h 16 (by decide) (by decide)
  have a5 := h 17 (by decide) (by decide)
  have n1 : ¬ (0 : Int32) < -1 := by decide
  have n2 : ¬ (-1 : Int32) = 0 := by decide
  constructor
  · simp only [pt, Nat.reduceAdd, a0, a1, a2, a3, a4, a5, if_neg n1, Int32.add_zero]
  · simp only [nt, Nat.reduceAdd, a0, a1, a2, a3, a4, a5, if_pos n2]
theorem sim_port : ab_Sim Inv f_X9_port f_X10_port := by
  intro I F h
  obtain ⟨t, L, C, R, u, o, q, g, bb, ⟨ht, e5, e26, e27, hch⟩, hPC, hPL, hQ, hV, hS, ⟨hD1, hD2⟩, hU, hM, hN⟩ := h
  have hT : RT t (F 0) := ⟨ht, fun j hj => (hch j hj).2⟩
  generalize hIc : va_up (va_up (va_up (va_up (va_up (va_up I 1 0) 3 0) 4 (-1)) 6 0) 7 0) 8 0 = Ic
  have c5 : CS t 0 (F 0) Ic F := ⟨by rw [← hIc]; exact e5, by rw [← hIc]; rfl, rfl⟩
  have cX : ∀ b, (b = 0 ∨ b = 5 ∨ 9 ≤ b) → Ic b = I b := by
    intro b q
    rw [← hIc, up_n (by omega), up_n (by omega), up_n (by omega), up_n (by omega), up_n (by omega), up_n (by omega)]
  have rd : f_X6_readText I F = f_X6_readText_26 (fun _ _ I F => some (0, I, F)) ab_fu 1 (nI 0) Ic F := by
    unfold f_X6_readText f_X5_clearAll
    rw [lt_e, lt_e, bd_s, hIc, nI_0]
  -- a reference's state before its reading
  have run : ∀ (I1 : AI) (F1 : AF), I1 26 = nI t → (∀ j, j < t → F1 48 j = F 0 j) → ∃ (If : AI) (Ff : AF) (J : AI) (G : AF), f_X6_readText I F = some (0, If, Ff) ∧
      ((∃ k, f_X10_port I1 F1 = f_X10_port_j46 (nI k) J G ∧ TXF Ic F (va_up (va_up (va_up (va_up (va_up I1 27 (-1)) 28 0) 31 0) 32 0) 33 0) F1 If Ff J G k) ∨ (f_X10_port I1 F1 = f_X10_port_j46 0 J G ∧ TXG Ic F (va_up (va_up (va_up (va_up (va_up I1 27 (-1)) 28 0) 31 0) 32 0) 33 0) F1 If Ff J G)) := by
    intro I1 F1 g26 g48
    obtain ⟨If, Ff, J, G, r1, r2⟩ := text_l (ko' := fun v I F => f_X10_port_j46 v I F) hT t t 0 0 ab_fu ab_fu 0 0 0 Ic F (va_up (va_up (va_up (va_up (va_up I1 27 (-1)) 28 0) 31 0) 32 0) 33 0) F1 (Nat.le_refl t) (Nat.zero_add t) (by omega) (Nat.lt_of_le_of_lt (show t + 1 ≤ 251 by omega) (by decide)) (Nat.lt_of_le_of_lt (show t + 1 ≤ 251 by omega) (by decide)) c5 ⟨g26, rfl, g48⟩ ⟨⟨by decide, by decide, by decide, by rw [← hIc]; rfl, rfl, by rw [← hIc]; rfl, rfl, by rw [← hIc]; rfl, rfl⟩, ⟨fun j hj => absurd hj (Nat.not_lt_zero j), fun j hj => absurd hj (Nat.not_lt_zero j), fun j hj => absurd hj (Nat.not_lt_zero j)⟩, fun j hj => absurd hj (Nat.not_lt_zero j), fun j hj => absurd hj (Nat.not_lt_zero j)⟩ (by rw [← hIc]; rfl) (by rw [← hIc]; rfl) rfl
    refine ⟨If, Ff, J, G, rd.trans r1, ?_⟩
    have e : f_X10_port I1 F1 = f_X10_port_27 (fun v I F => f_X10_port_j46 v I F) ab_fu 0 (va_up (va_up (va_up (va_up (va_up I1 27 (-1)) 28 0) 31 0) 32 0) 33 0) F1 := by
      unfold f_X10_port
      rw [lt_e, lt_e]
    rw [e]
    exact r2
  -- what the class reads
  obtain ⟨If, Ff, J0, G0, r0, r1⟩ := run I F e26 (fun j hj => (hch j hj).1)
  have fx : FX Ic If ∧ GX F Ff ∧ ((∃ k, 1 ≤ k ∧ k ≤ 4 ∧ If 3 = nI k) ∨ If 3 = 0) := by
    rcases r1 with ⟨k, -, pl, q1, q2, q3, q4, q5, q6, q7, q8, q9, q10⟩ | ⟨-, nl, nc, nr, q1, q2, q3, q4, q7, q8, q9, q10⟩
    · exact ⟨q7, q8, Or.inl ⟨k, q1, q2, q4⟩⟩
    · exact ⟨q7, q8, Or.inr q2⟩
  obtain ⟨fx, gx, f3⟩ := fx
  have fI : ∀ b, (b = 0 ∨ b = 5 ∨ 9 ≤ b) → If b = I b := fun b q => (fx b q).trans (cX b q)
  have w48 : ∀ j, j < t → Ff 48 j = F 0 j := fun j hj => by rw [gx 48 (by decide)]; exact (hch j hj).1
  by_cases z : If 3 = 0
  · -- taken over
    obtain ⟨nl0, hn0, e60⟩ : ∃ nl, nl ≤ 6 ∧ If 6 = nI nl := by
      rcases r1 with ⟨k, -, pl, q1, q2, q3, q4, -⟩ | ⟨-, nl, nc, nr, q1, -⟩
      · rw [z] at q4
        have := (nk_eq q1 q2)
        rw [← q4] at this
        exact (this ▸ rfl : False).elim
      · exact ⟨nl, q1.1.1, q1.1.2.2.2.1⟩
    obtain ⟨I1, F1, p0, ⟨p1, p2, p3, p4, p5, p6, p7, p8, p9, p10⟩, p11, ⟨p12, p13, p14, p15, p16⟩, ⟨p17, p18, p19, p20, p21, p22, p23, p24, p25⟩, p26⟩ := X_take hn0 e60 z r0
    obtain ⟨If', Ff', J, G, s0, s1⟩ := run I1 F1 (by rw [p11 26 (by decide), fI 26 (by decide)]; exact e26) (fun j hj => by rw [p26 48 (by decide)]; exact w48 j hj)
    have ee : If' = If ∧ Ff' = Ff := by
      rw [r0] at s0
      have := Option.some.inj s0
      have h2 := (Prod.mk.inj (Prod.mk.inj this).2)
      exact ⟨h2.1.symm, h2.2.symm⟩
    obtain ⟨rfl, rfl⟩ := ee
    rcases s1 with ⟨k, -, pl, q1, q2, q3, q4, -⟩ | ⟨s1, nl, nc, nr, ⟨⟨d1, d2, d3, d4, d5, d6, d7, d8, d9⟩, dL, dC, dR⟩, q2, q3, q4, q7, q8, q9, q10⟩
    · rw [z] at q4
      have := (nk_eq q1 q2)
      rw [← q4] at this
      exact (this ▸ rfl : False).elim
    · have enl : nl0 = nl := (nI_eq (by omega) (by omega)).mp (e60.symm.trans d4)
      subst enl
      obtain ⟨I2, F2, m0, ⟨m1, m2, m3, m4, m5, m6, m7, m8⟩, m9, ⟨m10, m11, m12, m13, m14, m15⟩, m16, m17, m18, m19, m20, m21⟩ := M_take (G := G) d1 d2 d3 d5 d7 d9
      have jI : ∀ b, (b < 22 ∨ b = 25) → I2 b = I1 b := fun b q => (m9 b q).trans ((q9 b (by omega)).trans (by rw [up_n (by omega), up_n (by omega), up_n (by omega), up_n (by omega), up_n (by omega)]))
      have jF : ∀ b, b < 38 → F2 b = F1 b := fun b q => (m21 b q).trans (q10 b (by omega))
      refine ⟨nI nl0, I1, F1, I2, F2, p0, s1.trans m0, 0, nl0, nc, nr, 0, 0, 0, 0, 0, ?_, ?_, ?_, ?_, ?_, ?_, ?_, ?_, ?_, ?_⟩
      · refine ⟨by decide, ?_, ?_, ?_, fun j hj => absurd hj (Nat.not_lt_zero j)⟩
        · rw [jI 5 (by decide), p2, nI_0]
        · rw [m4, nI_0]
        · rw [m5, q4, jI 0 (by decide), p1, q3]
      · refine ⟨d1, d2, d3, ?_, ?_, ?_, m1, m2, m3⟩
        · rw [jI 9 (by decide), p3]
        · rw [jI 10 (by decide), p4, d6]
        · rw [jI 11 (by decide), p5, d8]
      · rw [jF 13 (by decide), jF 14 (by decide)]
        refine ⟨?_, ?_⟩
        · intro j hj
          obtain ⟨b1, a, a1, a2⟩ := dL.2.1 j hj
          refine ⟨a, a1, ?_, ?_⟩
          · rw [p17 j (by omega), a2]
          · rw [m17 j hj, b1, a2]
        · intro k hk
          obtain ⟨b1, b2⟩ := dL.2.2 k hk
          rw [m16 k hk, p18 k (by omega)]
          exact ⟨b1, b2⟩
      · rw [jF 15 (by decide), jF 16 (by decide), jF 17 (by decide)]
        intro c hc
        obtain ⟨a1, a2, a3⟩ := m18 c hc
        rw [a1, a2, a3, p19 c (by omega), p20 c (by omega), p21 c (by omega)]
        exact dC c hc
      · rw [jF 18 (by decide), jF 19 (by decide), jF 20 (by decide), jF 21 (by decide)]
        intro c hc
        obtain ⟨a1, a2, a3, a4⟩ := m19 c hc
        rw [a1, a2, a3, a4, p22 c (by omega), p23 c (by omega), p24 c (by omega), p25 c (by omega)]
        exact dR c hc
      · rw [jF 22 (by decide)]
        obtain ⟨z1, z2⟩ := pt0 p13
        refine ⟨?_, ?_, ?_, ?_, ?_, ?_, ?_, ?_, ?_, ?_, ?_⟩
        · intro k hk
          obtain ⟨b1, a, a1, a2, a3⟩ := dL.1 k hk
          rw [m10 k hk, p12 k (by omega)]
          exact ⟨b1, a, by omega, by omega, a3⟩
        · intro k hk
          rw [m11 (6 + k) (by omega) (by omega), p13 (6 + k) (by omega) (by omega)]
          exact ⟨rfl, Or.inl rfl⟩
        · intro k h1 h2
          exact p13 (6 + k) (by omega) (by omega)
        · intro c hc
          rw [m11 (12 + c) (by omega) (by omega), p13 (12 + c) (by omega) (by omega)]
          exact ⟨rfl, Or.inl rfl⟩
        · intro c h1 h2
          exact p13 (12 + c) (by omega) (by omega)
        · have : 0 < 2 ^ nl0 := Nat.pow_pos (by decide)
          exact ⟨2 ^ nl0 - 1, by omega, p14⟩
        · rw [m12, p14]
        · exact ⟨0, by decide, by rw [p15, nI_0]⟩
        · rw [m13, p15]
        · rw [m14, z1]
        · rw [m15, z2]
      · rw [jI 25 (by decide), p11 25 (by decide), fI 25 (by decide), jF 22 (by decide), SD, p16, gx 22 (by decide)]
        exact ⟨hD1, hD2⟩
      · refine ⟨by decide, by decide, ?_, ?_, ?_, fun j hj => absurd hj (Nat.not_lt_zero j)⟩
        · rw [jI 12 (by decide), p6, nI_0]
        · rw [jI 13 (by decide), p7, nI_0]
        · rw [m6, nI_0]
      · refine ⟨by decide, ?_, ?_⟩
        · rw [jI 14 (by decide), p8, nI_0]
        · intro i hi
          rw [Nat.zero_testBit]
          refine ⟨?_, fun q => absurd q Bool.false_ne_true⟩
          rw [if_neg Bool.false_ne_true]
          rcases (show i = 0 ∨ i = 1 by omega) with rfl | rfl
          · exact m20.1
          · exact m20.2
      · refine ⟨by decide, by decide, ?_, ?_, ?_, ?_, fun j hj => absurd hj (Nat.not_lt_zero j), fun j hj => absurd hj (Nat.not_lt_zero j)⟩
        · rw [jI 15 (by decide), p9, nI_0]
        · rw [jI 16 (by decide), p10, nI_0]
        · rw [m7, nI_0]
        · rw [m8, nI_0]
  · -- refused
    have X : f_X9_port I F = some (-10 - If 3, va_up (va_up If 5 0) 0 (If 4), Ff) := by
      unfold f_X9_port f_X2_empty
      rw [r0, bd_s, bd_s, lt_e, up_n (show ¬ 3 = 5 by decide), up_n (show ¬ 4 = 5 by decide), if_neg z]
      rfl
    obtain ⟨If', Ff', J, G, s0, s1⟩ := run (va_up (va_up If 5 0) 0 (If 4)) Ff (by rw [up_n (by decide), up_n (by decide), fI 26 (by decide)]; exact e26) w48
    have ee : If' = If ∧ Ff' = Ff := by
      rw [r0] at s0
      have := Option.some.inj s0
      have h2 := (Prod.mk.inj (Prod.mk.inj this).2)
      exact ⟨h2.1.symm, h2.2.symm⟩
    obtain ⟨rfl, rfl⟩ := ee
    rcases s1 with ⟨k, s1, pl, q1, q2, q3, q4, q5, q6, q7, q8, q9, q10⟩ | ⟨-, nl, nc, nr, q1, q2, -⟩
    · have M : f_X10_port_j46 (nI k) J G = some (-10 - nI k, va_up J 26 0, G) := by
        unfold f_X10_port_j46
        rw [lt_e, if_neg (by rw [nk_le q1 q2]; exact id)]
      have kI : ∀ b, (9 ≤ b ∧ b < 26) ∨ 34 ≤ b → (va_up J 26 0) b = I b := by
        intro b q
        rw [up_n (by omega), q9 b (by omega), up_n (by omega), up_n (by omega), up_n (by omega), up_n (by omega), up_n (by omega), up_n (by omega), up_n (by omega), fI b (by omega)]
      have kF : ∀ b, (12 ≤ b ∧ b < 49) ∨ 59 ≤ b → G b = F b := fun b q => (q10 b (by omega)).trans (gx b (by omega))
      have k5 : (va_up J 26 0) 5 = 0 := by
        rw [up_n (by decide), q9 5 (by decide)]
        rfl
      have k0 : (va_up J 26 0) 0 = If' 4 := by
        rw [up_n (by decide), q9 0 (by decide)]
        rfl
      have k27 : (va_up J 26 0) 27 = nI pl := (up_n (by decide)).trans q6
      refine ⟨-10 - nI k, _, _, va_up J 26 0, G, by rw [X, q4], s1.trans M, 0, L, C, R, u, o, q, g, bb, ?_, ?_, ?_, ?_, ?_, ?_, ?_, ?_, ?_, ?_⟩
      · refine ⟨by decide, k5.trans nI_0.symm, up_s.trans nI_0.symm, ?_, fun j hj => absurd hj (Nat.not_lt_zero j)⟩
        rw [k27, k0, q5]
      · rw [kI 9 (by decide), kI 10 (by decide), kI 11 (by decide), kI 22 (by decide), kI 23 (by decide), kI 24 (by decide)]
        exact hPC
      · rw [kF 13 (by decide), kF 14 (by decide), kF 38 (by decide), kF 39 (by decide)]
        exact hPL
      · rw [kF 15 (by decide), kF 16 (by decide), kF 17 (by decide), kF 40 (by decide), kF 41 (by decide), kF 42 (by decide)]
        exact hQ
      · rw [kF 18 (by decide), kF 19 (by decide), kF 20 (by decide), kF 21 (by decide), kF 43 (by decide), kF 44 (by decide), kF 45 (by decide), kF 46 (by decide)]
        exact hV
      · rw [kF 15 (by decide), kF 22 (by decide), kF 47 (by decide)]
        exact hS
      · rw [kI 25 (by decide), kF 22 (by decide)]
        exact ⟨hD1, hD2⟩
      · rw [kI 12 (by decide), kI 13 (by decide), kI 34 (by decide), kF 15 (by decide), kF 23 (by decide), kF 59 (by decide)]
        exact hU
      · rw [kI 14 (by decide), kF 15 (by decide), kF 24 (by decide), kF 64 (by decide), kF 65 (by decide)]
        exact hM
      · rw [kI 15 (by decide), kI 16 (by decide), kI 37 (by decide), kI 38 (by decide), kF 25 (by decide), kF 26 (by decide), kF 27 (by decide), kF 28 (by decide), kF 60 (by decide), kF 61 (by decide), kF 62 (by decide), kF 63 (by decide)]
        exact hN
    · exact absurd q2 z
