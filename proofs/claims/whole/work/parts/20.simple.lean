/-! the simple operations -/
theorem in_c {a : Int32} {w2 w4 : Int64} {b c : Int32} (hb : w2 = b.toInt64) (hc : w4 = c.toInt64) (I : AI) (F : AF) : f_X10_in a.toInt64 w2 w4 I F = some ((if b ≤ a ∧ a ≤ c then 1 else 0), I, F) := by
  subst hb; subst hc; exact in_eq a b c I F
theorem i_not {a b : Int32} {n : Nat} (h : ¬ (b ≤ a ∧ a ≤ nI n)) : a < b ∨ nI n < a := by
  by_cases q : a < b
  · exact Or.inl q
  · exact Or.inr (Int32.not_le.mp fun z => h ⟨Int32.not_lt.mp q, z⟩)
theorem sim_fault : ab_Sim Inv f_X9_fault f_X10_fault := by
  intro I F h
  have h0 := h
  obtain ⟨t, L, C, R, u, o, q, g, b, hT, hR⟩ := h
  refine ⟨I 0, I, F, I, F, rfl, ?_, h0⟩
  unfold f_X10_fault
  rw [hT.2.2.2.1]
theorem sim_seed (a : Int32) : ab_Sim Inv (f_X9_seed a) (f_X10_seed a) := by
  intro I F h
  have h0 := h
  obtain ⟨t, L, C, R, u, o, q, g, b, hT, hP, hL, hQ, hV, hS, hD, hU, hM, hN⟩ := h
  by_cases ha : a < 0
  · refine ⟨-1000000002, I, F, I, F, ?_, ?_, h0⟩
    · unfold f_X9_seed
      rw [if_neg (Int32.not_le.mpr ha)]
    · unfold f_X10_seed
      rw [if_neg (Int32.not_le.mpr ha)]
  · have e1 : f_X9_seed a I F = some (F 22 20, I, va_up F 22 (upd (F 22) 20 a)) := by
      unfold f_X9_seed
      rw [if_pos (Int32.not_lt.mp ha)]
      rfl
    have e2 : f_X10_seed a I (va_up F 22 (upd (F 22) 20 a)) = some (F 22 20, va_up I 25 a, va_up F 22 (upd (F 22) 20 a)) := by
      unfold f_X10_seed
      rw [if_pos (Int32.not_lt.mp ha), hD.1]
    obtain ⟨k, hk, ek⟩ := nI_of ha
    refine ⟨_, _, _, _, _, e1, e2, t, L, C, R, u, o, q, g, b, hT, hP, hL, hQ, hV, ?_, ⟨rfl, k, hk, ek⟩, hU, hM, hN⟩
    exact SR_20 hP.1 hP.2.1 hS
theorem sim_feed (a : Int32) : ab_Sim Inv (f_X9_feed a) (f_X10_feed a) := by
  intro I F h
  have h0 := h
  obtain ⟨t, L, C, R, u, o, q, g, b, ⟨ht, e5, e26, e27, htx⟩, hR⟩ := h
  by_cases ha : 0 ≤ a ∧ a ≤ nI 255
  · have hin : (if (0 : Int32) ≤ a ∧ a ≤ nI 255 then (1 : Int32) else 0) = 1 := if_pos ha
    by_cases hf : t < 250
    · have e1 : f_X9_feed a I F = some (nI (t + 1), va_up I 5 (nI (t + 1)), va_up F 0 (upd (F 0) t a)) := by
        unfold f_X9_feed
        rw [if_neg (Int32.not_lt.mpr ha.1), if_pos ha.2]
        simp (disch := omega) only [f_X2_isFull, f_X2_append, e5, nlt, nle, if_pos hf, bd_s, if_true, if_neg (Nat.not_le.mpr hf), vin_t, nI_clamp, nI_1, cond_true]
      have e2 : f_X10_feed a (va_up I 5 (nI (t + 1))) (va_up F 0 (upd (F 0) t a)) = some (nI (t + 1), va_up (va_up I 5 (nI (t + 1))) 26 (nI (t + 1)), va_up (va_up F 0 (upd (F 0) t a)) 48 (upd (F 48) t a)) := by
        unfold f_X10_feed
        rw [in_c (w2 := 0) (w4 := 255) (b := 0) (c := nI 255) rfl rfl, hin]
        have e : va_up I 5 (nI (t + 1)) 26 = nI t := e26
        have hne : ¬ t = 250 := by omega
        simp (disch := omega) only [bd_s, e, neq, if_pos hne, vin_t, nI_clamp, nI_1, cond_true]
        rfl
      obtain ⟨k, hk, ek⟩ := nI_of2 (M := nI 255) (n := 255) rfl (Int32.not_lt.mpr ha.1) ha.2
      refine ⟨_, _, _, _, _, e1, e2, t + 1, L, C, R, u, o, q, g, b, ⟨by omega, rfl, rfl, e27, ?_⟩, hR⟩
      intro j hj
      show upd (F 48) t a j = upd (F 0) t a j ∧ ∃ a', a' ≤ 255 ∧ upd (F 0) t a j = nI a'
      by_cases hjt : j = t
      · subst hjt
        exact ⟨by rw [pk_us, pk_us], k, hk, by rw [pk_us, ek]⟩
      · rw [pk_un hjt, pk_un hjt]
        exact htx j (by omega)
    · have et : t = 250 := by omega
      subst et
      refine ⟨-1000000004, I, F, I, F, ?_, ?_, h0⟩
      · unfold f_X9_feed
        rw [if_neg (Int32.not_lt.mpr ha.1), if_pos ha.2]
        simp only [f_X2_isFull, e5, bd_s]
        rfl
      · unfold f_X10_feed
        rw [in_c (w2 := 0) (w4 := 255) (b := 0) (c := nI 255) rfl rfl, hin]
        simp only [bd_s, e26]
        rfl
  · have hin : (if (0 : Int32) ≤ a ∧ a ≤ nI 255 then (1 : Int32) else 0) = 0 := if_neg ha
    refine ⟨-1000000002, I, F, I, F, ?_, ?_, h0⟩
    · unfold f_X9_feed
      rcases i_not ha with q1 | q1
      · rw [if_pos q1]
      · by_cases q2 : a < 0
        · rw [if_pos q2]
        · rw [if_neg q2, if_neg (Int32.not_le.mpr q1)]
    · unfold f_X10_feed
      rw [in_c (w2 := 0) (w4 := 255) (b := 0) (c := nI 255) rfl rfl, hin]
      rfl
