theorem sim_reach (a b : Int32) : ab_Sim Inv (f_X9_reach a b) (f_X10_reach a b) := by
  intro I F h
  have h0 := h
  obtain ⟨t, L, C, R, u, o, q, g, bb, hT, ⟨hL, hC, hR, e9, e10, e11, e22, e23, e24⟩, hPL, hQ, hV, hS, hD, hU, hM, hN⟩ := h
  obtain ⟨al, s, ha1, ea, ea2, hs1, es, -⟩ := SR_a hS
  rcases i_cs a (n := L) (by omega) with ⟨k, hk, rfl⟩ | ha
  · by_cases hb : b = 0 ∨ b = 1
    · have hin : (if (0 : Int32) ≤ b ∧ b ≤ 1 then (1 : Int32) else 0) = 1 := by rcases hb with rfl | rfl <;> decide
      obtain ⟨r, r1, r2⟩ := reach_l (I := I) hL ea ha1 hPL hS hk hb 3 1 ab_fu ab_fu (ms F al k 0) (ms F al k 0) (ms F al k 0) rfl (by unfold ab_fu; omega) (by unfold ab_fu; omega) (by split <;> rfl)
      have n1 : nI 1 = 1 := rfl
      rw [n1] at r1 r2
      refine ⟨r, I, F, I, F, ?_, ?_, h0⟩
      · unfold f_X9_reach
        rw [hasL_in hL e9 hk]
        simp only [bd_s]
        rw [if_pos (show ¬ (1 : Int32) = 0 by decide), ← nI_0, X_meas hL ea ha1 (by decide) (PL_h hPL) hk, nI_0]
        simp only [bd_s]
        by_cases z : b = 0
        · rw [if_pos z]
          exact r1
        · rw [if_neg z, if_pos (hb.resolve_left z)]
          exact r1
      · unfold f_X10_reach
        rw [isL_in hL e22 hk]
        simp only [bd_s]
        rw [if_pos (show ¬ (1 : Int32) = 0 by decide), in_c (w2 := 0) (w4 := 1) (b := 0) (c := 1) rfl rfl, hin]
        simp only [bd_s]
        rw [if_pos (show ¬ (1 : Int32) = 0 by decide), ← nI_0, M_meas hL ea ha1 (by decide) hPL hS hk, nI_0]
        simp only [bd_s]
        exact r2
    · refine ⟨-1000000002, I, F, I, F, ?_, ?_, h0⟩
      · unfold f_X9_reach
        rw [hasL_in hL e9 hk]
        simp only [bd_s]
        rw [if_pos (show ¬ (1 : Int32) = 0 by decide), if_neg (fun z => hb (Or.inl z)), if_neg (fun z => hb (Or.inr z))]
      · unfold f_X10_reach
        rw [isL_in hL e22 hk]
        simp only [bd_s]
        rw [if_pos (show ¬ (1 : Int32) = 0 by decide), in_c (w2 := 0) (w4 := 1) (b := 0) (c := 1) rfl rfl, if_neg]
        · simp only [bd_s]
          rw [if_neg (by decide)]
        · intro z
          apply hb
          obtain ⟨j, hj, e⟩ := nI_of2 (M := 1) (n := 1) rfl (Int32.not_lt.mpr z.1) z.2
          rcases (show j = 0 ∨ j = 1 by omega) with rfl | rfl
          · exact Or.inl e
          · exact Or.inr e
  · refine ⟨-1000000001, I, F, I, F, ?_, ?_, h0⟩
    · unfold f_X9_reach
      rw [hasL_out hL e9 ha]
      rfl
    · unfold f_X10_reach
      rw [isL_out hL e22 ha]
      rfl
