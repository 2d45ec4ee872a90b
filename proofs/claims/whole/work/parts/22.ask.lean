/-! operations that only ask -/
theorem i32_as (x y z : Int32) : x + (y - z) = x + y - z := by rw [Int32.sub_eq_add_neg, ← Int32.add_assoc, ← Int32.sub_eq_add_neg]
theorem om_n {F : AF} {k s l v : Nat} (e1 : F 22 k = nI l) (e2 : F 13 (4 * k + s % 4) = nI v) (hl : l ≤ 140) (hv : v ≤ 18) : om F k s = nI (l + v - 9) := by
  unfold om
  rw [e1, e2, i32_as, nI_add]
  by_cases h : 9 ≤ l + v
  · rw [pk_sub h]
    simp (disch := omega) only [n0gt]
    by_cases h2 : 0 < l + v - 9
    · rw [if_pos h2]
    · rw [if_neg h2, show l + v - 9 = 0 by omega]
      rfl
  · rw [show l + v - 9 = 0 by omega, if_neg]
    · rfl
    · intro q
      have q2 := pk_sneg (a := l + v) (b := 9) (by omega) (by omega)
      exact Int32.lt_irrefl (Int32.lt_trans q q2)
theorem om_bd {L C : Nat} {F G : AF} {k : Nat} (s : Nat) (hP : PL L (G 13) (G 14) (F 38) (F 39)) (hS : SR L C (G 15) (G 22) (F 47)) (hk : k < L) : ∃ v, v ≤ 149 ∧ om G k s = nI v := by
  obtain ⟨-, l, hl1, hl2, e1⟩ := hS.1 k hk
  obtain ⟨v, hv, e2, -⟩ := hP.1 (4 * k + s % 4) (by omega)
  exact ⟨l + v - 9, by omega, om_n e1 e2 hl2 hv⟩
theorem mz_bd {L C a s : Nat} {F G : AF} (hL : L ≤ 6) (hP : PL L (G 13) (G 14) (F 38) (F 39)) (hS : SR L C (G 15) (G 22) (F 47)) : ∀ (m : Nat) (x : Int32), (x = -1 ∨ ∃ k, k < L ∧ x = nI k) → ∃ v, v ≤ 149 ∧ mz G a s m x = nI v
  | 0, _, _ => ⟨0, by omega, rfl⟩
  | m + 1, x, hx => by
    rw [mz]
    rcases hx with hx | ⟨k, hk, hx⟩
    · rw [if_pos hx]; exact ⟨0, by omega, rfl⟩
    · subst hx
      simp (disch := omega) only [nm1, if_false, nI_clamp]
      by_cases hc : G 22 (6 + k) = -1
      · rw [if_pos hc]
        cases hb : a.testBit k with
        | false => exact mz_bd hL hP hS m (G 14 k) ((hP.2 k hk).2.imp id fun ⟨j, h1, _, h3⟩ => ⟨j, h1, h3⟩)
        | true => exact om_bd s hP hS hk
      · rw [if_neg hc]
        rcases (hS.2.1 k hk).2 with e2 | ⟨v, hv, e2⟩
        · exact absurd e2 hc
        · exact ⟨v, hv, e2⟩
theorem ms_bd {L C a k : Nat} {F G : AF} (s : Nat) (hL : L ≤ 6) (hP : PL L (G 13) (G 14) (F 38) (F 39)) (hS : SR L C (G 15) (G 22) (F 47)) (hk : k < L) : ∃ v, v ≤ 149 ∧ ms G a k s = nI v := mz_bd hL hP hS 7 (nI k) (Or.inr ⟨k, hk, rfl⟩)
theorem PL_h {L : Nat} {f13 f14 f38 f39 : Nat → Int32} (h : PL L f13 f14 f38 f39) : ∀ k, k < L → f14 k = -1 ∨ ∃ j, j < L ∧ f14 k = nI j := fun k hk => (h.2 k hk).2.imp id fun ⟨j, h1, _, h3⟩ => ⟨j, h1, h3⟩
/-- what stands of a state, for asking: limbs, who lives, the season -/
theorem SR_a {L C : Nat} {T r w : Nat → Int32} (h : SR L C T r w) : ∃ a s, a < 2 ^ L ∧ r 18 = nI a ∧ w 18 = nI a ∧ s ≤ 9040 ∧ r 19 = nI s ∧ w 19 = nI s := by
  obtain ⟨-, -, -, -, -, ⟨a, h1, h2⟩, h3, ⟨s, h4, h5⟩, h6, -⟩ := h
  exact ⟨a, s, h1, h2, h3.trans h2, h4, h5, h6.trans h5⟩
theorem X_now {L a s k : Nat} {I : AI} {F : AF} (hL : L ≤ 6) (ea : F 22 18 = nI a) (ha : a < 2 ^ L) (es : F 22 19 = nI s) (hs : s ≤ 9040) (hh : ∀ k, k < L → F 14 k = -1 ∨ ∃ j, j < L ∧ F 14 k = nI j) (hk : k < L) : f_X8_measureNow (nI k) I F = some (ms F a k s, I, F) := by
  unfold f_X8_measureNow
  rw [es, X_meas hL ea ha (by omega) hh hk]
  rfl
theorem M_now {L C a s k : Nat} {I : AI} {F G : AF} (hL : L ≤ 6) (ea : G 22 18 = nI a) (ha : a < 2 ^ L) (es : G 22 19 = nI s) (hs : s ≤ 9040) (hP : PL L (G 13) (G 14) (F 38) (F 39)) (hS : SR L C (G 15) (G 22) (F 47)) (hk : k < L) : f_X10_measureNow (nI k) I F = some (ms G a k s, I, F) := by
  unfold f_X10_measureNow
  rw [show F 47 19 = nI s from hS.2.2.2.2.2.2.2.2.1.trans es, M_meas hL ea ha (by omega) hP hS hk]
  rfl
theorem hasC_in {L k : Nat} {I : AI} {F : AF} (hL : L ≤ 6) (e : I 10 = nI L) (hk : k < L) : f_X5_hasContract (nI k) I F = some (1, I, F) := by
  unfold f_X5_hasContract
  simp (disch := omega) only [e, n0lt, nle, if_neg (Nat.not_le.mpr hk), if_false]
theorem hasC_out {L : Nat} {I : AI} {F : AF} {x : Int32} (hL : L ≤ 6) (e : I 10 = nI L) (hx : x < 0 ∨ ∃ k, L ≤ k ∧ k < 2 ^ 31 ∧ x = nI k) : f_X5_hasContract x I F = some (0, I, F) := by
  unfold f_X5_hasContract
  rcases hx with h | ⟨k, h1, h2, h3⟩
  · rw [if_pos h]
  · subst h3
    simp (disch := omega) only [e, n0lt, nle, if_pos h1, if_false]
theorem hasR_in {L k : Nat} {I : AI} {F : AF} (hL : L ≤ 8) (e : I 11 = nI L) (hk : k < L) : f_X5_hasRate (nI k) I F = some (1, I, F) := by
  unfold f_X5_hasRate
  simp (disch := omega) only [e, n0lt, nle, if_neg (Nat.not_le.mpr hk), if_false]
theorem hasR_out {L : Nat} {I : AI} {F : AF} {x : Int32} (hL : L ≤ 8) (e : I 11 = nI L) (hx : x < 0 ∨ ∃ k, L ≤ k ∧ k < 2 ^ 31 ∧ x = nI k) : f_X5_hasRate x I F = some (0, I, F) := by
  unfold f_X5_hasRate
  rcases hx with h | ⟨k, h1, h2, h3⟩
  · rw [if_pos h]
  · subst h3
    simp (disch := omega) only [e, n0lt, nle, if_pos h1, if_false]
theorem sim_rate (a b : Int32) : ab_Sim Inv (f_X9_rate a b) (f_X10_rate a b) := by
  intro I F h
  have h0 := h
  obtain ⟨t, L, C, R, u, o, q, g, bb, hT, ⟨hL, hC, hR, e9, e10, e11, e22, e23, e24⟩, hPL, hQ, hV, hS, hD, hU, hM, hN⟩ := h
  rcases i_cs a (n := R) (by omega) with ⟨k, hk, rfl⟩ | ha
  · obtain ⟨v1, v2, v3, v4, -⟩ := hV k hk
    have e1 : ∃ r, f_X9_rate (nI k) b I F = some (r, I, F) ∧ f_X10_rate (nI k) b I F = some (r, I, F) := by
      unfold f_X9_rate f_X10_rate
      rw [hasR_in hR e11 hk, in_in hR e24 hk]
      simp (disch := omega) only [bd_s, vin_t, cond_true, nI_clamp, v1, v2, v3, v4]
      rw [if_pos (show ¬ (1 : Int32) = 0 by decide)]
      repeat' (first | exact ⟨_, rfl, rfl⟩ | split)
    obtain ⟨r, e1, e2⟩ := e1
    exact ⟨r, I, F, I, F, e1, e2, h0⟩
  · refine ⟨-1000000001, I, F, I, F, ?_, ?_, h0⟩
    · unfold f_X9_rate
      rw [hasR_out hR e11 ha]
      rfl
    · unfold f_X10_rate
      rw [in_out hR e24 ha]
      rfl
theorem sim_contract (a b : Int32) : ab_Sim Inv (f_X9_contract a b) (f_X10_contract a b) := by
  intro I F h
  have h0 := h
  obtain ⟨t, L, C, R, u, o, q, g, bb, hT, ⟨hL, hC, hR, e9, e10, e11, e22, e23, e24⟩, hPL, hQ, hV, hS, hD, hU, hM, hN⟩ := h
  rcases i_cs a (n := C) (by omega) with ⟨k, hk, rfl⟩ | ha
  · obtain ⟨v1, v2, v3, -⟩ := hQ k hk
    have v4 := (hS.2.2.2.1 k hk).1
    have e1 : ∃ r, f_X9_contract (nI k) b I F = some (r, I, F) ∧ f_X10_contract (nI k) b I F = some (r, I, F) := by
      unfold f_X9_contract f_X10_contract f_X8_paidOf
      rw [hasC_in hC e10 hk, in_in (by omega) e23 hk, nI_add]
      simp (disch := omega) only [bd_s, vin_t, cond_true, nI_clamp, v1, v2, v3, v4]
      rw [if_pos (show ¬ (1 : Int32) = 0 by decide)]
      repeat' (first | exact ⟨_, rfl, rfl⟩ | split)
    obtain ⟨r, e1, e2⟩ := e1
    exact ⟨r, I, F, I, F, e1, e2, h0⟩
  · refine ⟨-1000000001, I, F, I, F, ?_, ?_, h0⟩
    · unfold f_X9_contract
      rw [hasC_out hC e10 ha]
      rfl
    · unfold f_X10_contract
      rw [in_out (by omega) e23 ha]
      rfl
theorem X_pay {L C a c s : Nat} {I : AI} {F : AF} (hL : L ≤ 6) (hC : C ≤ 6) (ea : F 22 18 = nI a) (ha : a < 2 ^ L) (hs : s < 2 ^ 30) (hh : ∀ k, k < L → F 14 k = -1 ∨ ∃ j, j < L ∧ F 14 k = nI j) {k : Nat} (hk : k < L) (ek : F 16 c = nI k) (hc : c < C) : f_X8_payment (nI c) (nI s) I F = some (F 17 c * ms F a k s, I, F) := by
  unfold f_X8_payment
  simp (disch := omega) only [vin_t, cond_true, nI_clamp, ek, X_meas hL ea ha hs hh hk, bd_s]
theorem sim_means (a b : Int32) : ab_Sim Inv (f_X9_means a b) (f_X10_means a b) := by
  intro I F h
  have h0 := h
  obtain ⟨t, L, C, R, u, o, q, g, bb, hT, ⟨hL, hC, hR, e9, e10, e11, e22, e23, e24⟩, hPL, hQ, hV, hS, hD, hU, hM, hN⟩ := h
  obtain ⟨al, s, ha1, ea, -, hs1, es, -⟩ := SR_a hS
  rcases i_cs a (n := C) (by omega) with ⟨c, hc, rfl⟩ | ha
  · obtain ⟨v1, v2, v3, -, ⟨k, hk, ek⟩, -⟩ := hQ c hc
    rcases i_cs b (n := 100) (by omega) with ⟨s2, hs2, rfl⟩ | hb
    · refine ⟨F 17 c * ms F al k s2, I, F, I, F, ?_, ?_, h0⟩
      · unfold f_X9_means
        rw [hasC_in hC e10 hc]
        simp (disch := omega) only [bd_s, n0lt, nle, X_pay hL hC ea ha1 (show s2 < 2 ^ 30 by omega) (PL_h hPL) hk ek hc, if_pos (show s2 ≤ 99 by omega), if_false]
        rfl
      · unfold f_X10_means
        rw [in_in (by omega) e23 hc]
        simp only [bd_s]
        rw [if_pos (show ¬ (1 : Int32) = 0 by decide), in_c (w2 := 0) (w4 := 99) (b := 0) (c := nI 99) rfl rfl]
        have v2' := v2.trans ek
        simp (disch := omega) only [n0le, nle, true_and, if_pos (show s2 ≤ 99 by omega), bd_s, vin_t, cond_true, nI_clamp, v3, v2', M_meas hL ea ha1 (show s2 < 2 ^ 30 by omega) hPL hS hk]
        rfl
    · refine ⟨-1000000002, I, F, I, F, ?_, ?_, h0⟩
      · unfold f_X9_means
        rw [hasC_in hC e10 hc]
        simp only [bd_s]
        rw [if_pos (show ¬ (1 : Int32) = 0 by decide)]
        rcases hb with hb | ⟨j, h1, h2, rfl⟩
        · rw [if_pos hb]
        · simp (disch := omega) only [n0lt, nle, if_neg (show ¬ j ≤ 99 by omega), if_false]
      · unfold f_X10_means
        rw [in_in (by omega) e23 hc]
        simp only [bd_s]
        rw [if_pos (show ¬ (1 : Int32) = 0 by decide), in_c (w2 := 0) (w4 := 99) (b := 0) (c := nI 99) rfl rfl, if_neg]
        · rfl
        · rcases hb with hb | ⟨j, h1, h2, rfl⟩
          · exact fun q => Int32.not_le.mpr hb q.1
          · intro q
            have := (nI_leI h2 (by decide)).mp q.2
            omega
  · refine ⟨-1000000001, I, F, I, F, ?_, ?_, h0⟩
    · unfold f_X9_means
      rw [hasC_out hC e10 ha]
      rfl
    · unfold f_X10_means
      rw [in_out (by omega) e23 ha]
      rfl
theorem sim_limb (a b : Int32) : ab_Sim Inv (f_X9_limb a b) (f_X10_limb a b) := by
  intro I F h
  have h0 := h
  obtain ⟨t, L, C, R, u, o, q, g, bb, hT, ⟨hL, hC, hR, e9, e10, e11, e22, e23, e24⟩, hPL, hQ, hV, hS, hD, hU, hM, hN⟩ := h
  obtain ⟨al, s, ha1, ea, ea2, hs1, es, -⟩ := SR_a hS
  have ha31 : al < 2 ^ 31 := Nat.lt_of_lt_of_le ha1 (Nat.pow_le_pow_right (by decide) (by omega))
  rcases i_cs a (n := L) (by omega) with ⟨k, hk, rfl⟩ | ha
  · have v1 := (hS.1 k hk).1
    have v2 := (hPL.2 k hk).1
    have v3 := (hS.2.1 k hk).1
    have k9 : k < 9 := by omega
    have e1 : ∃ r, f_X9_limb (nI k) b I F = some (r, I, F) ∧ f_X10_limb (nI k) b I F = some (r, I, F) := by
      unfold f_X9_limb f_X10_limb f_X8_lengthOf f_X8_copyOf f_X5_addedAsTold
      rw [hasL_in hL e9 hk, isL_in hL e22 hk, ← nI_0, nI_add, nI_add, Nat.zero_add, nI_0]
      simp (config := { maxSteps := 2000000 }) (disch := omega) only [bd_s, vin_t, cond_true, nI_clamp, v1, v2, v3, X_lives ea ha31 k9, M_lives ea2 ha31 k9, X_now hL ea ha1 es hs1 (PL_h hPL) hk, M_now hL ea ha1 es hs1 hPL hS hk, pk_mul]
      rw [if_pos (show ¬ (1 : Int32) = 0 by decide), in_c (w2 := 5) (w4 := 8) (b := nI 5) (c := nI 8) rfl rfl]
      rcases i_cs b (n := 9) (by omega) with ⟨j, hj, rfl⟩ | hb
      · have key : ∀ j', 5 ≤ j' → j' < 9 → ∃ v, v ≤ 18 ∧ F 13 (k * 4 + (j' - 5)) = nI v ∧ F 38 (4 * k + j' - 5) + nI 9 = nI v := by
          intro j' h1 h2
          obtain ⟨v, hv, e1, e2⟩ := hPL.1 (4 * k + j' - 5) (by omega)
          refine ⟨v, hv, by rw [show k * 4 + (j' - 5) = 4 * k + j' - 5 by omega]; exact e1, ?_⟩
          rw [e2, Int32.sub_add_cancel]
        have hj' : j = 0 ∨ j = 1 ∨ j = 2 ∨ j = 3 ∨ j = 4 ∨ j = 5 ∨ j = 6 ∨ j = 7 ∨ j = 8 := by omega
        rcases hj' with rfl | rfl | rfl | rfl | rfl | hj5
        · exact ⟨_, rfl, rfl⟩
        · exact ⟨_, rfl, rfl⟩
        · exact ⟨_, rfl, rfl⟩
        · cases al.testBit k <;> exact ⟨_, rfl, rfl⟩
        · exact ⟨_, rfl, rfl⟩
        · obtain ⟨v, hv, e1, e2⟩ := key j (by omega) (by omega)
          refine ⟨nI v, ?_, ?_⟩
          · rw [pk_sub (show 5 ≤ j by omega), nI_add]
            simp (disch := omega) only [vin_t, cond_true, nI_clamp, e1]
            rcases hj5 with rfl | rfl | rfl | rfl <;> rfl
          · rw [nI_add, pk_sub (show 5 ≤ 4 * k + j by omega)]
            simp (disch := omega) only [vin_t, cond_true, nI_clamp]
            rw [← e2]
            rcases hj5 with rfl | rfl | rfl | rfl <;> rfl
      · refine ⟨-1000000002, ?_, ?_⟩
        · have hne : ∀ j, j < 9 → ¬ b = nI j := by
            intro j hj e
            subst e
            rcases hb with hb | ⟨j2, h1, h2, h3⟩
            · exact nI_pos (by omega) hb
            · have := (nI_eq (by omega) h2).mp h3
              omega
          rw [if_neg (show ¬ b = 0 from hne 0 (by omega)), if_neg (show ¬ b = 1 from hne 1 (by omega)), if_neg (hne 2 (by omega)), if_neg (hne 3 (by omega)), if_neg (hne 4 (by omega)), if_neg (hne 5 (by omega)), if_neg (hne 6 (by omega)), if_neg (hne 7 (by omega)), if_neg (hne 8 (by omega))]
        · have hne : ∀ j, j < 9 → ¬ b = nI j := by
            intro j hj e
            subst e
            rcases hb with hb | ⟨j2, h1, h2, h3⟩
            · exact nI_pos (by omega) hb
            · have := (nI_eq (by omega) h2).mp h3
              omega
          rw [if_pos (show ¬ (1 : Int32) = 0 by decide), if_neg (show ¬ b = 0 from hne 0 (by omega)), if_neg (show ¬ b = 1 from hne 1 (by omega)), if_neg (hne 2 (by omega)), if_neg (hne 3 (by omega)), if_neg (hne 4 (by omega)), if_neg]
          · rfl
          · intro q
            rcases hb with hb | ⟨j, h1, h2, rfl⟩
            · exact Int32.lt_irrefl (Int32.lt_of_lt_of_le hb (Int32.le_trans (show (0 : Int32) ≤ nI 5 by decide) q.1))
            · have := (nI_leI h2 (by decide)).mp q.2
              omega
    obtain ⟨r, e1, e2⟩ := e1
    exact ⟨r, I, F, I, F, e1, e2, h0⟩
  · refine ⟨-1000000001, I, F, I, F, ?_, ?_, h0⟩
    · unfold f_X9_limb
      rw [hasL_out hL e9 ha]
      rfl
    · unfold f_X10_limb
      rw [isL_out hL e22 ha]
      rfl
