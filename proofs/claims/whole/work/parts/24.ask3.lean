/-! reach, firstNought, told, used, bale -/
theorem reach_l {L C a k : Nat} {I : AI} {F : AF} {w : Int32} (hL : L ≤ 6) (ea : F 22 18 = nI a) (ha : a < 2 ^ L) (hP : PL L (F 13) (F 14) (F 38) (F 39)) (hS : SR L C (F 15) (F 22) (F 47)) (hk : k < L) (hw : w = 0 ∨ w = 1) :
    ∀ (m i n n' : Nat) (x y z : Int32), i + m = 4 → m < n → m < n' → (x = if w = 0 then y else z) → ∃ r, f_X9_reach_43 (nI k) w (fun r _ I F => some (r, I, F)) n x (nI i) I F = some (r, I, F) ∧ f_X10_reach_37 (nI k) w (fun p q _ I F => if ¬ w = 0 then some (q, I, F) else some (p, I, F)) n' y z (nI i) I F = some (r, I, F) := by
  intro m
  induction m with
  | zero =>
    intro i n n' x y z h1 h2 h3 hx
    match n, n', h2, h3 with
    | n + 1, n' + 1, _, _ =>
      rw [f_X9_reach_43, f_X10_reach_37]
      simp (disch := omega) only [nle, if_pos (show 4 ≤ i by omega)]
      rcases hw with rfl | rfl
      · exact ⟨x, rfl, by rw [hx]; rfl⟩
      · exact ⟨x, rfl, by rw [hx]; rfl⟩
  | succ m ih =>
    intro i n n' x y z h1 h2 h3 hx
    match n, n', h2, h3 with
    | n + 1, n' + 1, h2, h3 =>
      rw [f_X9_reach_43, f_X10_reach_37]
      simp (disch := omega) only [nle, if_neg (show ¬ 4 ≤ i by omega), X_meas hL ea ha (show i < 2 ^ 30 by omega) (PL_h hP) hk, M_meas hL ea ha (show i < 2 ^ 30 by omega) hP hS hk, bd_s, lt_e, nI_1]
      generalize ms F a k i = v
      have key : ∀ x' y' z', (x' = if w = 0 then y' else z') → ∃ r, f_X9_reach_43 (nI k) w (fun r _ I F => some (r, I, F)) n x' (nI (i + 1)) I F = some (r, I, F) ∧ f_X10_reach_37 (nI k) w (fun p q _ I F => if ¬ w = 0 then some (q, I, F) else some (p, I, F)) n' y' z' (nI (i + 1)) I F = some (r, I, F) := fun x' y' z' e => ih (i + 1) n n' x' y' z' (by omega) (by omega) (by omega) e
      rcases hw with rfl | rfl
      · rw [if_neg (by decide)]
        rw [if_pos rfl] at hx
        subst hx
        by_cases q1 : x ≤ v
        · rw [if_pos q1, if_neg (Int32.not_lt.mpr q1)]
          by_cases q2 : v ≤ z
          · rw [if_pos q2]; exact key _ _ _ rfl
          · rw [if_neg q2]; exact key _ _ _ rfl
        · rw [if_neg q1, if_pos (Int32.not_le.mp q1)]
          by_cases q2 : v ≤ z
          · rw [if_pos q2]; exact key _ _ _ rfl
          · rw [if_neg q2]; exact key _ _ _ rfl
      · rw [if_pos (by decide)]
        rw [if_neg (by decide)] at hx
        subst hx
        by_cases q2 : v ≤ x
        · rw [if_pos q2, if_pos q2, if_neg (Int32.not_lt.mpr q2)]
          by_cases q1 : y ≤ v
          · rw [if_pos q1]; exact key _ _ _ rfl
          · rw [if_neg q1]; exact key _ _ _ rfl
        · rw [if_neg q2, if_neg q2, if_pos (Int32.not_le.mp q2)]
          by_cases q1 : y ≤ v
          · rw [if_pos q1]; exact key _ _ _ rfl
          · rw [if_neg q1]; exact key _ _ _ rfl
theorem fn_l {L C a s : Nat} {I : AI} {F : AF} (hL : L ≤ 6) (hC : C ≤ 6) (ea : F 22 18 = nI a) (ha : a < 2 ^ L) (es : F 22 19 = nI s) (hs : s ≤ 9040) (hP : PL L (F 13) (F 14) (F 38) (F 39)) (hQ : PQ L C (F 15) (F 16) (F 17) (F 40) (F 41) (F 42)) (hS : SR L C (F 15) (F 22) (F 47)) (e10 : I 10 = nI C) (e23 : I 23 = nI C) :
    ∀ (m i n n' : Nat) (x : Int32), i + m = C → m < n → m < n' → (x = -1 ∨ ∃ j, j < C ∧ x = nI j) → ∃ r, f_X9_firstNought_4 (fun r _ I F => some (r, I, F)) n x (nI i) I F = some (r, I, F) ∧ f_X10_firstNought_4 (fun r _ I F => some (r, I, F)) n' x (nI i) I F = some (r, I, F) := by
  intro m
  induction m with
  | zero =>
    intro i n n' x h1 h2 h3 hx
    match n, n', h2, h3 with
    | n + 1, n' + 1, _, _ =>
      rw [f_X9_firstNought_4, f_X10_firstNought_4]
      simp (disch := omega) only [e10, e23, nle, if_pos (show C ≤ i by omega)]
      exact ⟨_, rfl, rfl⟩
  | succ m ih =>
    intro i n n' x h1 h2 h3 hx
    match n, n', h2, h3 with
    | n + 1, n' + 1, h2, h3 =>
      have hi : i < C := by omega
      have keep : ∀ x', (x' = -1 ∨ ∃ j, j < C ∧ x' = nI j) → ∃ r, f_X9_firstNought_4 (fun r _ I F => some (r, I, F)) n x' (nI (i + 1)) I F = some (r, I, F) ∧ f_X10_firstNought_4 (fun r _ I F => some (r, I, F)) n' x' (nI (i + 1)) I F = some (r, I, F) := fun x' hx' => ih (i + 1) n n' x' (by omega) (by omega) (by omega) hx'
      have k1 := keep x hx
      have k2 := keep (nI i) (Or.inr ⟨i, hi, rfl⟩)
      rw [f_X9_firstNought_4, f_X10_firstNought_4]
      obtain ⟨v1, v2, v3, ⟨ti, hti, eti⟩, ⟨k, hk, ek⟩, ⟨tm, ht1, ht2, etm⟩⟩ := hQ i hi
      have v1' := v1.trans eti
      have v2' := v2.trans ek
      have e19 : F 47 19 = nI s := hS.2.2.2.2.2.2.2.2.1.trans es
      obtain ⟨p, hp, ep⟩ := ms_bd (a := a) ti hL hP hS hk
      have hpay := X_pay (I := I) hL hC ea ha (show ti < 2 ^ 30 by omega) (PL_h hP) hk ek hi
      rw [etm, ep, pk_mul] at hpay
      have hmul : tm * p < 2 ^ 31 := by
        have : tm * p ≤ 50 * 149 := Nat.mul_le_mul ht2 hp
        omega
      have hz : (tm * p = 0) = (p = 0) := propext ⟨fun z => by rcases Nat.mul_eq_zero.mp z with z | z <;> omega, fun z => by rw [z]; rfl⟩
      have hM := M_meas (I := I) hL ea ha (show ti < 2 ^ 30 by omega) hP hS hk
      rw [ep] at hM
      simp (disch := omega) only [e10, e23, nle, if_neg (show ¬ C ≤ i by omega), vin_t, cond_true, nI_clamp, eti, v1', v2', e19, nlt, hM, bd_s, f_X9_firstNought_j43_4, f_X9_firstNought_j48_4, f_X10_firstNought_j51_4, f_X10_firstNought_j52_4, f_X8_seasons, es, hpay, n0eq, hz, nI_1, if_true]
      rw [if_neg (show ¬ (1 : Int32) = 0 by decide), if_neg (show ¬ (1 : Int32) = 0 by decide)]
      by_cases q1 : ti < s
      · simp only [if_pos q1]
        rcases hx with hx | ⟨j, hj, rfl⟩
        · rw [if_pos hx]; exact k1
        · obtain ⟨w1, -, -, ⟨tj, htj, etj⟩, -⟩ := hQ j hj
          simp (disch := omega) only [nm1, if_false, vin_t, cond_true, nI_clamp, etj, nle]
          split <;> exact k1
      · simp only [if_neg q1]
        by_cases q2 : p = 0
        · simp only [q2, not_true_eq_false, if_false]
          rcases hx with hx | ⟨j, hj, rfl⟩
          · rw [if_pos hx, if_pos (by rw [hx]; decide)]; exact k2
          · obtain ⟨w1, -, -, ⟨tj, htj, etj⟩, -⟩ := hQ j hj
            have w1' := w1.trans etj
            simp (disch := omega) only [nm1, if_false, vin_t, cond_true, nI_clamp, etj, w1', nle, n0lt]
            by_cases q3 : tj ≤ ti
            · simp only [if_pos q3]; exact k1
            · simp only [if_neg q3]; exact k2
        · simp only [if_pos q2]
          rcases hx with hx | ⟨j, hj, rfl⟩
          · rw [if_pos hx]; exact k1
          · obtain ⟨w1, -, -, ⟨tj, htj, etj⟩, -⟩ := hQ j hj
            simp (disch := omega) only [nm1, if_false, vin_t, cond_true, nI_clamp, etj, nle]
            split <;> exact k1
theorem sim_firstNought : ab_Sim Inv f_X9_firstNought f_X10_firstNought := by
  intro I F h
  have h0 := h
  obtain ⟨t, L, C, R, u, o, q, g, bb, hT, ⟨hL, hC, hR, e9, e10, e11, e22, e23, e24⟩, hPL, hQ, hV, hS, hD, hU, hM, hN⟩ := h
  obtain ⟨al, s, ha1, ea, ea2, hs1, es, -⟩ := SR_a hS
  obtain ⟨r, r1, r2⟩ := fn_l hL hC ea ha1 es hs1 hPL hQ hS e10 e23 C 0 ab_fu ab_fu (-1) (by omega) (by unfold ab_fu; omega) (by unfold ab_fu; omega) (Or.inl rfl)
  exact ⟨r, I, F, I, F, r1, r2, h0⟩
/-- which limbs have a copy -/
def cpd (F : AF) : Nat → Int32
  | 0 => 0
  | k + 1 => if F 22 (6 + k) = -1 then cpd F k else cpd F k ||| ((1 : Int32) <<< (nI k &&& 31))
theorem X_cpd {I : AI} {F : AF} : ∀ (m i n : Nat), i + m = 6 → m < n → f_X8_copied_4 (fun r _ I F => some (r, I, F)) n (cpd F i) (nI i) I F = some (cpd F 6, I, F) := by
  intro m
  induction m with
  | zero =>
    intro i n h1 h2
    match n, h2 with
    | n + 1, _ =>
      have : i = 6 := by omega
      subst this
      rw [f_X8_copied_4]
      rfl
  | succ m ih =>
    intro i n h1 h2
    match n, h2 with
    | n + 1, h2 =>
      have := ih (i + 1) n (by omega) (by omega)
      rw [f_X8_copied_4, nI_add]
      rw [cpd] at this
      simp (disch := omega) only [nle, if_neg (show ¬ 6 ≤ i by omega), vin_t, cond_true, nI_clamp, lt_e, nI_1]
      by_cases q : F 22 (6 + i) = -1
      · rw [if_pos q]; rw [if_pos q] at this; exact this
      · rw [if_neg q]; rw [if_neg q] at this; exact this
theorem cpd_L {L : Nat} {F : AF} (h : ∀ k, L ≤ k → k < 6 → F 22 (6 + k) = -1) : ∀ m, L + m ≤ 6 → cpd F (L + m) = cpd F L
  | 0, _ => rfl
  | m + 1, hm => by
    rw [← Nat.add_assoc, cpd, if_pos (h (L + m) (by omega) (by omega)), cpd_L h m (by omega)]
theorem M_cpd {L C : Nat} {I : AI} {F : AF} (hL : L ≤ 6) (hS : SR L C (F 15) (F 22) (F 47)) (e22 : I 22 = nI L) : ∀ (m i n : Nat), i + m = L → m < n → f_X10_copied_4 (fun r _ I F => some (r, I, F)) n (cpd F i) (nI i) I F = some (cpd F L, I, F) := by
  intro m
  induction m with
  | zero =>
    intro i n h1 h2
    match n, h2 with
    | n + 1, _ =>
      have : i = L := by omega
      subst this
      rw [f_X10_copied_4, e22, if_pos (Int32.le_refl _)]
  | succ m ih =>
    intro i n h1 h2
    match n, h2 with
    | n + 1, h2 =>
      have := ih (i + 1) n (by omega) (by omega)
      obtain ⟨v1, v2⟩ := hS.2.1 i (by omega)
      rw [f_X10_copied_4, nI_add]
      rw [cpd] at this
      simp (disch := omega) only [e22, nle, if_neg (show ¬ L ≤ i by omega), vin_t, cond_true, nI_clamp, lt_e, nI_1, v1]
      by_cases q : F 22 (6 + i) = -1
      · rw [if_pos (by rw [q]; decide), Int32.or_zero]; rw [if_pos q] at this; exact this
      · rw [if_neg q] at this
        rcases v2 with v2 | ⟨w, hw, v2⟩
        · exact absurd v2 q
        · rw [if_neg (by rw [v2]; exact nI_pos (by omega))]
          exact this
theorem X_pt {I : AI} {F : AF} : ∀ (m i n : Nat), i + m = 6 → m < n → f_X8_paidTogether_4 (fun r _ I F => some (r, I, F)) n (pt (F 22) i) (nI i) I F = some (pt (F 22) 6, I, F) := by
  intro m
  induction m with
  | zero =>
    intro i n h1 h2
    match n, h2 with
    | n + 1, _ =>
      have : i = 6 := by omega
      subst this
      rw [f_X8_paidTogether_4]
      rfl
  | succ m ih =>
    intro i n h1 h2
    match n, h2 with
    | n + 1, h2 =>
      have := ih (i + 1) n (by omega) (by omega)
      rw [f_X8_paidTogether_4, nI_add]
      rw [pt] at this
      simp (disch := omega) only [nle, if_neg (show ¬ 6 ≤ i by omega), vin_t, cond_true, nI_clamp, lt_e, nI_1]
      exact this
theorem X_nt {I : AI} {F : AF} : ∀ (m i n : Nat), i + m = 6 → m < n → f_X8_noughts_4 (fun r _ I F => some (r, I, F)) n (nt (F 22) i) (nI i) I F = some (nt (F 22) 6, I, F) := by
  intro m
  induction m with
  | zero =>
    intro i n h1 h2
    match n, h2 with
    | n + 1, _ =>
      have : i = 6 := by omega
      subst this
      rw [f_X8_noughts_4]
      rfl
  | succ m ih =>
    intro i n h1 h2
    match n, h2 with
    | n + 1, h2 =>
      have := ih (i + 1) n (by omega) (by omega)
      rw [f_X8_noughts_4, nI_add]
      rw [nt] at this
      simp (disch := omega) only [nle, if_neg (show ¬ 6 ≤ i by omega), vin_t, cond_true, nI_clamp, lt_e, nI_1]
      by_cases q : F 22 (12 + i) = 0
      · rw [if_neg (not_not_intro q)]; rw [if_neg (not_not_intro q)] at this; exact this
      · rw [if_pos q]; rw [if_pos q] at this; exact this
theorem X_copied {I : AI} {F : AF} : f_X8_copied I F = some (cpd F 6, I, F) := X_cpd 6 0 ab_fu rfl (by decide)
theorem sim_told (a : Int32) : ab_Sim Inv (f_X9_told a) (f_X10_told a) := by
  intro I F h
  have h0 := h
  obtain ⟨t, L, C, R, u, o, q, g, bb, hT, ⟨hL, hC, hR, e9, e10, e11, e22, e23, e24⟩, hPL, hQ, hV, hS, hD, hU, hM, hN⟩ := h
  have e1 : ∃ r, f_X9_told a I F = some (r, I, F) ∧ f_X10_told a I F = some (r, I, F) := by
    unfold f_X9_told f_X10_told
    have c1 : f_X10_copied I F = some (cpd F 6, I, F) := by
      have := M_cpd hL hS e22 L 0 ab_fu (by omega) (by unfold ab_fu; omega)
      rw [← cpd_L hS.2.2.1 (6 - L) (by omega), show L + (6 - L) = 6 by omega] at this
      exact this
    have c2 : f_X8_paidTogether I F = some (pt (F 22) 6, I, F) := X_pt 6 0 ab_fu rfl (by decide)
    have c3 : f_X8_noughts I F = some (nt (F 22) 6, I, F) := X_nt 6 0 ab_fu rfl (by decide)
    rw [X_copied, c1, c2, c3, e9, e10, e11, hT.2.1, e22, e23, e24, hT.2.2.1, hN.2.2.1, hN.2.2.2.1, hN.2.2.2.2.1, hN.2.2.2.2.2.1, hU.2.2.2.1, hU.2.2.2.2.1, hS.2.2.2.2.2.2.2.2.1, hS.2.2.2.2.2.2.1, hS.2.2.2.2.2.2.2.2.2.1, hS.2.2.2.2.2.2.2.2.2.2]
    simp only [bd_s, f_X8_seasons, f_X8_living]
    by_cases z0 : a = 0
    · rw [if_pos z0]
      exact ⟨_, rfl, rfl⟩
    rw [if_neg z0]
    by_cases z1 : a = 1
    · rw [if_pos z1]
      exact ⟨_, rfl, rfl⟩
    rw [if_neg z1]
    by_cases z2 : a = nI 2
    · rw [if_pos z2]
      exact ⟨_, rfl, rfl⟩
    rw [if_neg z2]
    by_cases z3 : a = nI 3
    · rw [if_pos z3]
      exact ⟨_, rfl, rfl⟩
    rw [if_neg z3]
    by_cases z4 : a = nI 4
    · rw [if_pos z4]
      exact ⟨_, rfl, rfl⟩
    rw [if_neg z4]
    by_cases z5 : a = nI 5
    · rw [if_pos z5]
      exact ⟨_, rfl, rfl⟩
    rw [if_neg z5]
    by_cases z6 : a = nI 6
    · rw [if_pos z6]
      exact ⟨_, rfl, rfl⟩
    rw [if_neg z6]
    by_cases z7 : a = nI 7
    · rw [if_pos z7]
      exact ⟨_, rfl, rfl⟩
    rw [if_neg z7]
    by_cases z8 : a = nI 8
    · rw [if_pos z8]
      exact ⟨_, rfl, rfl⟩
    rw [if_neg z8]
    by_cases z9 : a = nI 9
    · rw [if_pos z9]
      exact ⟨_, rfl, rfl⟩
    rw [if_neg z9]
    by_cases z10 : a = nI 10
    · rw [if_pos z10]
      exact ⟨_, rfl, rfl⟩
    rw [if_neg z10]
    by_cases z11 : a = nI 11
    · rw [if_pos z11]
      exact ⟨_, rfl, rfl⟩
    rw [if_neg z11]
    exact ⟨_, rfl, rfl⟩
  obtain ⟨r, e1, e2⟩ := e1
  exact ⟨r, I, F, I, F, e1, e2, h0⟩
