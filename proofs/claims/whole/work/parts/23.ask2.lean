/-! judge, nearest, reach, odds, firstNought; got, write, tear -/
theorem judge_l {L C a s b : Nat} {I : AI} {F : AF} (hL : L ≤ 6) (hb : b ≤ 15) (ea : F 22 18 = nI a) (ha : a < 2 ^ L) (es : F 22 19 = nI s) (hs : s ≤ 9040) (hP : PL L (F 13) (F 14) (F 38) (F 39)) (hS : SR L C (F 15) (F 22) (F 47)) (e16 : I 16 = nI b) (e38 : I 38 = nI b) (hN : ∀ j, j < b → F 62 j = F 27 j ∧ F 63 j = F 28 j ∧ ∃ k, k < L ∧ F 27 j = nI k) :
    ∀ (m i n n' : Nat), i + m = b → m < n → m < n' → ∃ r, f_X3_firstWrong_2 (fun _ I F => some (-1, I, F)) n (nI i) I F = some (r, I, F) ∧ f_X10_judge_2 (fun _ I F => some (-1, I, F)) n' (nI i) I F = some (r, I, F) := by
  intro m
  induction m with
  | zero =>
    intro i n n' h1 h2 h3
    match n, n', h2, h3 with
    | n + 1, n' + 1, _, _ =>
      rw [f_X3_firstWrong_2, f_X10_judge_2]
      simp (disch := omega) only [e16, e38, nle, if_pos (show b ≤ i by omega)]
      exact ⟨_, rfl, rfl⟩
  | succ m ih =>
    intro i n n' h1 h2 h3
    match n, n', h2, h3 with
    | n + 1, n' + 1, h2, h3 =>
      rw [f_X3_firstWrong_2, f_X10_judge_2]
      obtain ⟨v1, v2, k, hk, ek⟩ := hN i (by omega)
      have v1' := v1.trans ek
      simp (disch := omega) only [e16, e38, nle, if_neg (show ¬ b ≤ i by omega), vin_t, cond_true, nI_clamp, ek, v1', X_now hL ea ha es hs (PL_h hP) hk, M_now hL ea ha es hs hP hS hk, bd_s, v2]
      by_cases q : ms F a k s = F 28 i
      · rw [if_pos q, if_pos q, nI_1]
        exact ih (i + 1) n n' (by omega) (by omega) (by omega)
      · rw [if_neg q, if_neg q]
        exact ⟨_, rfl, rfl⟩
theorem sim_judge : ab_Sim Inv f_X9_judge f_X10_judge := by
  intro I F h
  have h0 := h
  obtain ⟨t, L, C, R, u, o, q, g, bb, hT, ⟨hL, hC, hR, e9, e10, e11, e22, e23, e24⟩, hPL, hQ, hV, hS, hD, hU, hM, ⟨hg, hb, e15, e16, e37, e38, hN1, hN2⟩⟩ := h
  obtain ⟨al, s, ha1, ea, ea2, hs1, es, -⟩ := SR_a hS
  obtain ⟨r, r1, r2⟩ := judge_l hL hb ea ha1 es hs1 hPL hS e16 e38 hN2 bb 0 ab_fu ab_fu (by omega) (by unfold ab_fu; omega) (by unfold ab_fu; omega)
  refine ⟨r, I, F, I, F, ?_, ?_, h0⟩
  · unfold f_X9_judge f_X3_firstWrong
    rw [show (0 : Int32) = nI 0 from rfl, r1]
    rfl
  · unfold f_X10_judge
    exact r2
/-- apart, as numbers -/
def dn (a b : Nat) : Nat := if a ≤ b then b - a else a - b
theorem X_abs {a b : Nat} (ha : a < 2 ^ 30) (hb : b < 2 ^ 30) : (if 0 ≤ nI a - nI b then nI a - nI b else 0 - (nI a - nI b)) = nI (dn a b) := by
  have e := pk_sub_toInt ha hb
  unfold dn
  by_cases h : b ≤ a
  · rw [if_pos]
    · rw [pk_sub h]
      by_cases h2 : a ≤ b
      · rw [if_pos h2, show a - b = b - a by omega]
      · rw [if_neg h2]
    · rw [Int32.le_iff_toInt_le, e]
      have : (0 : Int32).toInt = 0 := rfl
      omega
  · rw [if_neg, if_pos (by omega), ← pk_sub (show a ≤ b by omega)]
    · rw [Int32.zero_sub, Int32.neg_sub]
    · rw [Int32.le_iff_toInt_le, e]
      have : (0 : Int32).toInt = 0 := rfl
      omega
theorem M_abs {a b : Nat} {I : AI} {F : AF} (ha : a < 2 ^ 30) (hb : b < 2 ^ 30) : f_X10_apart (nI a) (nI b) I F = some (nI (dn a b), I, F) := by
  unfold f_X10_apart dn
  simp (disch := omega) only [nle]
  by_cases h : a ≤ b
  · rw [if_pos h, if_pos h, pk_sub h]
  · rw [if_neg h, if_neg h, pk_sub (show b ≤ a by omega)]
theorem near_l {L C a s v : Nat} {I : AI} {F : AF} (hL : L ≤ 6) (hv : v ≤ 999) (ea : F 22 18 = nI a) (ha : a < 2 ^ L) (es : F 22 19 = nI s) (hs : s ≤ 9040) (hP : PL L (F 13) (F 14) (F 38) (F 39)) (hS : SR L C (F 15) (F 22) (F 47)) (e9 : I 9 = nI L) (e22 : I 22 = nI L) :
    ∀ (m i n n' : Nat) (x y : Int32), i + m = L → m < n → m < n' → (x = -1 ∨ ∃ j p, j < L ∧ x = nI j ∧ p ≤ 149 ∧ ms F a j s = nI p ∧ y = nI (dn p v)) → ∃ r, f_X9_nearest_21 (nI v) (fun r _ _ I F => some (r, I, F)) n x y (nI i) I F = some (r, I, F) ∧ f_X10_nearest_19 (nI v) (fun r _ I F => some (r, I, F)) n' x (nI i) I F = some (r, I, F) := by
  intro m
  induction m with
  | zero =>
    intro i n n' x y h1 h2 h3 hx
    match n, n', h2, h3 with
    | n + 1, n' + 1, _, _ =>
      rw [f_X9_nearest_21, f_X10_nearest_19]
      simp (disch := omega) only [e9, e22, nle, if_pos (show L ≤ i by omega)]
      exact ⟨_, rfl, rfl⟩
  | succ m ih =>
    intro i n n' x y h1 h2 h3 hx
    match n, n', h2, h3 with
    | n + 1, n' + 1, h2, h3 =>
      rw [f_X9_nearest_21, f_X10_nearest_19]
      have hi : i < L := by omega
      obtain ⟨p, hp, ep⟩ := ms_bd (a := a) s hL hP hS hi
      simp (disch := omega) only [e9, e22, nle, if_neg (show ¬ L ≤ i by omega), X_now hL ea ha es hs (PL_h hP) hi, M_now hL ea ha es hs hP hS hi, bd_s, ep, lt_e, X_abs (show p < 2 ^ 30 by omega) (show v < 2 ^ 30 by omega), M_abs (show p < 2 ^ 30 by omega) (show v < 2 ^ 30 by omega), nI_1]
      rcases hx with rfl | ⟨j, p2, hj, rfl, hp2, ep2, rfl⟩
      · rw [if_pos rfl, if_pos (by decide)]
        exact ih (i + 1) n n' _ _ (by omega) (by omega) (by omega) (Or.inr ⟨i, p, hi, rfl, hp, ep, rfl⟩)
      · have b1 : dn p v < 2 ^ 31 := by unfold dn; split <;> omega
        have b2 : dn p2 v < 2 ^ 31 := by unfold dn; split <;> omega
        simp (disch := omega) only [nm1, if_false, n0lt, M_now hL ea ha es hs hP hS hj, bd_s, ep2, M_abs (show p2 < 2 ^ 30 by omega) (show v < 2 ^ 30 by omega), nle b2 b1]
        by_cases q : dn p2 v ≤ dn p v
        · rw [if_pos q, if_pos q]
          exact ih (i + 1) n n' _ _ (by omega) (by omega) (by omega) (Or.inr ⟨j, p2, hj, rfl, hp2, ep2, rfl⟩)
        · rw [if_neg q, if_neg q]
          exact ih (i + 1) n n' _ _ (by omega) (by omega) (by omega) (Or.inr ⟨i, p, hi, rfl, hp, ep, rfl⟩)
/-- out of 0 .. n: both refuse -/
theorem out_n {x : Int32} {n : Nat} (hn : n < 2 ^ 31) (hx : x < 0 ∨ ∃ k, n ≤ k ∧ k < 2 ^ 31 ∧ x = nI k) {m : Nat} (hm : m < n) : ¬ ((0 : Int32) ≤ x ∧ x ≤ nI m) := by
  rcases hx with h | ⟨k, h1, h2, rfl⟩
  · exact fun q => Int32.not_le.mpr h q.1
  · intro q
    have := (nI_leI h2 (by omega)).mp q.2
    omega
theorem sim_nearest (a : Int32) : ab_Sim Inv (f_X9_nearest a) (f_X10_nearest a) := by
  intro I F h
  have h0 := h
  obtain ⟨t, L, C, R, u, o, q, g, bb, hT, ⟨hL, hC, hR, e9, e10, e11, e22, e23, e24⟩, hPL, hQ, hV, hS, hD, hU, hM, hN⟩ := h
  obtain ⟨al, s, ha1, ea, ea2, hs1, es, -⟩ := SR_a hS
  rcases i_cs a (n := 1000) (by omega) with ⟨v, hv, rfl⟩ | ha
  · obtain ⟨r, r1, r2⟩ := near_l (v := v) hL (by omega) ea ha1 es hs1 hPL hS e9 e22 L 0 ab_fu ab_fu (-1) 0 (by omega) (by unfold ab_fu; omega) (by unfold ab_fu; omega) (Or.inl rfl)
    refine ⟨r, I, F, I, F, ?_, ?_, h0⟩
    · unfold f_X9_nearest
      simp (disch := omega) only [n0lt, nle, if_pos (show v ≤ 999 by omega), if_false]
      exact r1
    · unfold f_X10_nearest
      rw [in_c (w2 := 0) (w4 := 999) (b := 0) (c := nI 999) rfl rfl]
      simp (disch := omega) only [n0le, nle, true_and, if_pos (show v ≤ 999 by omega), bd_s]
      rw [if_pos (show ¬ (1 : Int32) = 0 by decide)]
      exact r2
  · have hout := out_n (by omega) ha (m := 999) (by omega)
    refine ⟨-1000000002, I, F, I, F, ?_, ?_, h0⟩
    · unfold f_X9_nearest
      by_cases q1 : a < 0
      · rw [if_pos q1]
      · rw [if_neg q1, if_neg (fun z => hout ⟨Int32.not_lt.mp q1, z⟩)]
    · unfold f_X10_nearest
      rw [in_c (w2 := 0) (w4 := 999) (b := 0) (c := nI 999) rfl rfl, if_neg hout]
      rfl
theorem odds_l {I : AI} {F : AF} {q : Nat} {w4 : Int64} {v4 : Int32} (hq : q ≤ 60) (hw : w4 = (nI 100 - v4).toInt64) : ∀ (m i n n' : Nat) (w : Int64), i + m = q → m < n → m < n' → ∃ r, f_X9_odds_61 (nI q) w4 (fun w _ I F => some (w.toInt32, I, F)) n w (nI i) I F = some (r, I, F) ∧ f_X10_odds_68 (nI q) v4 (fun w _ I F => some (w.toInt32, I, F)) n' w (nI i) I F = some (r, I, F) := by
  intro m
  induction m with
  | zero =>
    intro i n n' w h1 h2 h3
    match n, n', h2, h3 with
    | n + 1, n' + 1, _, _ =>
      rw [f_X9_odds_61, f_X10_odds_68]
      simp (disch := omega) only [nle, if_pos (show q ≤ i by omega)]
      exact ⟨_, rfl, rfl⟩
  | succ m ih =>
    intro i n n' w h1 h2 h3
    match n, n', h2, h3 with
    | n + 1, n' + 1, h2, h3 =>
      rw [f_X9_odds_61, f_X10_odds_68]
      simp (disch := omega) only [nle, if_neg (show ¬ q ≤ i by omega), nI_1]
      rw [← hw]
      exact ih (i + 1) n n' _ (by omega) (by omega) (by omega)
theorem sim_odds (a b c : Int32) : ab_Sim Inv (f_X9_odds a b c) (f_X10_odds a b c) := by
  intro I F h
  have h0 := h
  obtain ⟨t, L, C, R, u, o, q, g, bb, hT, ⟨hL, hC, hR, e9, e10, e11, e22, e23, e24⟩, hR⟩ := h
  rcases i_cs a (n := L) (by omega) with ⟨k, hk, rfl⟩ | ha
  · rcases i_cs b (n := 61) (by omega) with ⟨j, hj, rfl⟩ | hb
    · rcases i_cs c (n := 101) (by omega) with ⟨p, hp, rfl⟩ | hc
      · have hw : ∀ (w4 : Int64) (v4 : Int32), w4 = (nI 100 - v4).toInt64 → ∃ r, f_X9_odds_61 (nI j) w4 (fun w _ I F => some (w.toInt32, I, F)) ab_fu 1000000000 (nI 0) I F = some (r, I, F) ∧ f_X10_odds_68 (nI j) v4 (fun w _ I F => some (w.toInt32, I, F)) ab_fu 1000000000 (nI 0) I F = some (r, I, F) := fun w4 v4 e => odds_l (by omega) e j 0 ab_fu ab_fu _ (by omega) (by unfold ab_fu; omega) (by unfold ab_fu; omega)
        have e1 : ∃ r, f_X9_odds (nI k) (nI j) (nI p) I F = some (r, I, F) ∧ f_X10_odds (nI k) (nI j) (nI p) I F = some (r, I, F) := by
          unfold f_X9_odds f_X10_odds
          rw [hasL_in hL e9 hk, isL_in hL e22 hk, pk_mul, nI_add]
          simp only [bd_s]
          rw [in_c (w2 := 0) (w4 := 60) (b := 0) (c := nI 60) rfl rfl]
          simp only [bd_s]
          rw [in_c (w2 := 0) (w4 := 100) (b := 0) (c := nI 100) rfl rfl]
          simp (disch := omega) only [n0le, nle, nlt, n0lt, true_and, if_pos (show j ≤ 60 by omega), if_pos (show p ≤ 100 by omega), if_neg (show ¬ 60 < j by omega), if_false, bd_s]
          rw [if_pos (show ¬ (1 : Int32) = 0 by decide), if_pos (show ¬ (1 : Int32) = 0 by decide), if_neg (show ¬ (1 : Int32) = 0 by decide), if_pos (show ¬ (1 : Int32) = 0 by decide)]
          by_cases z : p + 2 * k < 100
          · rw [if_pos z, if_neg (show ¬ 100 ≤ p + 2 * k by omega)]
            exact hw _ _ rfl
          · rw [if_neg z, if_pos (show 100 ≤ p + 2 * k by omega)]
            exact hw _ _ rfl
        obtain ⟨r, e1, e2⟩ := e1
        exact ⟨r, I, F, I, F, e1, e2, h0⟩
      · have hout := out_n (by omega) hc (m := 100) (by omega)
        refine ⟨-1000000002, I, F, I, F, ?_, ?_, h0⟩
        · unfold f_X9_odds
          rw [hasL_in hL e9 hk]
          simp (disch := omega) only [bd_s, nlt, n0lt, if_neg (show ¬ 60 < j by omega), if_false]
          rw [if_pos (show ¬ (1 : Int32) = 0 by decide)]
          by_cases q1 : c < 0
          · rw [if_pos q1]
          · rw [if_neg q1, if_neg (fun z => hout ⟨Int32.not_lt.mp q1, z⟩)]
        · unfold f_X10_odds
          rw [isL_in hL e22 hk]
          simp only [bd_s]
          rw [in_c (w2 := 0) (w4 := 60) (b := 0) (c := nI 60) rfl rfl]
          simp only [bd_s]
          rw [in_c (w2 := 0) (w4 := 100) (b := 0) (c := nI 100) rfl rfl]
          simp (disch := omega) only [n0le, nle, true_and, if_pos (show j ≤ 60 by omega), bd_s, if_neg hout]
          rfl
    · have hout := out_n (by omega) hb (m := 60) (by omega)
      refine ⟨-1000000002, I, F, I, F, ?_, ?_, h0⟩
      · unfold f_X9_odds
        rw [hasL_in hL e9 hk]
        simp only [bd_s]
        rw [if_pos (show ¬ (1 : Int32) = 0 by decide)]
        by_cases q1 : b < 0
        · rw [if_pos q1]
        · rw [if_neg q1, if_pos (Int32.not_le.mp fun z => hout ⟨Int32.not_lt.mp q1, z⟩)]
      · unfold f_X10_odds
        rw [isL_in hL e22 hk]
        simp only [bd_s]
        rw [in_c (w2 := 0) (w4 := 60) (b := 0) (c := nI 60) rfl rfl, if_neg hout]
        rfl
  · refine ⟨-1000000001, I, F, I, F, ?_, ?_, h0⟩
    · unfold f_X9_odds
      rw [hasL_out hL e9 ha]
      rfl
    · unfold f_X10_odds
      rw [isL_out hL e22 ha]
      rfl
theorem sim_tear : ab_Sim Inv f_X9_tear f_X10_tear := by
  intro I F h
  obtain ⟨t, L, C, R, u, o, q, g, bb, hT, hP, hPL, hQ, hV, hS, hD, hU, hM, ⟨hg, hb, e15, e16, e37, e38, hN1, hN2⟩⟩ := h
  refine ⟨I 15 + I 16, va_up (va_up I 15 0) 16 0, F, va_up (va_up (va_up (va_up I 15 0) 16 0) 37 0) 38 0, F, rfl, ?_, t, L, C, R, u, o, q, 0, 0, hT, hP, hPL, hQ, hV, hS, hD, hU, hM, ?_⟩
  · unfold f_X10_tear
    show some (I 37 + I 38, _, _) = _
    rw [e37, e38, e15, e16]
  · exact ⟨by omega, by omega, rfl, rfl, rfl, rfl, fun j hj => absurd hj (by omega), fun j hj => absurd hj (by omega)⟩
theorem sim_got (a b : Int32) : ab_Sim Inv (f_X9_got a b) (f_X10_got a b) := by
  intro I F h
  have h0 := h
  obtain ⟨t, L, C, R, u, o, q, g, bb, hT, hP, hPL, hQ, hV, hS, hD, hU, hM, ⟨hg, hb, e15, e16, e37, e38, hN1, hN2⟩⟩ := h
  by_cases ha : (1 : Int32) ≤ a ∧ a ≤ nI 50
  · by_cases hbb : (0 : Int32) ≤ b ∧ b ≤ nI 9999
    · by_cases hf : g < 8
      · have e1 : f_X9_got a b I F = some (nI (g + 1), va_up I 15 (nI (g + 1)), va_up (va_up F 25 (upd (F 25) g a)) 26 (upd (F 26) g b)) := by
          unfold f_X9_got
          rw [if_neg (Int32.not_lt.mpr ha.1), if_neg (Int32.not_lt.mpr ha.2), if_neg (Int32.not_lt.mpr hbb.1), if_pos hbb.2]
          unfold f_X3_addGot
          simp (disch := omega) only [e15, nlt, nle, if_pos hf, if_neg (Nat.not_le.mpr hf), vin_t, cond_true, nI_clamp, nI_1, lt_e, bd_s, up_s]
        have e2 : f_X10_got a b (va_up I 15 (nI (g + 1))) (va_up (va_up F 25 (upd (F 25) g a)) 26 (upd (F 26) g b)) = some (nI (g + 1), va_up (va_up I 15 (nI (g + 1))) 37 (nI (g + 1)), va_up (va_up (va_up (va_up F 25 (upd (F 25) g a)) 26 (upd (F 26) g b)) 60 (upd (F 60) g a)) 61 (upd (F 61) g b)) := by
          unfold f_X10_got
          rw [in_c (w2 := 1) (w4 := 50) (b := 1) (c := nI 50) rfl rfl]
          simp only [bd_s]
          rw [in_c (w2 := 0) (w4 := 9999) (b := 0) (c := nI 9999) rfl rfl, if_pos ha]
          simp only [bd_s, if_pos hbb]
          rw [if_neg (show ¬ (1 : Int32) = 0 by decide)]
          have e : va_up I 15 (nI (g + 1)) 37 = nI g := e37
          have hne : ¬ g = 8 := by omega
          rw [if_pos (show ¬ (1 : Int32) = 0 by decide)]
          simp (disch := omega) only [e, neq, if_pos hne, vin_t, cond_true, nI_clamp, nI_1, lt_e, up_s]
          rfl
        refine ⟨_, _, _, _, _, e1, e2, t, L, C, R, u, o, q, g + 1, bb, hT, hP, hPL, hQ, hV, hS, hD, hU, hM, ⟨by omega, hb, rfl, e16, rfl, e38, ?_, hN2⟩⟩
        intro j hj
        show upd (F 60) g a j = upd (F 25) g a j ∧ upd (F 61) g b j = upd (F 26) g b j
        by_cases hjt : j = g
        · subst hjt
          exact ⟨by rw [pk_us, pk_us], by rw [pk_us, pk_us]⟩
        · rw [pk_un hjt, pk_un hjt, pk_un hjt, pk_un hjt]
          exact hN1 j (by omega)
      · have et : g = 8 := by omega
        subst et
        refine ⟨-1000000004, I, F, I, F, ?_, ?_, h0⟩
        · unfold f_X9_got
          rw [if_neg (Int32.not_lt.mpr ha.1), if_neg (Int32.not_lt.mpr ha.2), if_neg (Int32.not_lt.mpr hbb.1), if_pos hbb.2, e15]
          rfl
        · unfold f_X10_got
          rw [in_c (w2 := 1) (w4 := 50) (b := 1) (c := nI 50) rfl rfl]
          simp only [bd_s]
          rw [in_c (w2 := 0) (w4 := 9999) (b := 0) (c := nI 9999) rfl rfl, if_pos ha]
          simp only [bd_s, if_pos hbb, e37]
          rfl
    · refine ⟨-1000000002, I, F, I, F, ?_, ?_, h0⟩
      · unfold f_X9_got
        rw [if_neg (Int32.not_lt.mpr ha.1), if_neg (Int32.not_lt.mpr ha.2)]
        by_cases q1 : b < 0
        · rw [if_pos q1]
        · rw [if_neg q1, if_neg (fun z => hbb ⟨Int32.not_lt.mp q1, z⟩)]
      · unfold f_X10_got
        rw [in_c (w2 := 1) (w4 := 50) (b := 1) (c := nI 50) rfl rfl]
        simp only [bd_s]
        rw [in_c (w2 := 0) (w4 := 9999) (b := 0) (c := nI 9999) rfl rfl, if_pos ha]
        simp only [bd_s, if_neg hbb]
        rfl
  · refine ⟨-1000000002, I, F, I, F, ?_, ?_, h0⟩
    · unfold f_X9_got
      by_cases q1 : a < 1
      · rw [if_pos q1]
      · rw [if_neg q1, if_pos (Int32.not_le.mp fun z => ha ⟨Int32.not_lt.mp q1, z⟩)]
    · unfold f_X10_got
      rw [in_c (w2 := 1) (w4 := 50) (b := 1) (c := nI 50) rfl rfl, if_neg ha]
      rfl
theorem sim_write (a b : Int32) : ab_Sim Inv (f_X9_write a b) (f_X10_write a b) := by
  intro I F h
  have h0 := h
  obtain ⟨t, L, C, R, u, o, q, g, bb, hT, ⟨hL, hC, hR, e9, e10, e11, e22, e23, e24⟩, hPL, hQ, hV, hS, hD, hU, hM, ⟨hg, hb, e15, e16, e37, e38, hN1, hN2⟩⟩ := h
  rcases i_cs a (n := L) (by omega) with ⟨k, hk, rfl⟩ | ha
  · by_cases hbb : (0 : Int32) ≤ b ∧ b ≤ nI 999
    · by_cases hf : bb < 15
      · have e1 : f_X9_write (nI k) b I F = some (nI (bb + 1), va_up I 16 (nI (bb + 1)), va_up (va_up F 27 (upd (F 27) bb (nI k))) 28 (upd (F 28) bb b)) := by
          unfold f_X9_write
          rw [hasL_in hL e9 hk]
          simp only [bd_s]
          rw [if_pos (show ¬ (1 : Int32) = 0 by decide), if_neg (Int32.not_lt.mpr hbb.1), if_pos hbb.2]
          unfold f_X3_addEntry
          simp (disch := omega) only [e16, nlt, nle, if_pos hf, if_neg (Nat.not_le.mpr hf), vin_t, cond_true, nI_clamp, nI_1, lt_e, bd_s, up_s]
        have e2 : f_X10_write (nI k) b (va_up I 16 (nI (bb + 1))) (va_up (va_up F 27 (upd (F 27) bb (nI k))) 28 (upd (F 28) bb b)) = some (nI (bb + 1), va_up (va_up I 16 (nI (bb + 1))) 38 (nI (bb + 1)), va_up (va_up (va_up (va_up F 27 (upd (F 27) bb (nI k))) 28 (upd (F 28) bb b)) 62 (upd (F 62) bb (nI k))) 63 (upd (F 63) bb b)) := by
          unfold f_X10_write
          rw [isL_in hL (show va_up I 16 (nI (bb + 1)) 22 = nI L from e22) hk]
          simp only [bd_s]
          rw [in_c (w2 := 0) (w4 := 999) (b := 0) (c := nI 999) rfl rfl, if_pos hbb]
          simp only [bd_s]
          have e : va_up I 16 (nI (bb + 1)) 38 = nI bb := e38
          have hne : ¬ bb = 15 := by omega
          rw [if_pos (show ¬ (1 : Int32) = 0 by decide), if_pos (show ¬ (1 : Int32) = 0 by decide)]
          simp (disch := omega) only [e, neq, if_pos hne, vin_t, cond_true, nI_clamp, nI_1, lt_e, up_s]
          rfl
        refine ⟨_, _, _, _, _, e1, e2, t, L, C, R, u, o, q, g, bb + 1, hT, ⟨hL, hC, hR, e9, e10, e11, e22, e23, e24⟩, hPL, hQ, hV, hS, hD, hU, hM, ⟨hg, by omega, e15, rfl, e37, rfl, hN1, ?_⟩⟩
        intro j hj
        show upd (F 62) bb (nI k) j = upd (F 27) bb (nI k) j ∧ upd (F 63) bb b j = upd (F 28) bb b j ∧ ∃ k', k' < L ∧ upd (F 27) bb (nI k) j = nI k'
        by_cases hjt : j = bb
        · subst hjt
          exact ⟨by rw [pk_us, pk_us], by rw [pk_us, pk_us], k, hk, by rw [pk_us]⟩
        · rw [pk_un hjt, pk_un hjt, pk_un hjt, pk_un hjt]
          exact hN2 j (by omega)
      · have et : bb = 15 := by omega
        subst et
        refine ⟨-1000000004, I, F, I, F, ?_, ?_, h0⟩
        · unfold f_X9_write
          rw [hasL_in hL e9 hk]
          simp only [bd_s]
          rw [if_pos (show ¬ (1 : Int32) = 0 by decide), if_neg (Int32.not_lt.mpr hbb.1), if_pos hbb.2, e16]
          rfl
        · unfold f_X10_write
          rw [isL_in hL e22 hk]
          simp only [bd_s]
          rw [in_c (w2 := 0) (w4 := 999) (b := 0) (c := nI 999) rfl rfl, if_pos hbb]
          simp only [bd_s, e38]
          rfl
    · refine ⟨-1000000002, I, F, I, F, ?_, ?_, h0⟩
      · unfold f_X9_write
        rw [hasL_in hL e9 hk]
        simp only [bd_s]
        rw [if_pos (show ¬ (1 : Int32) = 0 by decide)]
        by_cases q1 : b < 0
        · rw [if_pos q1]
        · rw [if_neg q1, if_neg (fun z => hbb ⟨Int32.not_lt.mp q1, z⟩)]
      · unfold f_X10_write
        rw [isL_in hL e22 hk]
        simp only [bd_s]
        rw [in_c (w2 := 0) (w4 := 999) (b := 0) (c := nI 999) rfl rfl, if_neg hbb]
        rfl
  · refine ⟨-1000000001, I, F, I, F, ?_, ?_, h0⟩
    · unfold f_X9_write
      rw [hasL_out hL e9 ha]
      rfl
    · unfold f_X10_write
      rw [isL_out hL e22 ha]
      rfl
