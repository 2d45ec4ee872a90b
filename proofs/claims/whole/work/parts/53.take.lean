theorem begin_l {I : AI} {F : AF} : ∀ (m j n : Nat) (g : Nat → Int32), j + m = 18 → m < n → ∃ x g', (∀ ko, f_X8_begin_18 ko n (nI j) I (va_up F 22 g) = ko x I (va_up F 22 g')) ∧ (∀ i, j ≤ i → i < 18 → g' i = -1) ∧ ∀ i, (i < j ∨ 18 ≤ i) → g' i = g i := by
  intro m
  induction m with
  | zero =>
    intro j n g h1 h2
    match n, h2 with
    | n + 1, _ =>
      have : j = 18 := by omega
      subst this
      exact ⟨nI 18, g, fun ko => by rw [f_X8_begin_18, if_pos (by decide)], fun i q1 q2 => by omega, fun i _ => rfl⟩
  | succ m ih =>
    intro j n g h1 h2
    match n, h2 with
    | n + 1, h2 =>
      obtain ⟨x, g', r1, r2, r3⟩ := ih (j + 1) n (upd g j (-1)) (by omega) (by omega)
      refine ⟨x, g', ?_, ?_, ?_⟩
      · intro ko
        rw [f_X8_begin_18, if_neg (show ¬ nI 18 ≤ nI j by rw [nle (by decide) (by omega)]; omega), vin_t (show j < 21 by omega) (by decide), cond_true, lt_e, up_s, up_uu, nI_clamp (by omega), nI_1, r1]
      · intro i q1 q2
        by_cases z : i = j
        · subst z
          rw [r3 i (Or.inl (by omega)), pk_us]
        · exact r2 i (by omega) q2
      · intro i q
        rw [r3 i (by omega), pk_un (by omega)]
theorem sl_2 : ∀ k, k < 7 → ((1 : Int32) <<< (nI k &&& 31)) - 1 = nI (2 ^ k - 1) := by decide
theorem cp6 {f g : Nat → Int32} {n j : Nat} (h : j < n) : va_cpy f g 0 0 n j = f j := by
  rw [pk_cpy_in (Nat.zero_le j) (by omega), Nat.zero_add, Nat.sub_zero]
theorem X_take {nl : Nat} {I If : AI} {F Ff : AF} (hn : nl ≤ 6) (e6 : If 6 = nI nl) (e3 : If 3 = 0) (hr : f_X6_readText I F = some (0, If, Ff)) :
    ∃ I1 F1, f_X9_port I F = some (nI nl, I1, F1) ∧ (I1 0 = If 4 ∧ I1 5 = 0 ∧ I1 9 = nI nl ∧ I1 10 = If 7 ∧ I1 11 = If 8 ∧ I1 12 = 0 ∧ I1 13 = 0 ∧ I1 14 = 0 ∧ I1 15 = 0 ∧ I1 16 = 0) ∧ (∀ b, 17 ≤ b → I1 b = If b) ∧
      ((∀ i, i < 6 → F1 22 i = Ff 1 i) ∧ (∀ i, 6 ≤ i → i < 18 → F1 22 i = -1) ∧ F1 22 18 = nI (2 ^ nl - 1) ∧ F1 22 19 = 0 ∧ F1 22 20 = Ff 22 20) ∧
      ((∀ j, j < 24 → F1 13 j = Ff 2 j) ∧ (∀ j, j < 6 → F1 14 j = Ff 3 j) ∧ (∀ j, j < 6 → F1 15 j = Ff 4 j) ∧ (∀ j, j < 6 → F1 16 j = Ff 5 j) ∧ (∀ j, j < 6 → F1 17 j = Ff 6 j) ∧ (∀ j, j < 8 → F1 18 j = Ff 7 j) ∧ (∀ j, j < 8 → F1 19 j = Ff 8 j) ∧ (∀ j, j < 8 → F1 20 j = Ff 9 j) ∧ (∀ j, j < 8 → F1 21 j = Ff 10 j)) ∧
      ∀ b, 23 ≤ b → F1 b = Ff b := by
  unfold f_X9_port f_X2_empty
  rw [hr, bd_s, bd_s, lt_e, up_n (show ¬ 3 = 5 by decide), up_n (show ¬ 4 = 5 by decide), e3, if_pos rfl]
  unfold f_X5_takeOver
  simp only [lt_e, bd_s]
  unfold f_X8_begin
  rw [lt_e]
  generalize hFt : va_up (va_up (va_up (va_up (va_up (va_up (va_up (va_up (va_up (va_up Ff 12 (va_cpy (Ff 1) (Ff 12) 0 0 6)) 13 (va_cpy (Ff 2) (Ff 13) 0 0 24)) 14 _) 15 _) 16 _) 17 _) 18 _) 19 _) 20 _) 21 _ = Ft
  obtain ⟨x, g', r1, r2, r3⟩ := begin_l (I := va_up (va_up (va_up (va_up (va_up If 5 0) 0 (If 4)) 9 ((va_up (va_up If 5 0) 0 (If 4)) 6)) 10 ((va_up (va_up If 5 0) 0 (If 4)) 7)) 11 ((va_up (va_up If 5 0) 0 (If 4)) 8)) (F := Ft) 12 6 ab_fu (va_cpy (Ft 12) (Ft 22) 0 0 6) rfl (by decide)
  rw [r1, bd_s]
  unfold f_X3_clearAll f_X4_forgetUndone f_X4_forgetImages
  simp only [bd_s]
  rw [up_s]
  have n9 : (va_up (va_up (va_up (va_up (va_up If 5 0) 0 (If 4)) 9 ((va_up (va_up If 5 0) 0 (If 4)) 6)) 10 ((va_up (va_up If 5 0) 0 (If 4)) 7)) 11 ((va_up (va_up If 5 0) 0 (If 4)) 8)) 9 = nI nl := e6
  have ft : ∀ b, (b < 12 ∨ 22 ≤ b) → Ft b = Ff b := by
    intro b q
    rw [← hFt, up_n (by omega), up_n (by omega), up_n (by omega), up_n (by omega), up_n (by omega), up_n (by omega), up_n (by omega), up_n (by omega), up_n (by omega), up_n (by omega)]
  have f12 : Ft 12 = va_cpy (Ff 1) (Ff 12) 0 0 6 := by rw [← hFt]; rfl
  rw [up_n (show ¬ 9 = 14 by decide), up_n (show ¬ 9 = 13 by decide), up_n (show ¬ 9 = 12 by decide), up_n (show ¬ 9 = 16 by decide), up_n (show ¬ 9 = 15 by decide), n9, sl_2 nl (by omega)]
  refine ⟨_, _, rfl, ⟨rfl, rfl, e6, rfl, rfl, rfl, rfl, rfl, rfl, rfl⟩, ?_, ⟨?_, ?_, ?_, ?_, ?_⟩, ?_, ?_⟩
  · intro b q
    repeat rw [up_n (by omega)]
  · intro i hi
    rw [up_s, pk_un (by omega), pk_un (by omega), r3 i (Or.inl hi), cp6 hi, f12, cp6 hi]
  · intro i h1 h2
    rw [up_s, pk_un (by omega), pk_un (by omega), r2 i h1 h2]
  · rw [up_s, pk_un (by decide), pk_us]
  · rw [up_s, pk_us]
  · rw [up_s, pk_un (by decide), pk_un (by decide), r3 20 (Or.inr (by decide)), pk_cpy_out (Or.inr (by decide)), ft 22 (Or.inr (by decide))]
  · refine ⟨?_, ?_, ?_, ?_, ?_, ?_, ?_, ?_, ?_⟩ <;> intro j hj <;> rw [up_n (by decide), up_n (by decide), ← hFt] <;> exact cp6 hj
  · intro b q
    rw [up_n (by omega), up_n (by omega), ft b (by omega)]
theorem R26 {nl : Nat} {I : AI} (hn : nl ≤ 6) (e22 : I 22 = nI nl) : ∀ (m j n : Nat) (F : AF), j + m = 12 → m < n → (∀ i, i < j → (i < nl → F 47 i = F 49 i) ∧ (6 ≤ i → F 47 i = -1)) →
    ∃ x F1, (∀ ko, f_X10_takeRead_26 ko n (nI j) I F = ko x I F1) ∧ (∀ b, ¬ b = 47 → F1 b = F b) ∧ ∀ i, i < 12 → (i < nl → F1 47 i = F1 49 i) ∧ (6 ≤ i → F1 47 i = -1) := by
  intro m
  induction m with
  | zero =>
    intro j n F h1 h2 h3
    match n, h2 with
    | n + 1, _ =>
      have : j = 12 := by omega
      subst this
      exact ⟨nI 12, F, fun ko => by rw [f_X10_takeRead_26, if_pos (by decide)], fun _ _ => rfl, h3⟩
  | succ m ih =>
    intro j n F h1 h2 h3
    match n, h2 with
    | n + 1, h2 =>
      have key : ∀ v, (j < nl → v = F 49 j) → (6 ≤ j → v = -1) → ∃ x F1, (∀ ko, f_X10_takeRead_26 ko n (nI (j + 1)) I (va_up F 47 (upd (F 47) j v)) = ko x I F1) ∧ (∀ b, ¬ b = 47 → F1 b = F b) ∧ ∀ i, i < 12 → (i < nl → F1 47 i = F1 49 i) ∧ (6 ≤ i → F1 47 i = -1) := by
        intro v v1 v2
        obtain ⟨x, F1, r1, r2, r3⟩ := ih (j + 1) n (va_up F 47 (upd (F 47) j v)) (by omega) (by omega) (by
          intro i hi
          rw [up_s, up_n (show ¬ 49 = 47 by decide)]
          by_cases z : i = j
          · subst z
            rw [pk_us]
            exact ⟨v1, v2⟩
          · rw [pk_un z]
            exact h3 i (by omega))
        exact ⟨x, F1, r1, fun b q => (r2 b q).trans (up_n q), r3⟩
      by_cases z : j < nl
      · obtain ⟨x, F1, r1, r2⟩ := key (F 49 j) (fun _ => rfl) (fun _ => by omega)
        refine ⟨x, F1, fun ko => ?_, r2⟩
        rw [f_X10_takeRead_26, if_neg (show ¬ nI 12 ≤ nI j by rw [nle (by decide) (by omega)]; omega), e22, if_neg (show ¬ nI nl ≤ nI j by rw [nle (by omega) (by omega)]; omega), vin_t (show j < 6 by omega) (by decide), cond_true, vin_t (show j < 22 by omega) (by decide), cond_true, lt_e, nI_clamp (by omega), nI_1, r1]
      · by_cases y : 6 ≤ j
        · obtain ⟨x, F1, r1, r2⟩ := key (-1) (fun _ => by omega) (fun _ => rfl)
          refine ⟨x, F1, fun ko => ?_, r2⟩
          rw [f_X10_takeRead_26, if_neg (show ¬ nI 12 ≤ nI j by rw [nle (by decide) (by omega)]; omega), e22, if_pos (show nI nl ≤ nI j by rw [nle (by omega) (by omega)]; omega), if_pos (show nI 6 ≤ nI j by rw [nle (by decide) (by omega)]; omega), vin_t (show j < 22 by omega) (by decide), cond_true, lt_e, nI_clamp (by omega), nI_1, r1]
        · obtain ⟨x, F1, r1, r2⟩ := key 0 (fun _ => by omega) (fun _ => by omega)
          refine ⟨x, F1, fun ko => ?_, r2⟩
          rw [f_X10_takeRead_26, if_neg (show ¬ nI 12 ≤ nI j by rw [nle (by decide) (by omega)]; omega), e22, if_pos (show nI nl ≤ nI j by rw [nle (by omega) (by omega)]; omega), if_neg (show ¬ nI 6 ≤ nI j by rw [nle (by decide) (by omega)]; omega), vin_t (show j < 22 by omega) (by decide), cond_true, lt_e, nI_clamp (by omega), nI_1, r1]
theorem R74 {nl : Nat} {I : AI} (hn : nl ≤ 6) (e22 : I 22 = nI nl) : ∀ (m j n : Nat) (F : AF), j + m = 6 → m < n → (∀ i, i < j → (i < nl → F 39 i = F 51 i) ∧ F 47 (12 + i) = -1) →
    ∃ x F1, (∀ ko, f_X10_takeRead_74 ko n (nI j) I F = ko x I F1) ∧ (∀ b, ¬ b = 47 → ¬ b = 39 → F1 b = F b) ∧ (∀ i, i < 6 → (i < nl → F1 39 i = F1 51 i) ∧ F1 47 (12 + i) = -1) ∧ ∀ i, i < 12 → F1 47 i = F 47 i := by
  intro m
  induction m with
  | zero =>
    intro j n F h1 h2 h3
    match n, h2 with
    | n + 1, _ =>
      have : j = 6 := by omega
      subst this
      exact ⟨nI 6, F, fun ko => by rw [f_X10_takeRead_74, if_pos (by decide)], fun _ _ _ => rfl, h3, fun _ _ => rfl⟩
  | succ m ih =>
    intro j n F h1 h2 h3
    match n, h2 with
    | n + 1, h2 =>
      have key : ∀ v, (j < nl → v = F 51 j) → ∃ x F1, (∀ ko, f_X10_takeRead_74 ko n (nI (j + 1)) I (va_up (va_up F 39 (upd (F 39) j v)) 47 (upd (F 47) (12 + j) (-1))) = ko x I F1) ∧ (∀ b, ¬ b = 47 → ¬ b = 39 → F1 b = F b) ∧ (∀ i, i < 6 → (i < nl → F1 39 i = F1 51 i) ∧ F1 47 (12 + i) = -1) ∧ ∀ i, i < 12 → F1 47 i = F 47 i := by
        intro v v1
        obtain ⟨x, F1, r1, r2, r3, r4⟩ := ih (j + 1) n (va_up (va_up F 39 (upd (F 39) j v)) 47 (upd (F 47) (12 + j) (-1))) (by omega) (by omega) (by
          intro i hi
          rw [up_s, up_n (show ¬ 39 = 47 by decide), up_s, up_n (show ¬ 51 = 47 by decide), up_n (show ¬ 51 = 39 by decide)]
          by_cases z : i = j
          · subst z
            rw [pk_us, pk_us]
            exact ⟨v1, rfl⟩
          · rw [pk_un z, pk_un (show ¬ 12 + i = 12 + j by omega)]
            exact h3 i (by omega))
        refine ⟨x, F1, r1, fun b q1 q2 => (r2 b q1 q2).trans ((up_n q1).trans (up_n q2)), r3, ?_⟩
        intro i hi
        rw [r4 i hi, up_s, pk_un (by omega)]
      by_cases z : j < nl
      · obtain ⟨x, F1, r1, r2⟩ := key (F 51 j) (fun _ => rfl)
        refine ⟨x, F1, fun ko => ?_, r2⟩
        rw [f_X10_takeRead_74, if_neg (show ¬ nI 6 ≤ nI j by rw [nle (by decide) (by omega)]; omega), e22, if_neg (show ¬ nI nl ≤ nI j by rw [nle (by omega) (by omega)]; omega), vin_t (show j < 6 by omega) (by decide), cond_true, cond_true, nI_add, vin_t (show 12 + j < 22 by omega) (by decide), cond_true, lt_e, nI_clamp (show j < 2 ^ 31 by omega), nI_clamp (show 12 + j < 2 ^ 31 by omega), nI_1, r1]
      · obtain ⟨x, F1, r1, r2⟩ := key (-1) (fun _ => by omega)
        refine ⟨x, F1, fun ko => ?_, r2⟩
        rw [f_X10_takeRead_74, if_neg (show ¬ nI 6 ≤ nI j by rw [nle (by decide) (by omega)]; omega), e22, if_pos (show nI nl ≤ nI j by rw [nle (by omega) (by omega)]; omega), vin_t (show j < 6 by omega) (by decide), cond_true, nI_add, vin_t (show 12 + j < 22 by omega) (by decide), cond_true, lt_e, nI_clamp (show j < 2 ^ 31 by omega), nI_clamp (show 12 + j < 2 ^ 31 by omega), nI_1, r1]
theorem R122 {nl : Nat} {I : AI} (hn : nl ≤ 6) (e22 : I 22 = nI nl) : ∀ (m j n : Nat) (F : AF), j + m = 4 * nl → m < n → (∀ i, i < j → F 38 i = F 50 i - nI 9) →
    ∃ x F1, (∀ ko, f_X10_takeRead_122 ko n (nI j) I F = ko x I F1) ∧ (∀ b, ¬ b = 38 → F1 b = F b) ∧ ∀ i, i < 4 * nl → F1 38 i = F1 50 i - nI 9 := by
  intro m
  induction m with
  | zero =>
    intro j n F h1 h2 h3
    match n, h2 with
    | n + 1, _ =>
      have : j = 4 * nl := by omega
      subst this
      exact ⟨nI (4 * nl), F, fun ko => by rw [f_X10_takeRead_122, e22, pk_mul, if_pos (Int32.le_refl _)], fun _ _ => rfl, h3⟩
  | succ m ih =>
    intro j n F h1 h2 h3
    match n, h2 with
    | n + 1, h2 =>
      obtain ⟨x, F1, r1, r2, r3⟩ := ih (j + 1) n (va_up F 38 (upd (F 38) j (F 50 j - nI 9))) (by omega) (by omega) (by
        intro i hi
        rw [up_s, up_n (show ¬ 50 = 38 by decide)]
        by_cases z : i = j
        · subst z
          rw [pk_us]
        · rw [pk_un z]
          exact h3 i (by omega))
      refine ⟨x, F1, fun ko => ?_, fun b q => (r2 b q).trans (up_n q), r3⟩
      rw [f_X10_takeRead_122, e22, pk_mul, if_neg (show ¬ nI (4 * nl) ≤ nI j by rw [nle (by omega) (by omega)]; omega), vin_t (show j < 24 by omega) (by decide), cond_true, cond_true, lt_e, nI_clamp (by omega), nI_1, r1]
theorem R194 {nc : Nat} {I : AI} (hn : nc ≤ 6) (e23 : I 23 = nI nc) : ∀ (m j n : Nat) (F : AF), j + m = nc → m < n → (∀ i, i < j → F 40 i = F 52 i ∧ F 41 i = F 53 i ∧ F 42 i = F 54 i) →
    ∃ x F1, (∀ ko, f_X10_takeRead_194 ko n (nI j) I F = ko x I F1) ∧ (∀ b, ¬ b = 40 → ¬ b = 41 → ¬ b = 42 → F1 b = F b) ∧ ∀ i, i < nc → F1 40 i = F1 52 i ∧ F1 41 i = F1 53 i ∧ F1 42 i = F1 54 i := by
  intro m
  induction m with
  | zero =>
    intro j n F h1 h2 h3
    match n, h2 with
    | n + 1, _ =>
      have : j = nc := by omega
      subst this
      exact ⟨nI j, F, fun ko => by rw [f_X10_takeRead_194, e23, if_pos (Int32.le_refl _)], fun _ _ _ _ => rfl, h3⟩
  | succ m ih =>
    intro j n F h1 h2 h3
    match n, h2 with
    | n + 1, h2 =>
      obtain ⟨x, F1, r1, r2, r3⟩ := ih (j + 1) n (va_up (va_up (va_up F 40 (upd (F 40) j (F 52 j))) 41 (upd (F 41) j (F 53 j))) 42 (upd (F 42) j (F 54 j))) (by omega) (by omega) (by
        intro i hi
        show upd (F 40) j (F 52 j) i = F 52 i ∧ upd (F 41) j (F 53 j) i = F 53 i ∧ upd (F 42) j (F 54 j) i = F 54 i
        by_cases z : i = j
        · subst z
          rw [pk_us, pk_us, pk_us]
          exact ⟨rfl, rfl, rfl⟩
        · rw [pk_un z, pk_un z, pk_un z]
          exact h3 i (by omega))
      refine ⟨x, F1, fun ko => ?_, fun b q1 q2 q3 => (r2 b q1 q2 q3).trans ((up_n q3).trans ((up_n q2).trans (up_n q1))), r3⟩
      rw [f_X10_takeRead_194, e23, if_neg (show ¬ nI nc ≤ nI j by rw [nle (by omega) (by omega)]; omega), vin_t (show j < 6 by omega) (by decide), cond_true, cond_true, cond_true, cond_true, cond_true, cond_true, lt_e, nI_clamp (by omega), nI_1, r1]
theorem R246 {nr : Nat} {I : AI} (hn : nr ≤ 8) (e24 : I 24 = nI nr) : ∀ (m j n : Nat) (F : AF), j + m = nr → m < n → (∀ i, i < j → F 43 i = F 55 i ∧ F 44 i = F 56 i ∧ F 45 i = F 57 i ∧ F 46 i = F 58 i) →
    ∃ x F1, (∀ ko, f_X10_takeRead_246 ko n (nI j) I F = ko x I F1) ∧ (∀ b, ¬ b = 43 → ¬ b = 44 → ¬ b = 45 → ¬ b = 46 → F1 b = F b) ∧ ∀ i, i < nr → F1 43 i = F1 55 i ∧ F1 44 i = F1 56 i ∧ F1 45 i = F1 57 i ∧ F1 46 i = F1 58 i := by
  intro m
  induction m with
  | zero =>
    intro j n F h1 h2 h3
    match n, h2 with
    | n + 1, _ =>
      have : j = nr := by omega
      subst this
      exact ⟨nI j, F, fun ko => by rw [f_X10_takeRead_246, e24, if_pos (Int32.le_refl _)], fun _ _ _ _ _ => rfl, h3⟩
  | succ m ih =>
    intro j n F h1 h2 h3
    match n, h2 with
    | n + 1, h2 =>
      obtain ⟨x, F1, r1, r2, r3⟩ := ih (j + 1) n (va_up (va_up (va_up (va_up F 43 (upd (F 43) j (F 55 j))) 44 (upd (F 44) j (F 56 j))) 45 (upd (F 45) j (F 57 j))) 46 (upd (F 46) j (F 58 j))) (by omega) (by omega) (by
        intro i hi
        show upd (F 43) j (F 55 j) i = F 55 i ∧ upd (F 44) j (F 56 j) i = F 56 i ∧ upd (F 45) j (F 57 j) i = F 57 i ∧ upd (F 46) j (F 58 j) i = F 58 i
        by_cases z : i = j
        · subst z
          rw [pk_us, pk_us, pk_us, pk_us]
          exact ⟨rfl, rfl, rfl, rfl⟩
        · rw [pk_un z, pk_un z, pk_un z, pk_un z]
          exact h3 i (by omega))
      refine ⟨x, F1, fun ko => ?_, fun b q1 q2 q3 q4 => (r2 b q1 q2 q3 q4).trans ((up_n q4).trans ((up_n q3).trans ((up_n q2).trans (up_n q1)))), r3⟩
      rw [f_X10_takeRead_246, e24, if_neg (show ¬ nI nr ≤ nI j by rw [nle (by omega) (by omega)]; omega), vin_t (show j < 8 by omega) (by decide), cond_true, cond_true, cond_true, cond_true, cond_true, cond_true, lt_e, cond_true, cond_true, lt_e, nI_clamp (by omega), nI_1]
      exact r1 ko
theorem M_take {nl nc nr : Nat} {J : AI} {G : AF} (hn : nl ≤ 6) (hc : nc ≤ 6) (hr : nr ≤ 8) (e31 : J 31 = nI nl) (e32 : J 32 = nI nc) (e33 : J 33 = nI nr) :
    ∃ I2 F2, f_X10_port_j46 0 J G = some (nI nl, I2, F2) ∧ (I2 22 = nI nl ∧ I2 23 = nI nc ∧ I2 24 = nI nr ∧ I2 26 = 0 ∧ I2 27 = J 27 ∧ I2 34 = 0 ∧ I2 37 = 0 ∧ I2 38 = 0) ∧ (∀ b, (b < 22 ∨ b = 25) → I2 b = J b) ∧
      ((∀ i, i < nl → F2 47 i = G 49 i) ∧ (∀ i, 6 ≤ i → i < 18 → F2 47 i = -1) ∧ F2 47 18 = nI (2 ^ nl - 1) ∧ F2 47 19 = 0 ∧ F2 47 20 = 0 ∧ F2 47 21 = 0) ∧
      (∀ i, i < nl → F2 39 i = G 51 i) ∧ (∀ i, i < 4 * nl → F2 38 i = G 50 i - nI 9) ∧ (∀ i, i < nc → F2 40 i = G 52 i ∧ F2 41 i = G 53 i ∧ F2 42 i = G 54 i) ∧ (∀ i, i < nr → F2 43 i = G 55 i ∧ F2 44 i = G 56 i ∧ F2 45 i = G 57 i ∧ F2 46 i = G 58 i) ∧ (F2 65 0 = 0 ∧ F2 65 1 = 0) ∧ ∀ b, b < 38 → F2 b = G b := by
  unfold f_X10_port_j46 f_X10_takeRead
  rw [lt_e, if_pos (show (0 : Int32) ≤ 0 by decide), lt_e]
  generalize hI : va_up (va_up (va_up (va_up J 26 0) 22 ((va_up J 26 0) 31)) 23 ((va_up J 26 0) 32)) 24 ((va_up J 26 0) 33) = Ia
  have a22 : Ia 22 = nI nl := by rw [← hI]; exact e31
  have a23 : Ia 23 = nI nc := by rw [← hI]; exact e32
  have a24 : Ia 24 = nI nr := by rw [← hI]; exact e33
  obtain ⟨x1, F1, r1, r2, r3⟩ := R26 (I := Ia) hn a22 12 0 ab_fu G rfl (by decide) (fun i q => absurd q (Nat.not_lt_zero i))
  obtain ⟨x2, F2, s1, s2, s3, s4⟩ := R74 (I := Ia) hn a22 6 0 ab_fu F1 rfl (by decide) (fun i q => absurd q (Nat.not_lt_zero i))
  obtain ⟨x3, F3, t1, t2, t3⟩ := R122 (I := Ia) hn a22 (4 * nl) 0 ab_fu F2 (by omega) (Nat.lt_of_le_of_lt (show 4 * nl ≤ 24 by omega) (by decide)) (fun i q => absurd q (Nat.not_lt_zero i))
  rw [nI_0] at r1 s1 t1
  rw [r1, s1, t1, lt_e, lt_e, up_s, up_uu, a22, sl_2 nl (by omega)]
  generalize hF4 : va_up F3 47 (upd (upd (upd (upd (F3 47) 18 (nI (2 ^ nl - 1))) 19 0) 20 0) 21 0) = F4
  obtain ⟨x5, F5, u1, u2, u3⟩ := R194 (I := Ia) hc a23 nc 0 ab_fu F4 (by omega) (Nat.lt_of_le_of_lt hc (by decide)) (fun i q => absurd q (Nat.not_lt_zero i))
  obtain ⟨x6, F6, v1, v2, v3⟩ := R246 (I := Ia) hr a24 nr 0 ab_fu F5 (by omega) (Nat.lt_of_le_of_lt hr (by decide)) (fun i q => absurd q (Nat.not_lt_zero i))
  rw [nI_0] at u1 v1
  rw [u1, v1, bd_s, lt_e, up_n (show ¬ 22 = 34 by decide), up_n (show ¬ 22 = 38 by decide), up_n (show ¬ 22 = 37 by decide), a22]
  have b4 : ∀ b, ¬ b = 47 → F4 b = F3 b := fun b q => by rw [← hF4, up_n q]
  have all : ∀ b, (b < 38 ∨ 48 ≤ b) → F6 b = G b := fun b q => (v2 b (by omega) (by omega) (by omega) (by omega)).trans ((u2 b (by omega) (by omega) (by omega)).trans ((b4 b (by omega)).trans ((t2 b (by omega)).trans ((s2 b (by omega) (by omega)).trans (r2 b (by omega))))))
  have w47 : F6 47 = F4 47 := (v2 47 (by decide) (by decide) (by decide) (by decide)).trans (u2 47 (by decide) (by decide) (by decide))
  have e47 : F4 47 = upd (upd (upd (upd (F2 47) 18 (nI (2 ^ nl - 1))) 19 0) 20 0) 21 0 := by rw [← hF4, up_s, t2 47 (by decide)]
  refine ⟨_, _, rfl, ⟨a22, a23, a24, by rw [← hI]; rfl, by rw [← hI]; rfl, rfl, rfl, rfl⟩, ?_, ⟨?_, ?_, ?_, ?_, ?_, ?_⟩, ?_, ?_, ?_, ?_, ⟨rfl, rfl⟩, ?_⟩
  · intro b q
    rw [up_n (by omega), up_n (by omega), up_n (by omega), ← hI, up_n (by omega), up_n (by omega), up_n (by omega), up_n (by omega)]
  · intro i hi
    rw [up_n (by decide), w47, e47, pk_un (by omega), pk_un (by omega), pk_un (by omega), pk_un (by omega), s4 i (by omega), (r3 i (by omega)).1 hi, r2 49 (by decide)]
  · intro i h1 h2
    rw [up_n (by decide), w47, e47, pk_un (by omega), pk_un (by omega), pk_un (by omega), pk_un (by omega)]
    by_cases z : i < 12
    · rw [s4 i z, (r3 i z).2 h1]
    · have := (s3 (i - 12) (by omega)).2
      rw [show 12 + (i - 12) = i by omega] at this
      exact this
  · rw [up_n (by decide), w47, e47, pk_un (by decide), pk_un (by decide), pk_un (by decide), pk_us]
  · rw [up_n (by decide), w47, e47, pk_un (by decide), pk_un (by decide), pk_us]
  · rw [up_n (by decide), w47, e47, pk_un (by decide), pk_us]
  · rw [up_n (by decide), w47, e47, pk_us]
  · intro i hi
    rw [up_n (by decide), v2 39 (by decide) (by decide) (by decide) (by decide), u2 39 (by decide) (by decide) (by decide), b4 39 (by decide), t2 39 (by decide), (s3 i (by omega)).1 hi, s2 51 (by decide) (by decide), r2 51 (by decide)]
  · intro i hi
    rw [up_n (by decide), v2 38 (by decide) (by decide) (by decide) (by decide), u2 38 (by decide) (by decide) (by decide), b4 38 (by decide), t3 i hi, t2 50 (by decide), s2 50 (by decide) (by decide), r2 50 (by decide)]
  · intro i hi
    rw [up_n (by decide), up_n (by decide), up_n (by decide), ← all 52 (by decide), ← all 53 (by decide), ← all 54 (by decide), v2 40 (by decide) (by decide) (by decide) (by decide), v2 41 (by decide) (by decide) (by decide) (by decide), v2 42 (by decide) (by decide) (by decide) (by decide), v2 52 (by decide) (by decide) (by decide) (by decide), v2 53 (by decide) (by decide) (by decide) (by decide), v2 54 (by decide) (by decide) (by decide) (by decide)]
    exact u3 i hi
  · intro i hi
    rw [up_n (by decide), up_n (by decide), up_n (by decide), up_n (by decide), ← all 55 (by decide), ← all 56 (by decide), ← all 57 (by decide), ← all 58 (by decide)]
    exact v3 i hi
  · intro b q
    rw [up_n (by omega), all b (Or.inl q)]
