/-! keep, goBack, gout, stub, dies, copy -/
theorem kp15 {I : AI} {F : AF} {i0 : Nat} {ko : Int32 → AI → AF → AQ} (hi0 : i0 < 2) : ∀ (m i n : Nat), i + m = 22 → m < n → f_X10_keep_15 (nI i0) ko n (nI i) I (va_up F 64 (va_cpy (F 47) (F 64) 0 (23 * i0) i)) = ko (nI 22) I (va_up F 64 (va_cpy (F 47) (F 64) 0 (23 * i0) 22)) := by
  intro m
  induction m with
  | zero =>
    intro i n h1 h2
    match n, h2 with
    | n + 1, _ =>
      have : i = 22 := by omega
      subst this
      rw [f_X10_keep_15, if_pos (by decide)]
  | succ m ih =>
    intro i n h1 h2
    match n, h2 with
    | n + 1, h2 =>
      have := ih (i + 1) n (by omega) (by omega)
      rw [f_X10_keep_15, pk_mul, nI_add]
      simp (disch := omega) only [nle, if_neg (show ¬ 22 ≤ i by omega), vin_t, cond_true, nI_clamp, lt_e, nI_1, up_uu, up_s]
      rw [show va_up F 64 (va_cpy (F 47) (F 64) 0 (23 * i0) i) 47 i = F 47 (0 + i) by rw [up_n (by decide), Nat.zero_add], cpy_s]
      exact this
theorem gb27 {I : AI} {F : AF} {i0 : Nat} {ko : Int32 → AI → AF → AQ} (hi0 : i0 < 2) : ∀ (m i n : Nat), i + m = 22 → m < n → f_X10_goBack_27 (nI i0) ko n (nI i) I (va_up F 47 (va_cpy (F 64) (F 47) (23 * i0) 0 i)) = ko (nI 22) I (va_up F 47 (va_cpy (F 64) (F 47) (23 * i0) 0 22)) := by
  intro m
  induction m with
  | zero =>
    intro i n h1 h2
    match n, h2 with
    | n + 1, _ =>
      have : i = 22 := by omega
      subst this
      rw [f_X10_goBack_27, if_pos (by decide)]
  | succ m ih =>
    intro i n h1 h2
    match n, h2 with
    | n + 1, h2 =>
      have := ih (i + 1) n (by omega) (by omega)
      rw [f_X10_goBack_27, pk_mul, nI_add]
      simp (disch := omega) only [nle, if_neg (show ¬ 22 ≤ i by omega), vin_t, cond_true, nI_clamp, lt_e, nI_1, up_uu, up_s]
      rw [show va_up F 47 (va_cpy (F 64) (F 47) (23 * i0) 0 i) 64 (23 * i0 + i) = F 64 (23 * i0 + i) by rw [up_n (by decide)]]
      have e := cpy_s (f := F 64) (g := F 47) (23 * i0) 0 i
      rw [Nat.zero_add] at e
      rw [e]
      exact this
theorem img_in {i : Nat} {I : AI} {F : AF} (hi : i < 2) : f_X9_isImage (nI i) I F = some (1, I, F) := by
  unfold f_X9_isImage
  simp (disch := omega) only [n0lt, nle, if_neg (show ¬ 2 ≤ i by omega), if_false]
theorem img_out {I : AI} {F : AF} {x : Int32} (hx : x < 0 ∨ ∃ k, 2 ≤ k ∧ k < 2 ^ 31 ∧ x = nI k) : f_X9_isImage x I F = some (0, I, F) := by
  unfold f_X9_isImage
  rcases hx with h | ⟨k, h1, h2, h3⟩
  · rw [if_pos h]
  · subst h3
    simp (disch := omega) only [n0lt, nle, if_pos h1, if_false]
theorem bit2 : ∀ q, q < 4 → ∀ i, i < 2 → q ||| 2 ^ i < 4 ∧ ∀ j, j < 2 → (q ||| 2 ^ i).testBit j = (q.testBit j || decide (j = i)) := by decide
theorem sim_keep (a : Int32) : ab_Sim Inv (f_X9_keep a) (f_X10_keep a) := by
  intro I F h
  have h0 := h
  obtain ⟨t, L, C, R, u, o, q, g, bb, hT, ⟨hL, hC, hR, e9, e10, e11, e22, e23, e24⟩, hPL, hQ, hV, hS, hD, hU, ⟨hq, e14, hE⟩, hN⟩ := h
  rcases i_cs a (n := 2) (by omega) with ⟨i, hi, rfl⟩ | ha
  · have e1 : f_X9_keep (nI i) I F = some (1, va_up (va_up (va_up I 14 (nI (q ||| 2 ^ i))) 12 0) 13 0, va_up F 24 (va_cpy (F 22) (F 24) 0 (i * 21) 21)) := by
      unfold f_X9_keep f_X4_keepImage f_X4_forgetUndone
      rw [img_in hi]
      simp only [bd_s]
      rw [e14, sl_k i (by omega), n_or, pk_mul, if_pos (show ¬ (1 : Int32) = 0 by decide), ← nI_0, cg_t (by omega) (by omega) (by decide) (by decide), cond_true, nI_clamp (by omega), nI_0]
      simp only [bd_s]
    have e2 : ∀ (I' : AI) (F' : AF), I' 25 = I 25 → F' 47 = F 47 → F' 64 = F 64 → F' 65 = F 65 → f_X10_keep (nI i) I' F' = some (1, va_up I' 34 0, va_up (va_up (va_up F' 64 (va_cpy (F 47) (F 64) 0 (23 * i) 22)) 64 (upd (va_cpy (F 47) (F 64) 0 (23 * i) 22) (23 * i + 22) (I 25))) 65 (upd (F 65) i 1)) := by
      intro I' F' a1 a2 a3 a4
      unfold f_X10_keep
      rw [in_c (w2 := 0) (w4 := 1) (b := 0) (c := nI 1) rfl rfl]
      simp (disch := omega) only [n0le, nle, true_and, if_pos (show i ≤ 1 by omega), bd_s]
      rw [if_pos (show ¬ (1 : Int32) = 0 by decide)]
      have := kp15 (I := I') (F := F') (ko := fun v2_2411 I2412 F2413 =>
        bif ab_vin (((nI 23) * (nI i)) + (nI 22)) 46 then
          bif ab_vin (nI i) 2 then
            ab_lt (va_up I2412 34 (0 : Int32)) (fun I2416 =>
              ab_lt (va_up (va_up F2413 64 (upd (F2413 64) (((nI 23) * (nI i)) + (nI 22)).toNatClampNeg (I2412 25))) 65 (upd (F2413 65) (nI i).toNatClampNeg (1 : Int32))) (fun F2417 =>
                some ((1 : Int32), I2416, F2417)))
          else none
        else none) hi 22 0 ab_fu rfl (by decide)
      rw [cpy_0, up_id, nI_0] at this
      refine this.trans ?_
      rw [pk_mul, nI_add]
      simp (disch := omega) only [vin_t, cond_true, nI_clamp, lt_e, up_s, a1, a2, a3]
      rw [up_n (f := F') (show ¬ 65 = 64 by decide), a4]
    obtain ⟨b1, b2⟩ := bit2 q hq i hi
    refine ⟨_, _, _, _, _, e1, e2 _ _ rfl rfl rfl rfl, t, L, C, R, 0, 0, q ||| 2 ^ i, g, bb, hT, ⟨hL, hC, hR, e9, e10, e11, e22, e23, e24⟩, hPL, hQ, hV, hS, hD, ⟨by omega, by omega, rfl, rfl, rfl, fun j hj => absurd hj (by omega)⟩, ⟨b1, rfl, ?_⟩, hN⟩
    intro j hj
    obtain ⟨c1, c2⟩ := hE j hj
    show upd (F 65) i 1 j = (if (q ||| 2 ^ i).testBit j then 1 else 0) ∧ ((q ||| 2 ^ i).testBit j = true → SR L C (F 15) (fun k => va_cpy (F 22) (F 24) 0 (i * 21) 21 (21 * j + k)) (fun k => upd (va_cpy (F 47) (F 64) 0 (23 * i) 22) (23 * i + 22) (I 25) (23 * j + k)) ∧ upd (va_cpy (F 47) (F 64) 0 (23 * i) 22) (23 * i + 22) (I 25) (23 * j + 22) = va_cpy (F 22) (F 24) 0 (i * 21) 21 (21 * j + 20) ∧ ∃ a, a < 2 ^ 31 ∧ va_cpy (F 22) (F 24) 0 (i * 21) 21 (21 * j + 20) = nI a)
    rw [b2 j hj]
    by_cases hji : j = i
    · subst hji
      refine ⟨by rw [pk_us]; simp, fun _ => ⟨SR_cong hL hC hS ?_ ?_, ?_, ?_⟩⟩
      · intro k hk
        rw [cpy_in (by omega) (by omega), show 0 + (21 * j + k - j * 21) = k by omega]
      · intro k hk
        rw [pk_un (by omega), cpy_in (by omega) (by omega), show 0 + (23 * j + k - 23 * j) = k by omega]
      · rw [pk_us, cpy_in (by omega) (by omega), show 0 + (21 * j + 20 - j * 21) = 20 by omega]
        exact hD.1
      · rw [cpy_in (by omega) (by omega), show 0 + (21 * j + 20 - j * 21) = 20 by omega]
        exact hD.2
    · have hd : decide (j = i) = false := decide_eq_false hji
      rw [hd, Bool.or_false, pk_un hji]
      refine ⟨c1, fun hb => ?_⟩
      obtain ⟨d1, d2, d3⟩ := c2 hb
      have o1 : ∀ k, k < 21 → va_cpy (F 22) (F 24) 0 (i * 21) 21 (21 * j + k) = F 24 (21 * j + k) := fun k hk => cpy_out (by omega)
      have o2 : ∀ k, k < 23 → upd (va_cpy (F 47) (F 64) 0 (23 * i) 22) (23 * i + 22) (I 25) (23 * j + k) = F 64 (23 * j + k) := fun k hk => by
        rw [pk_un (by omega), cpy_out (by omega)]
      refine ⟨SR_cong hL hC d1 (fun k hk => o1 k (by omega)) (fun k hk => o2 k (by omega)), ?_, ?_⟩
      · rw [o1 20 (by omega), o2 22 (by omega)]; exact d2
      · rw [o1 20 (by omega)]; exact d3
  · refine ⟨-1000000001, I, F, I, F, ?_, ?_, h0⟩
    · unfold f_X9_keep
      rw [img_out ha]
      rfl
    · unfold f_X10_keep
      rw [in_c (w2 := 0) (w4 := 1) (b := 0) (c := nI 1) rfl rfl, if_neg (out_n (by omega) ha (by omega)), bd_s]
      rfl
theorem sim_goBack (a : Int32) : ab_Sim Inv (f_X9_goBack a) (f_X10_goBack a) := by
  intro I F h
  have h0 := h
  obtain ⟨t, L, C, R, u, o, q, g, bb, hT, ⟨hL, hC, hR, e9, e10, e11, e22, e23, e24⟩, hPL, hQ, hV, hS, hD, hU, ⟨hq, e14, hE⟩, hN⟩ := h
  rcases i_cs a (n := 2) (by omega) with ⟨i, hi, rfl⟩ | ha
  · obtain ⟨c1, c2⟩ := hE i hi
    have hbit : (I 14 >>> (nI i &&& 31)) &&& 1 = if q.testBit i then 1 else 0 := by rw [e14]; exact bit_n (by omega) (by omega)
    by_cases hb : q.testBit i = true
    · obtain ⟨d1, d2, d3⟩ := c2 hb
      rw [if_pos hb] at c1 hbit
      have e1 : f_X9_goBack (nI i) I F = some (1, va_up (va_up I 12 0) 13 0, va_up F 22 (va_cpy (F 24) (F 22) (i * 21) 0 21)) := by
        unfold f_X9_goBack f_X4_hasImage f_X4_restoreImage f_X4_forgetUndone
        rw [img_in hi]
        simp only [bd_s]
        rw [pk_mul, hbit, if_pos (show ¬ (1 : Int32) = 0 by decide), if_neg (show ¬ (1 : Int32) = 0 by decide), bd_s, if_pos (show ¬ (1 : Int32) = 0 by decide), ← nI_0, cg_t (by omega) (by omega) (by decide) (by decide), cond_true, nI_clamp (by omega), nI_0]
        simp only [bd_s]
      have e2 : ∀ (I' : AI) (F' : AF), F' 47 = F 47 → F' 64 = F 64 → F' 65 = F 65 → f_X10_goBack (nI i) I' F' = some (1, va_up (va_up I' 25 (F 64 (23 * i + 22))) 34 0, va_up F' 47 (va_cpy (F 64) (F 47) (23 * i) 0 22)) := by
        intro I' F' a2 a3 a4
        unfold f_X10_goBack
        rw [in_c (w2 := 0) (w4 := 1) (b := 0) (c := nI 1) rfl rfl]
        simp (disch := omega) only [n0le, nle, true_and, if_pos (show i ≤ 1 by omega), bd_s, vin_t, cond_true, nI_clamp, a4, c1]
        rw [if_pos (show ¬ (1 : Int32) = 0 by decide), if_pos (show ¬ (1 : Int32) = 0 by decide)]
        have := gb27 (I := I') (F := F') (ko := fun v2_2428 I2429 F2430 =>
            bif ab_vin (((nI 23) * (nI i)) + (nI 22)) 46 then
              some ((1 : Int32), (va_up (va_up I2429 25 ((F2430 64) (((nI 23) * (nI i)) + (nI 22)).toNatClampNeg)) 34 (0 : Int32)), F2430)
            else none) hi 22 0 ab_fu rfl (by decide)
        rw [cpy_0, up_id, nI_0] at this
        refine this.trans ?_
        rw [pk_mul, nI_add]
        simp (disch := omega) only [vin_t, cond_true, nI_clamp, a2, a3]
        rw [up_n (f := F') (show ¬ 64 = 47 by decide), a3]
      refine ⟨_, _, _, _, _, e1, e2 _ _ rfl rfl rfl, t, L, C, R, 0, 0, q, g, bb, hT, ⟨hL, hC, hR, e9, e10, e11, e22, e23, e24⟩, hPL, hQ, hV, ?_, ?_, ⟨by omega, by omega, rfl, rfl, rfl, fun j hj => absurd hj (by omega)⟩, ⟨hq, e14, hE⟩, hN⟩
      · refine SR_cong hL hC d1 ?_ ?_
        · intro k hk
          show va_cpy (F 24) (F 22) (i * 21) 0 21 k = _
          rw [cpy_in (by omega) (by omega), Nat.sub_zero, Nat.mul_comm]
        · intro k hk
          show va_cpy (F 64) (F 47) (23 * i) 0 22 k = _
          rw [cpy_in (by omega) (by omega), Nat.sub_zero]
      · have e20 : va_cpy (F 24) (F 22) (i * 21) 0 21 20 = F 24 (21 * i + 20) := by rw [cpy_in (by omega) (by omega), Nat.sub_zero, Nat.mul_comm]
        refine ⟨?_, ?_⟩
        · show F 64 (23 * i + 22) = va_cpy (F 24) (F 22) (i * 21) 0 21 20
          rw [e20]; exact d2
        · show ∃ a, a < 2 ^ 31 ∧ va_cpy (F 24) (F 22) (i * 21) 0 21 20 = nI a
          rw [e20]; exact d3
    · rw [if_neg hb] at c1 hbit
      refine ⟨-1000000003, I, F, I, F, ?_, ?_, h0⟩
      · unfold f_X9_goBack f_X4_hasImage
        rw [img_in hi]
        simp only [bd_s]
        rw [hbit, if_pos (show ¬ (1 : Int32) = 0 by decide), if_pos rfl, bd_s, if_neg (by decide)]
      · unfold f_X10_goBack
        rw [in_c (w2 := 0) (w4 := 1) (b := 0) (c := nI 1) rfl rfl]
        simp (disch := omega) only [n0le, nle, true_and, if_pos (show i ≤ 1 by omega), bd_s, vin_t, cond_true, nI_clamp, c1]
        rw [if_pos (show ¬ (1 : Int32) = 0 by decide), if_neg (by decide)]
  · refine ⟨-1000000001, I, F, I, F, ?_, ?_, h0⟩
    · unfold f_X9_goBack
      rw [img_out ha]
      rfl
    · unfold f_X10_goBack
      rw [in_c (w2 := 0) (w4 := 1) (b := 0) (c := nI 1) rfl rfl, if_neg (out_n (by omega) ha (by omega)), bd_s]
      rfl
/-- a state with another length, another copy, other living -/
theorem SR_len {L C k a : Nat} {T r w : Nat → Int32} (hL : L ≤ 6) (h : SR L C T r w) (hk : k < L) (h1 : 1 ≤ a) (h2 : a ≤ 140) : SR L C T (upd r k (nI a)) (upd w k (nI a)) := by
  obtain ⟨a1, a2, a3, a4, a5, a6, a7, a8, a9, b1, b2⟩ := h
  have z : ∀ (f : Nat → Int32) j, 6 ≤ j → upd f k (nI a) j = f j := fun f j hj => pk_un (by omega)
  refine ⟨?_, ?_, ?_, ?_, ?_, ?_, ?_, ?_, ?_, ?_, ?_⟩
  · intro j hj
    by_cases e : j = k
    · subst e
      rw [pk_us, pk_us]; exact ⟨rfl, a, h1, h2, rfl⟩
    · rw [pk_un e, pk_un e]; exact a1 j hj
  · intro j hj
    rw [z _ _ (by omega), z _ _ (by omega)]; exact a2 j hj
  · intro j q1 q2
    rw [z _ _ (by omega)]; exact a3 j q1 q2
  · intro j hj
    rw [z _ _ (by omega), z _ _ (by omega), z _ _ (by omega)]; exact a4 j hj
  · intro j q1 q2
    rw [z _ _ (by omega)]; exact a5 j q1 q2
  · rw [z _ _ (by omega)]; exact a6
  · rw [z _ _ (by omega), z _ _ (by omega)]; exact a7
  · rw [z _ _ (by omega)]; exact a8
  · rw [z _ _ (by omega), z _ _ (by omega)]; exact a9
  · rw [z _ _ (by omega), b1]; exact (pt_cong 6 (fun c _ => z _ _ (by omega))).symm
  · rw [z _ _ (by omega), b2]; exact (nt_cong 6 (fun c _ => z _ _ (by omega))).symm
theorem SR_cop {L C k a : Nat} {T r w : Nat → Int32} (hL : L ≤ 6) (h : SR L C T r w) (hk : k < L) (h2 : a ≤ 149) : SR L C T (upd r (6 + k) (nI a)) (upd w (6 + k) (nI a)) := by
  obtain ⟨a1, a2, a3, a4, a5, a6, a7, a8, a9, b1, b2⟩ := h
  have z : ∀ (f : Nat → Int32) j, 12 ≤ j → upd f (6 + k) (nI a) j = f j := fun f j hj => pk_un (by omega)
  refine ⟨?_, ?_, ?_, ?_, ?_, ?_, ?_, ?_, ?_, ?_, ?_⟩
  · intro j hj
    rw [pk_un (by omega), pk_un (by omega)]; exact a1 j hj
  · intro j hj
    by_cases e : j = k
    · subst e
      rw [pk_us, pk_us]; exact ⟨rfl, Or.inr ⟨a, h2, rfl⟩⟩
    · rw [pk_un (by omega), pk_un (by omega)]; exact a2 j hj
  · intro j q1 q2
    rw [pk_un (by omega)]; exact a3 j q1 q2
  · intro j hj
    rw [z _ _ (by omega), z _ _ (by omega), z _ _ (by omega)]; exact a4 j hj
  · intro j q1 q2
    rw [z _ _ (by omega)]; exact a5 j q1 q2
  · rw [z _ _ (by omega)]; exact a6
  · rw [z _ _ (by omega), z _ _ (by omega)]; exact a7
  · rw [z _ _ (by omega)]; exact a8
  · rw [z _ _ (by omega), z _ _ (by omega)]; exact a9
  · rw [z _ _ (by omega), b1]; exact (pt_cong 6 (fun c _ => z _ _ (by omega))).symm
  · rw [z _ _ (by omega), b2]; exact (nt_cong 6 (fun c _ => z _ _ (by omega))).symm
theorem SR_liv {L C a : Nat} {T r w : Nat → Int32} (hL : L ≤ 6) (hC : C ≤ 6) (h : SR L C T r w) (h2 : a < 2 ^ L) : SR L C T (upd r 18 (nI a)) (upd w 18 (nI a)) := by
  obtain ⟨a1, a2, a3, a4, a5, a6, a7, a8, a9, b1, b2⟩ := h
  have z : ∀ (f : Nat → Int32) j, ¬ j = 18 → upd f 18 (nI a) j = f j := fun f j hj => pk_un hj
  refine ⟨?_, ?_, ?_, ?_, ?_, ?_, ?_, ?_, ?_, ?_, ?_⟩
  · intro j hj
    rw [z _ _ (by omega), z _ _ (by omega)]; exact a1 j hj
  · intro j hj
    rw [z _ _ (by omega), z _ _ (by omega)]; exact a2 j hj
  · intro j q1 q2
    rw [z _ _ (by omega)]; exact a3 j q1 q2
  · intro j hj
    rw [z _ _ (by omega), z _ _ (by omega), z _ _ (by omega)]; exact a4 j hj
  · intro j q1 q2
    rw [z _ _ (by omega)]; exact a5 j q1 q2
  · rw [pk_us]; exact ⟨a, h2, rfl⟩
  · rw [pk_us, pk_us]
  · rw [z _ _ (by omega)]; exact a8
  · rw [z _ _ (by omega), z _ _ (by omega)]; exact a9
  · rw [z _ _ (by omega), b1]; exact (pt_cong 6 (fun c _ => z _ _ (by omega))).symm
  · rw [z _ _ (by omega), b2]; exact (nt_cong 6 (fun c _ => z _ _ (by omega))).symm
theorem pow31 {a L : Nat} (hL : L ≤ 6) (h : a < 2 ^ L) : a < 2 ^ 31 := Nat.lt_of_lt_of_le h (Nat.pow_le_pow_right (by decide) (by omega))
theorem X_len {L k : Nat} {I : AI} {F : AF} (hL : L ≤ 6) (hk : k < L) : f_X8_lengthOf (nI k) I F = some (F 22 k, I, F) := by
  unfold f_X8_lengthOf
  rw [← nI_0, nI_add, Nat.zero_add]
  simp (disch := omega) only [vin_t, cond_true, nI_clamp]
theorem X_cop {L k : Nat} {I : AI} {F : AF} (hL : L ≤ 6) (hk : k < L) : f_X8_copyOf (nI k) I F = some (F 22 (6 + k), I, F) := by
  unfold f_X8_copyOf
  rw [nI_add]
  simp (disch := omega) only [vin_t, cond_true, nI_clamp]
theorem X_swell {L k l v : Nat} {I : AI} {F : AF} (hL : L ≤ 6) (hk : k < L) (e : F 22 k = nI l) (hl : l ≤ 140) (hv : v ≤ 20) : f_X8_swell (nI k) (nI v) I F = some (0, I, va_up F 22 (upd (F 22) k (nI (if l + v < 140 then l + v else 140)))) := by
  unfold f_X8_swell
  rw [← nI_0, nI_add, Nat.zero_add]
  simp (disch := omega) only [vin_t, cond_true, nI_clamp, e, nI_add, nlt, nI_0]
  by_cases q : l + v < 140
  · rw [if_pos q, if_pos q]
  · rw [if_neg q, if_neg q]
theorem M_swell {L k l v : Nat} {I : AI} {F : AF} (hL : L ≤ 6) (hk : k < L) (e : F 47 k = nI l) (hl : l ≤ 140) (hv : v ≤ 20) : f_X10_swell (nI k) (nI v) I F = some (0, I, va_up F 47 (upd (F 47) k (nI (if l + v < 140 then l + v else 140)))) := by
  unfold f_X10_swell
  simp (disch := omega) only [vin_t, cond_true, nI_clamp, e, nI_add, nle]
  by_cases q : l + v < 140
  · rw [if_pos q, if_neg (by omega)]
  · rw [if_neg q, if_pos (by omega)]
theorem X_short {L k l : Nat} {I : AI} {F : AF} (hL : L ≤ 6) (hk : k < L) (e : F 22 k = nI l) (hl : l ≤ 140) : f_X8_shorten (nI k) I F = some (0, I, va_up F 22 (upd (F 22) k (nI (if l ≤ 4 then 1 else l - 3)))) := by
  unfold f_X8_shorten
  rw [← nI_0, nI_add, Nat.zero_add]
  simp (disch := omega) only [vin_t, cond_true, nI_clamp, e, nI_0]
  by_cases q : l ≤ 4
  · rw [if_pos q, if_neg]
    · rfl
    · rw [Int32.lt_iff_toInt_lt, pk_sub_toInt (a := l) (b := 3) (by omega) (by omega)]
      have : (1 : Int32).toInt = 1 := rfl
      omega
  · rw [if_neg q, pk_sub (show 3 ≤ l by omega), if_pos]
    rw [show (1 : Int32) = nI 1 from rfl, nlt (by omega) (by omega)]
    omega
theorem M_short {L k l : Nat} {I : AI} {F : AF} (hL : L ≤ 6) (hk : k < L) (e : F 47 k = nI l) (hl : l ≤ 140) : f_X10_shrink (nI k) I F = some (0, I, va_up F 47 (upd (F 47) k (nI (if l ≤ 4 then 1 else l - 3)))) := by
  unfold f_X10_shrink
  simp (disch := omega) only [vin_t, cond_true, nI_clamp, e, nle]
  by_cases q : l ≤ 4
  · rw [if_pos q, if_pos q]
    rfl
  · rw [if_neg q, if_neg q, pk_sub (show 3 ≤ l by omega)]
theorem refl_ok {L a k : Nat} {I : AI} {F : AF} (hL : L ≤ 6) (e9 : I 9 = nI L) (hk : k < L) (ea : F 22 18 = nI a) (ha : a < 2 ^ L) : f_X9_refusalOfLiving (nI k) I F = some ((if a.testBit k then 0 else -1000000003), I, F) := by
  unfold f_X9_refusalOfLiving
  rw [hasL_in hL e9 hk]
  simp (disch := omega) only [bd_s, X_lives ea (pow31 hL ha) (show k < 9 by omega)]
  cases a.testBit k <;> rfl
theorem refl_out {L : Nat} {I : AI} {F : AF} {x : Int32} (hL : L ≤ 6) (e9 : I 9 = nI L) (hx : x < 0 ∨ ∃ k, L ≤ k ∧ k < 2 ^ 31 ∧ x = nI k) : f_X9_refusalOfLiving x I F = some (-1000000001, I, F) := by
  unfold f_X9_refusalOfLiving
  rw [hasL_out hL e9 hx]
  rfl
theorem sim_gout (a b : Int32) : ab_Sim Inv (f_X9_gout a b) (f_X10_gout a b) := by
  intro I F h
  have h0 := h
  obtain ⟨t, L, C, R, u, o, q, g, bb, hT, ⟨hL, hC, hR, e9, e10, e11, e22, e23, e24⟩, hPL, hQ, hV, hS, hD, hU, hM, hN⟩ := h
  obtain ⟨al, s, ha1, ea, ea2, hs1, es, -⟩ := SR_a hS
  have ha31 := pow31 hL ha1
  rcases i_cs a (n := L) (by omega) with ⟨k, hk, rfl⟩ | ha
  · have k9 : k < 9 := by omega
    by_cases hb : (1 : Int32) ≤ b ∧ b ≤ nI 20
    · cases hl : al.testBit k with
      | false =>
        refine ⟨-1000000003, I, F, I, F, ?_, ?_, h0⟩
        · unfold f_X9_gout
          rw [hasL_in hL e9 hk]
          simp only [bd_s]
          rw [if_pos (show ¬ (1 : Int32) = 0 by decide), if_neg (Int32.not_lt.mpr hb.1), if_pos hb.2, X_lives ea ha31 k9, hl]
          rfl
        · unfold f_X10_gout
          rw [isL_in hL e22 hk]
          simp only [bd_s]
          rw [if_pos (show ¬ (1 : Int32) = 0 by decide), in_c (w2 := 1) (w4 := 20) (b := 1) (c := nI 20) rfl rfl, if_pos hb, bd_s, if_pos (show ¬ (1 : Int32) = 0 by decide), M_lives ea2 ha31 k9, hl]
          rfl
      | true =>
        obtain ⟨v, hv, rfl⟩ := nI_of2 (M := nI 20) (n := 20) rfl (Int32.not_lt.mpr (Int32.le_trans (show (0 : Int32) ≤ 1 by decide) hb.1)) hb.2
        obtain ⟨w1, l, hl1, hl2, el⟩ := hS.1 k hk
        have hv1 : 1 ≤ v := by
          have := hb.1
          rw [show (1 : Int32) = nI 1 from rfl, nI_leI (by omega) (by omega)] at this
          exact this
        obtain ⟨u', o', i12, i13, i34, f23, f59, r1, r2, hU'⟩ := rem_both hL hC hU hS
        have e1 : f_X9_gout (nI k) (nI v) I F = some (nI (if l + v < 140 then l + v else 140), va_up (va_up I 12 i12) 13 i13, va_up (va_up F 23 f23) 22 (upd (F 22) k (nI (if l + v < 140 then l + v else 140)))) := by
          unfold f_X9_gout
          rw [hasL_in hL e9 hk]
          simp only [bd_s]
          rw [if_pos (show ¬ (1 : Int32) = 0 by decide), if_neg (Int32.not_lt.mpr hb.1), if_pos hb.2, X_lives ea ha31 k9, hl]
          simp only [bd_s, if_true]
          rw [if_pos (show ¬ (1 : Int32) = 0 by decide), r1, bd_s, X_swell hL hk (show va_up F 23 f23 22 k = nI l from el) hl2 hv, bd_s, X_len hL hk, bd_s]
          show some (upd (F 22) k _ k, _, _) = _
          rw [pk_us]
          rfl
        have e2 := r2 (va_up (va_up I 12 i12) 13 i13) (va_up (va_up F 23 f23) 22 (upd (F 22) k (nI (if l + v < 140 then l + v else 140)))) rfl rfl rfl
        have e3 : f_X10_gout (nI k) (nI v) (va_up (va_up I 12 i12) 13 i13) (va_up (va_up F 23 f23) 22 (upd (F 22) k (nI (if l + v < 140 then l + v else 140)))) = some (nI (if l + v < 140 then l + v else 140), va_up (va_up (va_up I 12 i12) 13 i13) 34 i34, va_up (va_up (va_up (va_up F 23 f23) 22 (upd (F 22) k (nI (if l + v < 140 then l + v else 140)))) 59 f59) 47 (upd (F 47) k (nI (if l + v < 140 then l + v else 140)))) := by
          unfold f_X10_gout
          rw [isL_in hL (show va_up (va_up I 12 i12) 13 i13 22 = nI L from e22) hk]
          simp only [bd_s]
          rw [if_pos (show ¬ (1 : Int32) = 0 by decide), in_c (w2 := 1) (w4 := 20) (b := 1) (c := nI 20) rfl rfl, if_pos hb, bd_s, if_pos (show ¬ (1 : Int32) = 0 by decide), M_lives (F := va_up (va_up F 23 f23) 22 (upd (F 22) k (nI (if l + v < 140 then l + v else 140)))) (show F 47 18 = nI al from ea2) ha31 k9, hl]
          simp only [bd_s, if_true]
          rw [if_pos (show ¬ (1 : Int32) = 0 by decide), e2, bd_s, M_swell hL hk (F := va_up (va_up (va_up F 23 f23) 22 (upd (F 22) k (nI (if l + v < 140 then l + v else 140)))) 59 f59) (show F 47 k = nI l from w1.trans el) hl2 hv, bd_s]
          simp (disch := omega) only [vin_t, cond_true, nI_clamp, up_s]
          show some (upd (F 47) k _ k, _, _) = _
          rw [pk_us]
          rfl
        refine ⟨_, _, _, _, _, e1, e3, t, L, C, R, u', o', q, g, bb, hT, ⟨hL, hC, hR, e9, e10, e11, e22, e23, e24⟩, hPL, hQ, hV, ?_, ?_, hU', hM, hN⟩
        · exact SR_len hL hS hk (by split <;> omega) (by split <;> omega)
        · refine ⟨?_, ?_⟩
          · show I 25 = upd (F 22) k _ 20
            rw [pk_un (by omega)]; exact hD.1
          · show ∃ a, a < 2 ^ 31 ∧ upd (F 22) k _ 20 = nI a
            rw [pk_un (by omega)]; exact hD.2
    · refine ⟨-1000000002, I, F, I, F, ?_, ?_, h0⟩
      · unfold f_X9_gout
        rw [hasL_in hL e9 hk]
        simp only [bd_s]
        rw [if_pos (show ¬ (1 : Int32) = 0 by decide)]
        by_cases q1 : b < 1
        · rw [if_pos q1]
        · rw [if_neg q1, if_neg (fun z => hb ⟨Int32.not_lt.mp q1, z⟩)]
      · unfold f_X10_gout
        rw [isL_in hL e22 hk]
        simp only [bd_s]
        rw [if_pos (show ¬ (1 : Int32) = 0 by decide), in_c (w2 := 1) (w4 := 20) (b := 1) (c := nI 20) rfl rfl, if_neg hb, bd_s, if_neg (by decide)]
  · refine ⟨-1000000001, I, F, I, F, ?_, ?_, h0⟩
    · unfold f_X9_gout
      rw [hasL_out hL e9 ha, bd_s, if_neg (by decide)]
    · unfold f_X10_gout
      rw [isL_out hL e22 ha, bd_s, if_neg (by decide)]
