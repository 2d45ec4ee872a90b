theorem M_hof4 {I : AI} {F : AF} {j : Nat} {ko : Int32 → Int32 → AI → AF → AQ} (hj : j < 6) : ∀ (t n z : Nat), j + t < 6 → t < n → z < 2 ^ 31 → f_X10_heirOf_4 (nI j) ko n (nI z) (nI (j + t)) I F = ko (nI (z / 6 ^ t)) (nI j) I F := by
  intro t
  induction t with
  | zero =>
    intro n z h1 h2 h3
    match n, h2 with
    | n + 1, _ =>
      show f_X10_heirOf_4 (nI j) ko (n + 1) (nI z) (nI j) I F = _
      rw [f_X10_heirOf_4, if_pos (Int32.le_refl _), Nat.pow_zero, Nat.div_one]
  | succ t ih =>
    intro n z h1 h2 h3
    match n, h2 with
    | n + 1, h2 =>
      have : z / 6 ≤ z := Nat.div_le_self _ _
      rw [f_X10_heirOf_4, if_neg (show ¬ nI (j + (t + 1)) ≤ nI j by rw [nle (by omega) (by omega)]; omega), pk_div h3 (by decide) (by decide), show j + (t + 1) = (j + t) + 1 from rfl, pk_m1, ih n (z / 6) (by omega) (by omega) (by omega), Nat.div_div_eq_div_mul, ← Nat.pow_succ']
theorem M_hof {I : AI} {F : AF} {j x : Nat} (hj : j < 6) (hx : x < 2 ^ 31) : f_X10_heirOf (nI x) (nI j) I F = some (nI (x / 6 ^ (5 - j) % 6), I, F) := by
  unfold f_X10_heirOf
  have := M_hof4 (I := I) (F := F) (ko := fun v2 _ I F => some ((v2 - v2 / (nI 6) * (nI 6)), I, F)) hj (5 - j) ab_fu x (by omega) (Nat.lt_of_lt_of_le (show 5 - j < 6 by omega) (by decide)) hx
  rw [show j + (5 - j) = 5 by omega] at this
  have e : x / 6 ^ (5 - j) ≤ x := Nat.div_le_self _ _
  rw [this, pk_rem (by omega) (by decide) (by decide)]
def hr_v : Option Nat → Nat → Int32
  | some c, s => nI (s + c)
  | none, _ => -1
theorem mod_div6 (x k : Nat) : x % 6 ^ (k + 1) / 6 ^ k = x / 6 ^ k % 6 := by
  rw [Nat.pow_succ, Nat.mod_mul_right_div_self]
theorem mod_mod6 (x k : Nat) : x % 6 ^ (k + 1) % 6 ^ k = x % 6 ^ k := Nat.mod_mod_of_dvd x ⟨6, by rw [Nat.pow_succ]⟩
theorem M_aby {a x : Nat} {l : Nat → Nat} {I : AI} {F : AF} (ha : a < 64) (ea : F 47 18 = nI a) (hl : ∀ i, i < 6 → a.testBit i = true → F 47 i = nI (l i) ∧ l i ≤ 140) (hx : x < 2 ^ 31) :
    ∀ (k n s m : Nat), k ≤ 6 → k < n → m < 64 → f_X10_apartBy_7 (nI x) (fun r _ _ I F => some (r, I, F)) n (nI s) (nI m) (nI (6 - k)) I F = some (hr_v (hr_sc a l k m (x % 6 ^ k)) s, I, F) := by
  intro k
  induction k with
  | zero =>
    intro n s m h0 h1 h2
    match n, h1 with
    | n + 1, _ =>
      rw [f_X10_apartBy_7, if_pos (show nI 6 ≤ nI (6 - 0) by decide)]
      rfl
  | succ k ih =>
    intro n s m h0 h1 h2
    match n, h1 with
    | n + 1, h1 =>
      have ej : 6 - (k + 1) = 5 - k := by omega
      have hj : 5 - k < 6 := by omega
      have e1 : 5 - (5 - k) = k := by omega
      have hd : x / 6 ^ k % 6 < 6 := Nat.mod_lt _ (by decide)
      rw [ej, f_X10_apartBy_7, if_neg (show ¬ nI 6 ≤ nI (5 - k) by rw [nle (by decide) (by omega)]; omega), M_hof hj hx, e1, bd_s, M_lives ea (by omega) (show 5 - k < 9 by omega), bd_s, hr_sc, mod_div6, mod_mod6]
      cases bj : a.testBit (5 - k) with
      | true =>
        rw [if_pos rfl, if_pos rfl, if_pos (show ¬ (1 : Int32) = 0 by decide)]
        by_cases z : x / 6 ^ k % 6 = 5 - k
        · rw [if_pos (by rw [z]), if_neg (by unfold hr_fr; simp [z])]
          rfl
        · rw [if_neg (fun q => z ((nI_eq (by omega) (by omega)).mp q)), M_lives ea (by omega) (show x / 6 ^ k % 6 < 9 by omega), bd_s]
          cases bd : a.testBit (x / 6 ^ k % 6) with
          | false =>
            rw [if_neg Bool.false_ne_true, if_pos rfl, if_neg (by unfold hr_fr; simp [bd])]
            rfl
          | true =>
            rw [if_pos rfl, if_neg (show ¬ (1 : Int32) = 0 by decide), M_has (show m < 2 ^ 31 by omega) (show x / 6 ^ k % 6 < 9 by omega), bd_s]
            cases bm : m.testBit (x / 6 ^ k % 6) with
            | true =>
              rw [if_pos rfl, if_neg (show ¬ (1 : Int32) = 0 by decide), if_neg (by unfold hr_fr; simp [bm])]
              rfl
            | false =>
              have b64 := (bits64 m h2 _ hd bm).2.2
              obtain ⟨l1, l2⟩ := hl _ hj bj
              obtain ⟨l3, l4⟩ := hl _ hd bd
              rw [if_neg Bool.false_ne_true, if_pos rfl, if_pos (by unfold hr_fr; simp [bm, bd, z]), sl_k _ (by omega), n_or, lt_e, vin_t (show 5 - k < 22 by omega) (by decide), cond_true, vin_t (show x / 6 ^ k % 6 < 22 by omega) (by decide), cond_true, nI_clamp (show 5 - k < 2 ^ 31 by omega), nI_clamp (show x / 6 ^ k % 6 < 2 ^ 31 by omega), l1, l3, M_abs (by omega) (by omega), bd_s, nI_add, nI_1]
              have := ih n (s + dn (l (5 - k)) (l (x / 6 ^ k % 6))) (m ||| 2 ^ (x / 6 ^ k % 6)) (by omega) (by omega) b64
              rw [show 6 - k = 5 - k + 1 by omega] at this
              rw [this]
              cases hr_sc a l k (m ||| 2 ^ (x / 6 ^ k % 6)) (x % 6 ^ k) with
              | none => rfl
              | some c =>
                show some (nI (s + dn (l (5 - k)) (l (x / 6 ^ k % 6)) + c), I, F) = some (nI (s + (dn (l (5 - k)) (l (x / 6 ^ k % 6)) + c)), I, F)
                rw [Nat.add_assoc]
      | false =>
        rw [if_neg Bool.false_ne_true, if_neg Bool.false_ne_true, if_neg (show ¬ ¬ (0 : Int32) = 0 by decide)]
        by_cases z : x / 6 ^ k % 6 = 0
        · rw [if_pos z, z, if_pos (by decide), nI_1]
          have := ih n s m (by omega) (by omega) h2
          rw [show 6 - k = 5 - k + 1 by omega] at this
          exact this
        · rw [if_neg z, if_neg (by rw [nle0 (by omega)]; omega)]
          rfl
theorem M_h54 {a w e : Nat} {l : Nat → Nat} {v1 : Int32} {I : AI} {F : AF} {ko : Int32 → Int32 → Int32 → AI → AF → AQ} (ha : a < 64) (ea : F 47 18 = nI a) (hl : ∀ i, i < 6 → a.testBit i = true → F 47 i = nI (l i) ∧ l i ≤ 140) (hlb : ∀ c, a.testBit c = true → l c ≤ 140) (hw : hr_1 a l 6 0 w) (he : hr_W a l 6 0 = e) (he6 : e < 1000000) :
    ∀ (t x n : Nat) (v2 v3 : Int32), x + t = 46656 → t < n → ((x ≤ w ∧ ∃ z, e < z ∧ z ≤ 1000000 ∧ v3 = nI z) ∨ (w < x ∧ v2 = nI w ∧ v3 = nI e)) → f_X10_heirs_54 v1 ko n v2 v3 (nI x) I F = ko (nI w) (nI e) (nI 46656) I F := by
  obtain ⟨w1, w2, w3⟩ := hw
  have p6 : 6 ^ 6 = 46656 := by decide
  rw [p6] at w1
  rw [he] at w2 w3
  intro t
  induction t with
  | zero =>
    intro x n v2 v3 h1 h2 h3
    match n, h2 with
    | n + 1, _ =>
      have : x = 46656 := by omega
      subst this
      rw [f_X10_heirs_54, if_pos (Int32.le_refl _)]
      rcases h3 with h3 | ⟨-, h4, h5⟩
      · omega
      · rw [h4, h5]
  | succ t ih =>
    intro x n v2 v3 h1 h2 h3
    match n, h2 with
    | n + 1, h2 =>
      have k : f_X10_apartBy (nI x) I F = some (hr_v (hr_sc a l 6 0 x) 0, I, F) := by
        have := M_aby (I := I) ha ea hl (show x < 2 ^ 31 by omega) 6 ab_fu 0 0 (by decide) (by decide) (by decide)
        rw [p6, Nat.mod_eq_of_lt (show x < 46656 by omega), nI_0] at this
        exact this
      rw [f_X10_heirs_54, if_neg (show ¬ nI 46656 ≤ nI x by rw [nle (by decide) (by omega)]; omega), k, bd_s]
      have j85 : ∀ (v5 : Int32), f_X10_heirs_j85_54 (f_X10_heirs_54 v1 ko n) ko v1 v2 v3 (nI x) v5 I F = f_X10_heirs_54 v1 ko n v2 v3 (nI (x + 1)) I F := by
        intro v5
        rw [f_X10_heirs_j85_54, if_pos rfl, if_pos rfl, nI_1]
      rw [j85, if_neg (show ¬ (1 : Int32) = 0 by decide), if_neg (show ¬ (1 : Int32) = 0 by decide), nI_1]
      cases hs : hr_sc a l 6 0 x with
      | none =>
        rw [show hr_v none 0 = -1 from rfl, if_pos (by decide)]
        refine ih (x + 1) n v2 v3 (by omega) (by omega) ?_
        rcases h3 with ⟨h3, h4⟩ | ⟨h3, h4⟩
        · refine Or.inl ⟨?_, h4⟩
          by_cases q : x = w
          · rw [q, w2] at hs
            exact absurd hs (by simp)
          · omega
        · exact Or.inr ⟨by omega, h4⟩
      | some c =>
        have cb := sc_bd hlb 6 0 x c hs
        rw [show hr_v (some c) 0 = nI (0 + c) from rfl, Nat.zero_add, if_neg (nI_pos (by omega))]
        rcases h3 with ⟨h3, z, z1, z2, z3⟩ | ⟨h3, h4, h5⟩
        · subst z3
          by_cases q : x = w
          · subst q
            have : e = c := by
              rw [w2] at hs
              exact Option.some.inj hs
            subst this
            rw [if_neg (fun q => by have := (nI_leI (by omega) (by omega)).mp q; omega)]
            exact ih (x + 1) n _ _ (by omega) (by omega) (Or.inr ⟨by omega, rfl, rfl⟩)
          · have ec := w3 x (by omega) c hs
            by_cases y : z ≤ c
            · rw [if_pos ((nI_leI (by omega) (by omega)).mpr y)]
              exact ih (x + 1) n _ _ (by omega) (by omega) (Or.inl ⟨by omega, z, z1, z2, rfl⟩)
            · rw [if_neg (fun q => y ((nI_leI (by omega) (by omega)).mp q))]
              exact ih (x + 1) n _ _ (by omega) (by omega) (Or.inl ⟨by omega, c, by omega, by omega, rfl⟩)
        · have ec := W_le a l 6 0 x c (by rw [p6]; omega) hs
          rw [he] at ec
          rw [h5, if_pos ((nI_leI (by omega) (by omega)).mpr ec)]
          exact ih (x + 1) n _ _ (by omega) (by omega) (Or.inr ⟨by omega, h4, rfl⟩)
theorem lt_bit {a L i : Nat} (ha : a < 2 ^ L) (h : a.testBit i = true) : i < L := by
  refine Nat.lt_of_not_le (fun q => ?_)
  have : a < 2 ^ i := Nat.lt_of_lt_of_le ha (Nat.pow_le_pow_right (by decide) q)
  rw [Nat.testBit_lt_two_pow this] at h
  exact Bool.false_ne_true h
/-- the class's search of heirs -/
theorem hr_X {a L : Nat} {l : Nat → Nat} {I : AI} {F : AF} (hL : L ≤ 6) (ha : a < 2 ^ L) (ea : F 22 18 = nI a) (hl : ∀ i, i < 6 → a.testBit i = true → F 22 i = nI (l i) ∧ l i ≤ 140) (h2 : 2 ≤ pcn a 6) :
    ∃ g5 g6 g7 w, f_X1_search I F = some (0, va_up I 21 (nI (pcn a 6)), hw F g5 g6 g7) ∧ hr_1 a l 6 0 w ∧ hr_W a l 6 0 < 1000000 ∧ g5 0 = nI (hr_W a l 6 0) ∧ (∀ i, i < 6 → a.testBit i = true → g6 i = nI (w / 6 ^ (5 - i) % 6)) ∧ ∀ i, i < 6 → ¬ a.testBit i = true → g6 i = -1 := by
  have ha6 : a < 64 := Nat.lt_of_lt_of_le ha (Nat.pow_le_pow_right (by decide) hL)
  have hlb : ∀ c, a.testBit c = true → l c ≤ 140 := fun c q => (hl c (by have := lt_bit ha q; omega) q).2
  have hW := W_fs hlb 6 0 (hr_fs_all a ha6 h2)
  obtain ⟨g6, g7, s1, s2, s3⟩ := hr_s7 (I := I) (g5 := F 35) (ko := fun _ I F => f_X1_search_57 (fun _ I F => ab_bd (f_X1_chooseAll I F) (fun _ I F => some (0, I, F))) ab_fu (nI 63) I F) ea (by omega) 6 0 ab_fu (F 36) (F 37) rfl (by decide) (fun i q => absurd q (Nat.not_lt_zero i)) (fun i q => absurd q (Nat.not_lt_zero i))
  have hT : ∀ g5 g6', HT a l (va_up I 21 (nI (pcn a 6))) (hw F g5 g6' g7) := fun g5 g6' => ⟨ha6, up_s, fun i q1 q2 => ⟨s3 i q1 q2, hl i q1 q2⟩⟩
  obtain ⟨g5, t1, t2⟩ := hr_57 (ko := fun _ I F => ab_bd (f_X1_chooseAll I F) (fun _ I F => some (0, I, F))) (fun g5 => hT g5 g6) ea 63 ab_fu (F 35) (by decide) (by decide) (fun m q1 q2 => by omega)
  obtain ⟨w, g6', u1, u2, u3, u4⟩ := hr_all (fun g => hT g5 g) t2 6 ab_fu 0 g6 (Nat.le_refl 6) (by decide) (by decide) (Nat.zero_and a) rfl (by omega)
  refine ⟨g5, g6', g7, w, ?_, u1, by omega, ?_, ?_, ?_⟩
  · unfold f_X1_search
    rw [lt_e]
    rw [hw_id, nI_0, show pcn a 0 = 0 from rfl, nI_0] at s1
    refine s1.trans ?_
    refine t1.trans ?_
    have e : f_X1_chooseAll (va_up I 21 (nI (pcn a 6))) (hw F g5 g6 g7) = some (0, va_up I 21 (nI (pcn a 6)), hw F g5 g6' g7) := by
      rw [nI_0, show pcn a (6 - 6) = 0 from rfl, nI_0] at u2
      exact u2
    show ab_bd (f_X1_chooseAll (va_up I 21 (nI (pcn a 6))) (hw F g5 g6 g7)) _ = _
    rw [e, bd_s]
  · exact t2 0 (by decide) (Nat.zero_and a) 0 (by decide) rfl
  · intro i q1 q2
    exact u3 i (Nat.zero_le i) q1 q2
  · intro i q1 q2
    rw [u4 i (Or.inr q2), s2 i q1]
theorem sim_heirs (v1 : Int32) : ab_Sim Inv (f_X9_heirs v1) (f_X10_heirs v1) := by
  intro I F h
  have h0 := h
  obtain ⟨t, L, C, R, u, o, q, g, bb, hT, ⟨hL, hC, hR, e9, e10, e11, e22, e23, e24⟩, hPL, hQ, hV, hS, hD, hU, hM, hN⟩ := h
  obtain ⟨al, s, ha1, ea, ea2, hs1, es, -⟩ := SR_a hS
  have ha31 := pow31 hL ha1
  have one : ¬ (1 : Int32) = 0 := by decide
  have ha6 : al < 64 := Nat.lt_of_lt_of_le ha1 (Nat.pow_le_pow_right (by decide) hL)
  have p6 := pcn6 al 6 (by omega)
  have hl : ∀ i, i < 6 → al.testBit i = true → (F 22 i = nI (nv (F 22) i) ∧ nv (F 22) i ≤ 140) ∧ F 47 i = F 22 i := by
    intro i _ hi
    obtain ⟨k1, a, a1, a2, a3⟩ := hS.1 i (lt_bit ha1 hi)
    unfold nv
    rw [a3, nI_clamp (by omega)]
    exact ⟨⟨rfl, a2⟩, k1.trans a3⟩
  have hl1 : ∀ i, i < 6 → al.testBit i = true → F 22 i = nI (nv (F 22) i) ∧ nv (F 22) i ≤ 140 := fun i q1 q2 => (hl i q1 q2).1
  have hl2 : ∀ i, i < 6 → al.testBit i = true → F 47 i = nI (nv (F 22) i) ∧ nv (F 22) i ≤ 140 := fun i q1 q2 => ⟨(hl i q1 q2).2.trans (hl i q1 q2).1.1, (hl i q1 q2).1.2⟩
  have hlb : ∀ c, al.testBit c = true → nv (F 22) c ≤ 140 := fun c q => (hl1 c (by have := lt_bit ha1 q; omega) q).2
  by_cases hv : v1 = -1 ∨ ∃ k, k < L ∧ v1 = nI k
  · -- both go into the middle
    have mid : ∃ r I1 F1, f_X9_heirs_j19 v1 I F = some (r, I1, F1) ∧ f_X10_heirs_j16 v1 I1 F1 = some (r, I1, F1) ∧ Inv I1 F1 ∧ I1 22 = I 22 := by
      by_cases h2 : 2 ≤ pcn al 6
      · obtain ⟨g5, g6, g7, w, x1, x2, x3, x4, x5, x6⟩ := hr_X (I := I) hL ha1 ea hl1 h2
        have k := fun (v1 : Int32) (ko : Int32 → Int32 → Int32 → AI → AF → AQ) => M_h54 (v1 := v1) (I := va_up I 21 (nI (pcn al 6))) (F := hw F g5 g6 g7) (ko := ko) ha6 ea2 hl2 hlb x2 rfl x3 46656 0 ab_fu (-1) (nI 1000000) rfl (by decide) (Or.inl ⟨Nat.zero_le _, 1000000, x3, Nat.le_refl _, rfl⟩)
        have w6 : w < 46656 := x2.1
        rcases hv with rfl | ⟨j, hj, rfl⟩
        · refine ⟨nI (hr_W al (nv (F 22)) 6 0), va_up I 21 (nI (pcn al 6)), hw F g5 g6 g7, ?_, ?_, h0, rfl⟩
          · unfold f_X9_heirs_j19 f_X8_living
            rw [bd_s, ea, X_bc ha6, bd_s, if_pos ((nI_leI (by decide) (by omega)).mpr h2), x1, bd_s, if_neg (not_not_intro rfl)]
            unfold f_X1_apartTogether
            rw [bd_s, hw_r5, x4]
          · unfold f_X10_heirs_j16
            rw [show (hw F g5 g6 g7) 47 18 = nI al from ea2, M_bits ha31, bd_s, if_neg (fun q => by have := (nI_ltI (by omega) (by decide)).mp q; omega), if_pos rfl, ← nI_0, k]
            rw [if_neg (not_not_intro rfl)]
        · have nj : ¬ nI j = -1 := by rw [nm1 (by omega)]; exact id
          have X : f_X9_heirs_j19 (nI j) I F = some (g6 j, va_up I 21 (nI (pcn al 6)), hw F g5 g6 g7) := by
            unfold f_X9_heirs_j19 f_X8_living
            rw [bd_s, ea, X_bc ha6, bd_s, if_pos ((nI_leI (by decide) (by omega)).mpr h2), x1, bd_s, if_pos nj, vin_t (show j < 6 by omega) (by decide), cond_true, nI_clamp (by omega), hw_r6]
          cases bj : al.testBit j with
          | true =>
            refine ⟨nI (w / 6 ^ (5 - j) % 6), va_up I 21 (nI (pcn al 6)), hw F g5 g6 g7, ?_, ?_, h0, rfl⟩
            · rw [X, x5 j (by omega) bj]
            · unfold f_X10_heirs_j16
              rw [show (hw F g5 g6 g7) 47 18 = nI al from ea2, M_bits ha31, bd_s, if_neg (fun q => by have := (nI_ltI (by omega) (by decide)).mp q; omega), if_neg nj, M_lives (F := hw F g5 g6 g7) ea2 ha31 (show j < 9 by omega), bj, if_pos rfl, bd_s, if_pos one, ← nI_0, k]
              rw [if_pos nj, M_hof (show j < 6 by omega) (show w < 2 ^ 31 by omega), bd_s]
          | false =>
            refine ⟨-1, va_up I 21 (nI (pcn al 6)), hw F g5 g6 g7, ?_, ?_, h0, rfl⟩
            · rw [X, x6 j (by omega) (by rw [bj]; exact Bool.false_ne_true)]
            · unfold f_X10_heirs_j16
              rw [show (hw F g5 g6 g7) 47 18 = nI al from ea2, M_bits ha31, bd_s, if_neg (fun q => by have := (nI_ltI (by omega) (by decide)).mp q; omega), if_neg nj, M_lives (F := hw F g5 g6 g7) ea2 ha31 (show j < 9 by omega), bj, if_neg Bool.false_ne_true, bd_s, if_neg (show ¬ ¬ (0 : Int32) = 0 by decide)]
      · refine ⟨-1, I, F, ?_, ?_, h0, rfl⟩
        · unfold f_X9_heirs_j19 f_X8_living
          rw [bd_s, ea, X_bc ha6, bd_s, if_neg (fun q => h2 ((nI_leI (by decide) (by omega)).mp q))]
        · unfold f_X10_heirs_j16
          rw [ea2, M_bits ha31, bd_s, if_pos ((nI_ltI (by omega) (by decide)).mpr (by omega))]
    obtain ⟨r, I1, F1, m1, m2, m3, m4⟩ := mid
    refine ⟨r, I1, F1, I1, F1, ?_, ?_, m3⟩
    · unfold f_X9_heirs
      rcases hv with rfl | ⟨j, hj, rfl⟩
      · rw [if_pos rfl, m1]
      · rw [if_neg (by rw [nm1 (by omega)]; exact id), hasL_in hL e9 hj, bd_s, if_pos one, m1]
    · unfold f_X10_heirs
      rcases hv with rfl | ⟨j, hj, rfl⟩
      · rw [if_pos rfl, m2]
      · rw [if_neg (by rw [nm1 (by omega)]; exact id), isL_in hL (m4.trans e22) hj, bd_s, if_pos one, m2]
  · rcases i_cs v1 (n := L) (by omega) with hk | hx
    · exact absurd (Or.inr hk) hv
    · refine ⟨-1000000001, I, F, I, F, ?_, ?_, h0⟩
      · unfold f_X9_heirs
        rw [if_neg (fun q => hv (Or.inl q)), hasL_out hL e9 hx, bd_s, if_neg (by decide)]
      · unfold f_X10_heirs
        rw [if_neg (fun q => hv (Or.inl q)), isL_out hL e22 hx, bd_s, if_neg (by decide)]
