/-- both searches from rows of m on: one answer -/
theorem ring_both {R : Nat} {fr tt gv gt : Nat → Nat} {I : AI} {F : AF} (hV : RV R fr tt gv gt (F 18) (F 19) (F 20) (F 21)) (e11 : I 11 = nI R) :
    ∀ (t m n n' : Nat) (g : Nat → Int32) (w : Int32), m + t = 5 → 2 ≤ m → t < n → t < n' →
      (∃ m' x g', 2 ≤ m' ∧ m' ≤ 4 ∧ x < 8 ^ m' ∧ rg_good R fr tt gv gt m' x ∧ (∀ j, j < m' → g' j = nI (rg_dg m' x j)) ∧ f_X7_search_2 (fun _ I F => some (0, (va_up I 20 (0 : Int32)), F)) n (nI m) (va_up I 20 w) (va_up F 34 g) = some (0, va_up I 20 (nI m'), va_up F 34 g') ∧
        ∀ (I' : AI) (F' : AF) (w' : Int32), RV R fr tt gv gt (F' 43) (F' 44) (F' 45) (F' 46) → I' 24 = nI R → f_X10_findRing_2 (fun _ I F => some (-1, I, F)) n' (nI m) (va_up I' 36 w') F' = some (nI x, va_up I' 36 (nI m'), F')) ∨
      (∃ g', f_X7_search_2 (fun _ I F => some (0, (va_up I 20 (0 : Int32)), F)) n (nI m) (va_up I 20 w) (va_up F 34 g) = some (0, va_up I 20 0, va_up F 34 g') ∧
        ∀ (I' : AI) (F' : AF) (w' : Int32), RV R fr tt gv gt (F' 43) (F' 44) (F' 45) (F' 46) → I' 24 = nI R → ∃ w2, f_X10_findRing_2 (fun _ I F => some (-1, I, F)) n' (nI m) (va_up I' 36 w') F' = some (-1, va_up I' 36 w2, F')) := by
  intro t
  induction t with
  | zero =>
    intro m n n' g w h1 h2 h3 h4
    match n, n', h3, h4 with
    | n + 1, n' + 1, _, _ =>
      have : m = 5 := by omega
      subst this
      refine Or.inr ⟨g, ?_, ?_⟩
      · rw [f_X7_search_2, if_pos (by decide), up_uu]
      · intro I' F' w' _ _
        exact ⟨w', by rw [f_X10_findRing_2, if_pos (by decide)]⟩
  | succ t ih =>
    intro m n n' g w h1 h2 h3 h4
    match n, n', h3, h4 with
    | n + 1, n' + 1, h3, h4 =>
      have hm4 : m ≤ 4 := by omega
      have h8 : 8 ^ m ≤ 4096 := Nat.le_trans (Nat.pow_le_pow_right (by decide) hm4) (by decide)
      have h8' : 0 < 8 ^ m := Nat.pow_pos (by decide)
      have q := rg_ext (I := va_up I 20 (nI m)) hV up_s ((up_n (by decide)).trans e11) hm4 (m - 1) 8 0 0 g (by omega) (by omega) (fun j q => absurd q (Nat.not_lt_zero j)) trivial
      rw [show rg_mk fr (rg_dg 0 0) 0 = 0 from rfl, show rg_pr gv (rg_dg 0 0) 0 = 1 from rfl, show rg_pr gt (rg_dg 0 0) 0 = 1 from rfl, nI_0, show nI 1 = 1 from rfl, show m - 1 + 1 = m by omega] at q
      have k := fun (I' : AI) (F' : AF) (hV' : RV R fr tt gv gt (F' 43) (F' 44) (F' 45) (F' 46)) (e24 : I' 24 = nI R) (ko : Int32 → AI → AF → AQ) => M_rows (I := va_up I' 36 (nI m)) (ko := ko) hV' ((up_n (by decide)).trans e24) hm4 (by omega) (8 ^ m) 0 ab_fu (by omega) (Nat.lt_of_le_of_lt h8 (by decide)) (fun y q => absurd q (Nat.not_lt_zero y))
      rw [f_X7_search_2, if_neg (show ¬ nI 4 < nI m by rw [nlt (by decide) (by omega)]; omega), up_uu, lt_e]
      have e8 : f_X7_extend = f_X7_extend_n 8 := rfl
      rcases q with ⟨g2, r1, -, r3⟩ | ⟨g2, x, r1, r2, r3, r4, r5⟩
      · rw [e8, r1, bd_s, if_pos rfl, nI_1]
        have nogood : ∀ y, y < 8 ^ m → ¬ rg_good R fr tt gv gt m y := fun y hy => r3 y (Nat.div_eq_of_lt hy)
        have stepM : ∀ (I' : AI) (F' : AF) (w' : Int32), RV R fr tt gv gt (F' 43) (F' 44) (F' 45) (F' 46) → I' 24 = nI R → f_X10_findRing_2 (fun _ I F => some (-1, I, F)) (n' + 1) (nI m) (va_up I' 36 w') F' = f_X10_findRing_2 (fun _ I F => some (-1, I, F)) n' (nI (m + 1)) (va_up I' 36 (nI m)) F' := by
          intro I' F' w' a1 a2
          rw [f_X10_findRing_2, if_neg (show ¬ nI 5 ≤ nI m by rw [nle (by decide) (by omega)]; omega), up_uu, lt_e]
          have := k I' F' a1 a2 (fun _ I F => f_X10_findRing_2 (fun _ I F => some (-1, I, F)) n' (nI m + 1) I F)
          rw [nI_0] at this
          rcases this with ⟨y, y1, y2, -⟩ | ⟨-, y2⟩
          · exact absurd y2 (nogood y y1)
          · rw [y2, nI_1]
        rcases ih (m + 1) n n' g2 (nI m) (by omega) (by omega) (by omega) (by omega) with ⟨m', x, g', a1, a2, a3, a4, a5, a6, a7⟩ | ⟨g', a6, a7⟩
        · refine Or.inl ⟨m', x, g', a1, a2, a3, a4, a5, a6, ?_⟩
          intro I' F' w' b1 b2
          rw [stepM I' F' w' b1 b2, a7 I' F' (nI m) b1 b2]
        · refine Or.inr ⟨g', a6, ?_⟩
          intro I' F' w' b1 b2
          rw [stepM I' F' w' b1 b2]
          exact a7 I' F' (nI m) b1 b2
      · have hx : x < 8 ^ m := by
          rcases (Nat.div_eq_zero_iff).mp r2 with z | z
          · omega
          · exact z
        rw [e8, r1, bd_s, if_neg (show ¬ (1 : Int32) = 0 by decide)]
        refine Or.inl ⟨m, x, g2, h2, hm4, hx, r3, r5, rfl, ?_⟩
        intro I' F' w' b1 b2
        rw [f_X10_findRing_2, if_neg (show ¬ nI 5 ≤ nI m by rw [nle (by decide) (by omega)]; omega), up_uu, lt_e]
        have := k I' F' b1 b2 (fun _ I F => f_X10_findRing_2 (fun _ I F => some (-1, I, F)) n' (nI m + 1) I F)
        rw [nI_0] at this
        rcases this with ⟨y, y1, y2, y3, y4⟩ | ⟨y1, -⟩
        · have : y = x := by
            rcases Nat.lt_trichotomy y x with z | z | z
            · exact absurd y2 (r4 y z (Nat.div_eq_of_lt y1))
            · exact z
            · exact absurd r3 (y3 x z)
          subst this
          exact y4
        · exact absurd r3 (y1 x hx)
/-- what the two searches leave -/
theorem ring_two {I : AI} {F : AF} (h : Inv I F) : ∃ (R : Nat) (fr tt gv gt : Nat → Nat) (I1 : AI) (F1 : AF) (I2 : AI), f_X7_search I F = some (0, I1, F1) ∧ Inv I1 F1 ∧ Inv I2 F1 ∧ RV R fr tt gv gt (F1 18) (F1 19) (F1 20) (F1 21) ∧ RV R fr tt gv gt (F1 43) (F1 44) (F1 45) (F1 46) ∧ 
    ((∃ m x, 2 ≤ m ∧ m ≤ 4 ∧ x < 8 ^ m ∧ rg_good R fr tt gv gt m x ∧ (∀ j, j < m → F1 34 j = nI (rg_dg m x j)) ∧ I1 20 = nI m ∧ I2 36 = nI m ∧ f_X10_findRing I1 F1 = some (nI x, I2, F1)) ∨ (I1 20 = 0 ∧ f_X10_findRing I1 F1 = some (-1, I2, F1))) := by
  have h0 := h
  obtain ⟨t, L, C, R, u, o, q, g, bb, hT, ⟨hL, hC, hR, e9, e10, e11, e22, e23, e24⟩, hPL, hQ, hV, hS, hD, hU, hM, hN⟩ := h
  obtain ⟨v1, v2⟩ := RV_of hL hR hV
  have k := ring_both v1 e11 3 2 ab_fu ab_fu (F 34) (I 20) rfl (by decide) (by decide) (by decide)
  rw [up_id, up_id] at k
  rcases k with ⟨m, x, g', a1, a2, a3, a4, a5, a6, a7⟩ | ⟨g', a6, a7⟩
  · have b := a7 (va_up I 20 (nI m)) (va_up F 34 g') ((va_up I 20 (nI m)) 36) v2 ((up_n (by decide)).trans e24)
    rw [up_id] at b
    exact ⟨R, _, _, _, _, va_up I 20 (nI m), va_up F 34 g', va_up (va_up I 20 (nI m)) 36 (nI m), a6, h0, h0, v1, v2, Or.inl ⟨m, x, a1, a2, a3, a4, a5, up_s, up_s, b⟩⟩
  · obtain ⟨w2, b⟩ := a7 (va_up I 20 0) (va_up F 34 g') ((va_up I 20 0) 36) v2 ((up_n (by decide)).trans e24)
    rw [up_id] at b
    exact ⟨R, _, _, _, _, va_up I 20 0, va_up F 34 g', va_up (va_up I 20 0) 36 w2, a6, h0, h0, v1, v2, Or.inr ⟨up_s, b⟩⟩
theorem sim_ring (a : Int32) : ab_Sim Inv (f_X9_ring a) (f_X10_ring a) := by
  intro I F h
  obtain ⟨R, fr, tt, gv, gt, I1, F1, I2, s1, i1, i2, v1, v2, hh⟩ := ring_two h
  rcases hh with ⟨m, x, m1, m2, hx, hg, hd, e20, e36, s2⟩ | ⟨e20, s2⟩
  · have h8 : 8 ^ m ≤ 4096 := Nat.le_trans (Nat.pow_le_pow_right (by decide) m2) (by decide)
    by_cases za : a = -1
    · refine ⟨nI m, I1, F1, I2, F1, ?_, ?_, i2⟩
      · unfold f_X9_ring
        rw [s1, bd_s, e20, if_pos (show ¬ nI m = 0 by rw [n0eq (by omega)]; omega), if_neg (not_not_intro za)]
      · unfold f_X10_ring
        rw [s2, bd_s, if_neg (nI_pos (by omega)), if_neg (not_not_intro za), if_pos (nI_pos' (by omega)), e36]
    · rcases i_cs a (n := m) (by omega) with ⟨k, hk, rfl⟩ | ha
      · refine ⟨nI (rg_dg m x k), I1, F1, I2, F1, ?_, ?_, i2⟩
        · unfold f_X9_ring
          rw [s1, bd_s, e20, if_pos (show ¬ nI m = 0 by rw [n0eq (by omega)]; omega), if_pos za, if_neg (nI_pos (by omega)), if_pos (show nI k < nI m by rw [nlt (by omega) (by omega)]; omega), vin_t (show k < 4 by omega) (by decide), cond_true, nI_clamp (by omega), hd k hk]
        · unfold f_X10_ring
          rw [s2, bd_s, if_neg (nI_pos (by omega)), if_pos za, in_in (L := m) (by omega) e36 hk, bd_s, if_neg (show ¬ (1 : Int32) = 0 by decide), e36, M_fig m2 (by omega) hk, bd_s]
      · refine ⟨-1, I1, F1, I2, F1, ?_, ?_, i2⟩
        · unfold f_X9_ring
          rw [s1, bd_s, e20, if_pos (show ¬ nI m = 0 by rw [n0eq (by omega)]; omega), if_pos za]
          rcases ha with ha | ⟨k, k1, k2, rfl⟩
          · rw [if_pos ha]
          · rw [if_neg (nI_pos k2), if_neg (show ¬ nI k < nI m by rw [nlt (by omega) (by omega)]; omega)]
        · unfold f_X10_ring
          rw [s2, bd_s, if_neg (nI_pos (by omega)), if_pos za, in_out (L := m) (by omega) e36 ha, bd_s, if_pos rfl]
  · refine ⟨-1, I1, F1, I2, F1, ?_, ?_, i2⟩
    · unfold f_X9_ring
      rw [s1, bd_s, e20, if_neg (by decide)]
    · unfold f_X10_ring
      rw [s2, bd_s, if_pos (show (-1 : Int32) < 0 by decide), if_neg (show ¬ (0 : Int32) ≤ -1 by decide)]
def rg_g2 (gt : Nat → Nat) (e i : Nat) : Nat := if i = e then (if gt i ≤ 1 then gt i else gt i - 1) else gt i
theorem X_gain {R m x j : Nat} {fr tt gv gt : Nat → Nat} {I : AI} {F : AF} (hV : RV R fr tt gv gt (F 18) (F 19) (F 20) (F 21)) (e20 : I 20 = nI m) (hm : m ≤ 4) (hj : j < m) (hd : ∀ j, j < m → F 34 j = nI (rg_dg m x j)) (hk : rg_ok R fr tt (rg_dg m x) m) :
    f_X7_gainsWithLess (nI j) I F = some ((if rg_pr gv (rg_dg m x) m < rg_pr (rg_g2 gt (rg_dg m x j)) (rg_dg m x) m then 1 else 0), I, F) := by
  obtain ⟨hR, hV⟩ := hV
  have hs : ∀ i, i < m → rg_dg m x i < R := fun i q => (rg_ok_get hk q).1
  have b2 : ∀ i, i < R → rg_g2 gt (rg_dg m x j) i ≤ 20 := by
    intro i hi
    obtain ⟨-, -, -, ⟨-, d2, d3⟩⟩ := hV i hi
    unfold rg_g2
    split
    · split <;> omega
    · exact d3
  have key : ∀ (t i n : Nat) (ko : Int32 → Int32 → Int32 → AI → AF → AQ), i + t = m → t < n → f_X7_gainsWithLess_8 (nI j) ko n (nI (rg_pr gv (rg_dg m x) i)) (nI (rg_pr (rg_g2 gt (rg_dg m x j)) (rg_dg m x) i)) (nI i) I F = ko (nI (rg_pr gv (rg_dg m x) m)) (nI (rg_pr (rg_g2 gt (rg_dg m x j)) (rg_dg m x) m)) (nI m) I F := by
    intro t
    induction t with
    | zero =>
      intro i n ko h1 hn
      match n, hn with
      | n + 1, _ =>
        have : i = m := by omega
        subst this
        rw [f_X7_gainsWithLess_8, e20, if_pos (Int32.le_refl _)]
    | succ t ih =>
      intro i n ko h1 hn
      match n, hn with
      | n + 1, hn =>
        have hi : i < m := by omega
        have hr := hs i hi
        obtain ⟨-, -, ⟨c1, c2, c3⟩, ⟨d1, d2, d3⟩⟩ := hV _ hr
        have k := ih (i + 1) n ko (by omega) (by omega)
        rw [rg_pr, rg_pr] at k
        rw [f_X7_gainsWithLess_8, e20, if_neg (show ¬ nI m ≤ nI i by rw [nle (by omega) (by omega)]; omega), vin_t (show i < 4 by omega) (by decide), cond_true, nI_clamp (show i < 2 ^ 31 by omega), hd i hi, vin_t (rg_dg_lt m x i) (by decide), cond_true, nI_clamp (show rg_dg m x i < 2 ^ 31 by omega), lt_e, cond_true, cond_true, c1, d1, pk_mul, lt_e, pk_mul, nI_1]
        by_cases z : i = j
        · subst z
          have e : (if (1 : Int32) < nI (gt (rg_dg m x i)) - 1 then nI (gt (rg_dg m x i)) - 1 else 1) = nI (rg_g2 gt (rg_dg m x i) (rg_dg m x i)) := by
            rw [show nI (gt (rg_dg m x i)) - 1 = nI (gt (rg_dg m x i) - 1) from pk_sub (b := 1) (by omega)]
            unfold rg_g2
            rw [if_pos rfl]
            by_cases w : 1 < gt (rg_dg m x i) - 1
            · rw [if_pos (show (1 : Int32) < nI (gt (rg_dg m x i) - 1) from (nI_ltI (a := 1) (by decide) (by omega)).mpr w), if_neg (by omega)]
            · rw [if_neg (show ¬ (1 : Int32) < nI (gt (rg_dg m x i) - 1) from fun q => w ((nI_ltI (a := 1) (by decide) (by omega)).mp q))]
              by_cases w2 : gt (rg_dg m x i) ≤ 1
              · rw [if_pos w2, show gt (rg_dg m x i) = 1 by omega]
                rfl
              · rw [if_neg w2, show gt (rg_dg m x i) - 1 = 1 by omega]
                rfl
          rw [if_neg (not_not_intro rfl), e, pk_mul, lt_e, k]
        · have e : rg_g2 gt (rg_dg m x j) (rg_dg m x i) = gt (rg_dg m x i) := if_neg (fun q => z (rg_inj hk hi hj q))
          rw [e] at k
          rw [if_pos (fun q => z ((nI_eq (by omega) (by omega)).mp q)), k]
  unfold f_X7_gainsWithLess
  have p1 : rg_pr gv (rg_dg m x) m ≤ 160000 := rg_pr_b hm (fun j q => (hV _ (hs j q)).2.2.1.2.2)
  have p2 : rg_pr (rg_g2 gt (rg_dg m x j)) (rg_dg m x) m ≤ 160000 := rg_pr_b hm (fun j q => b2 _ (hs j q))
  have := key m 0 ab_fu (fun v3 v4 _ I F => if v4 ≤ v3 then some ((0 : Int32), I, F) else some ((1 : Int32), I, F)) (by omega) (Nat.lt_of_le_of_lt hm (by decide))
  rw [show rg_pr gv (rg_dg m x) 0 = 1 from rfl, show rg_pr (rg_g2 gt (rg_dg m x j)) (rg_dg m x) 0 = 1 from rfl, nI_0] at this
  refine this.trans ?_
  by_cases z : rg_pr (rg_g2 gt (rg_dg m x j)) (rg_dg m x) m ≤ rg_pr gv (rg_dg m x) m
  · rw [if_pos ((nI_leI (by omega) (by omega)).mpr z), if_neg (by omega)]
  · rw [if_neg (fun q => z ((nI_leI (by omega) (by omega)).mp q)), if_pos (by omega)]
theorem mend_l {R m x : Nat} {fr tt gv gt : Nat → Nat} {I1 I2 : AI} {F : AF} (v1 : RV R fr tt gv gt (F 18) (F 19) (F 20) (F 21)) (v2 : RV R fr tt gv gt (F 43) (F 44) (F 45) (F 46)) (hm : m ≤ 4) (hx : x < 2 ^ 31) (hd : ∀ j, j < m → F 34 j = nI (rg_dg m x j)) (hk : rg_ok R fr tt (rg_dg m x) m) (e20 : I1 20 = nI m) (e36 : I2 36 = nI m) :
    ∀ (t j n n' : Nat) (v : Int32), j + t = m → t < n → t < n' → (v = -1 ∨ ∃ e, e < 8 ∧ v = nI e) → ∃ r, f_X7_leastMending_4 (fun r _ I F => some (r, I, F)) n v (nI j) I1 F = some (r, I1, F) ∧ f_X10_mended_9 (nI x) (fun r _ I F => some (r, I, F)) n' v (nI j) I2 F = some (r, I2, F) := by
  intro t
  induction t with
  | zero =>
    intro j n n' v h1 h2 h3 h4
    match n, n', h2, h3 with
    | n + 1, n' + 1, _, _ =>
      have : j = m := by omega
      subst this
      exact ⟨v, by rw [f_X7_leastMending_4, e20, if_pos (Int32.le_refl _)], by rw [f_X10_mended_9, e36, if_pos (Int32.le_refl _)]⟩
  | succ t ih =>
    intro j n n' v h1 h2 h3 h4
    match n, n', h2, h3 with
    | n + 1, n' + 1, h2, h3 =>
      have hj : j < m := by omega
      have l8 := rg_dg_lt m x j
      have xg := X_gain (I := I1) v1 e20 hm hj hd hk
      have mg := M_gain (I := I2) (g2 := rg_g2 gt (rg_dg m x j)) (v3 := nI (rg_dg m x j)) v2 hm hx (fun i q => (rg_ok_get hk q).1) (by
        intro i hi
        have := v2.1
        unfold rg_g2
        rw [neq (by omega) (by omega)]
        exact ⟨fun q => if_neg q, fun q => if_pos q⟩)
      have s1 := ih (j + 1) n n' v (by omega) (by omega) (by omega) h4
      have s2 := ih (j + 1) n n' (nI (rg_dg m x j)) (by omega) (by omega) (by omega) (Or.inr ⟨_, l8, rfl⟩)
      rw [f_X7_leastMending_4, f_X10_mended_9, e20, e36, if_neg (show ¬ nI m ≤ nI j by rw [nle (by omega) (by omega)]; omega), if_neg (show ¬ nI m ≤ nI j by rw [nle (by omega) (by omega)]; omega), if_neg (nI_pos hx), M_fig hm hx hj, bd_s, e36, mg, bd_s, xg, bd_s, vin_t (show j < 4 by omega) (by decide), cond_true, cond_true, nI_clamp (show j < 2 ^ 31 by omega), hd j hj, nI_1]
      by_cases z : rg_pr gv (rg_dg m x) m < rg_pr (rg_g2 gt (rg_dg m x j)) (rg_dg m x) m
      · rw [if_pos z, if_pos (show ¬ (1 : Int32) = 0 by decide), if_pos (show ¬ (1 : Int32) = 0 by decide)]
        rcases h4 with h4 | ⟨e, e8, h4⟩
        · rw [if_pos h4]
          exact s1
        · rw [if_neg (by rw [h4, nm1 (by omega)]; exact id)]
          split
          · exact s1
          · exact s1
      · rw [if_neg z, if_neg (show ¬ ¬ (0 : Int32) = 0 by decide), if_neg (show ¬ ¬ (0 : Int32) = 0 by decide)]
        rcases h4 with h4 | ⟨e, e8, h4⟩
        · rw [if_pos h4, if_pos (by rw [h4]; decide)]
          exact s2
        · rw [if_neg (by rw [h4, nm1 (by omega)]; exact id), if_neg (show ¬ v < 0 by rw [h4]; exact nI_pos (by omega))]
          by_cases w : v ≤ nI (rg_dg m x j)
          · rw [if_pos w, if_pos w]
            exact s1
          · rw [if_neg w, if_neg w]
            exact s2
theorem sim_mended : ab_Sim Inv f_X9_mended f_X10_mended := by
  intro I F h
  obtain ⟨R, fr, tt, gv, gt, I1, F1, I2, s1, i1, i2, v1, v2, hh⟩ := ring_two h
  rcases hh with ⟨m, x, m1, m2, hx, hg, hd, e20, e36, s2⟩ | ⟨e20, s2⟩
  · have h8 : 8 ^ m ≤ 4096 := Nat.le_trans (Nat.pow_le_pow_right (by decide) m2) (by decide)
    obtain ⟨r, r1, r2⟩ := mend_l v1 v2 m2 (show x < 2 ^ 31 by omega) hd hg.1.1 e20 e36 m 0 ab_fu ab_fu (-1) (by omega) (Nat.lt_of_le_of_lt m2 (by decide)) (Nat.lt_of_le_of_lt m2 (by decide)) (Or.inl rfl)
    rw [nI_0] at r1 r2
    refine ⟨r, I1, F1, I2, F1, ?_, ?_, i2⟩
    · unfold f_X9_mended f_X7_leastMending
      rw [s1, bd_s, r1, bd_s]
    · unfold f_X10_mended
      rw [s2, bd_s, r2]
  · refine ⟨-1, I1, F1, I2, F1, ?_, ?_, i2⟩
    · unfold f_X9_mended f_X7_leastMending
      rw [s1, bd_s, show ab_fu = 99999 + 1 from rfl, f_X7_leastMending_4, e20, if_pos (by decide), bd_s]
    · unfold f_X10_mended
      rw [s2, bd_s, show ab_fu = 99999 + 1 from rfl, f_X10_mended_9, if_pos (show (-1 : Int32) < 0 by decide), ite_self]
