def dg5 (x j : Nat) : Nat := x / 5 ^ (5 - j) % 5
theorem dg5_lt (x j : Nat) : dg5 x j < 5 := Nat.mod_lt _ (by decide)
theorem M_tim4 {I : AI} {F : AF} {j : Nat} {ko : Int32 → Int32 → AI → AF → AQ} (hj : j < 6) : ∀ (t n z : Nat), j + t < 6 → t < n → z < 2 ^ 31 → f_X10_times_4 (nI j) ko n (nI z) (nI (j + t)) I F = ko (nI (z / 5 ^ t)) (nI j) I F := by
  intro t
  induction t with
  | zero =>
    intro n z h1 h2 h3
    match n, h2 with
    | n + 1, _ =>
      show f_X10_times_4 (nI j) ko (n + 1) (nI z) (nI j) I F = _
      rw [f_X10_times_4, if_pos (Int32.le_refl _), Nat.pow_zero, Nat.div_one]
  | succ t ih =>
    intro n z h1 h2 h3
    match n, h2 with
    | n + 1, h2 =>
      have : z / 5 ≤ z := Nat.div_le_self _ _
      rw [f_X10_times_4, if_neg (show ¬ nI (j + (t + 1)) ≤ nI j by rw [nle (by omega) (by omega)]; omega), pk_div h3 (by decide) (by decide), show j + (t + 1) = (j + t) + 1 from rfl, pk_m1, ih n (z / 5) (by omega) (by omega) (by omega), Nat.div_div_eq_div_mul, ← Nat.pow_succ']
theorem M_tim {I : AI} {F : AF} {j x : Nat} (hj : j < 6) (hx : x < 2 ^ 31) : f_X10_times (nI x) (nI j) I F = some (nI (dg5 x j), I, F) := by
  unfold f_X10_times
  have := M_tim4 (I := I) (F := F) (ko := fun v2 _ I F => some ((v2 - v2 / (nI 5) * (nI 5)), I, F)) hj (5 - j) ab_fu x (by omega) (Nat.lt_of_lt_of_le (show 5 - j < 6 by omega) (by decide)) hx
  rw [show j + (5 - j) = 5 by omega] at this
  have e : x / 5 ^ (5 - j) ≤ x := Nat.div_le_self _ _
  rw [this, pk_rem (by omega) (by decide) (by decide)]
  rfl
theorem M_bfree {L C a k : Nat} {I : AI} {F G : AF} (hL : L ≤ 6) (e22 : I 22 = nI L) (ea2 : F 47 18 = nI a) (ha : a < 2 ^ L) (hS : SR L C (G 15) (G 22) (F 47)) (hk : k < 6) : f_X10_isFree (nI k) I F = some ((if bk_al G a k then 1 else 0), I, F) := by
  have ha31 := pow31 hL ha
  unfold f_X10_isFree bk_al
  by_cases z : k < L
  · rw [isL_in hL e22 z, bd_s, if_neg (show ¬ (1 : Int32) = 0 by decide), M_lives ea2 ha31 (by omega), bd_s]
    cases hb : a.testBit k with
    | false =>
      rw [if_neg Bool.false_ne_true, if_pos rfl]
      rfl
    | true =>
      obtain ⟨q1, q2⟩ := hS.2.1 k z
      rw [if_pos rfl, if_neg (show ¬ (1 : Int32) = 0 by decide), nI_add, vin_t (show 6 + k < 22 by omega) (by decide), cond_true, nI_clamp (by omega), q1]
      rcases q2 with q2 | ⟨c, c1, q2⟩
      · rw [q2, if_neg (by decide), decide_eq_true rfl]
        rfl
      · rw [q2, if_pos (nI_pos' (by omega)), decide_eq_false (by rw [nm1 (by omega)]; exact id)]
        rfl
  · rw [isL_out hL e22 (Or.inr ⟨k, by omega, by omega, rfl⟩), bd_s, if_pos rfl]
    cases hb : a.testBit k with
    | false => rfl
    | true => exact absurd (lt_bit ha hb) z
theorem M_bat {L C x e : Nat} {I : AI} {F G : AF} (hL : L ≤ 6) (e22 : I 22 = nI L) (hx : x < 2 ^ 31) (he : e < 4) (hP : PL L (G 13) (G 14) (F 38) (F 39)) (hS : SR L C (G 15) (G 22) (F 47)) : f_X10_basketAt (nI x) (nI e) I F = some (bk_A (om G) e (dg5 x) L, I, F) := by
  have key : ∀ (t k n : Nat) (ko : Int32 → Int32 → AI → AF → AQ), k + t = L → t < n → f_X10_basketAt_5 (nI x) (nI e) ko n (bk_A (om G) e (dg5 x) k) (nI k) I F = ko (bk_A (om G) e (dg5 x) L) (nI L) I F := by
    intro t
    induction t with
    | zero =>
      intro k n ko h1 h2
      match n, h2 with
      | n + 1, _ =>
        have : k = L := by omega
        subst this
        rw [f_X10_basketAt_5, e22, if_pos (Int32.le_refl _)]
    | succ t ih =>
      intro k n ko h1 h2
      match n, h2 with
      | n + 1, h2 =>
        have := ih (k + 1) n ko (by omega) (by omega)
        rw [bk_A] at this
        rw [f_X10_basketAt_5, e22, if_neg (show ¬ nI L ≤ nI k by rw [nle (by omega) (by omega)]; omega), M_tim (by omega) hx, bd_s, M_own hL (show k < L by omega) (show e < 2 ^ 30 by omega) hP hS, bd_s, nI_1, this]
  have := key L 0 ab_fu (fun r _ I F => some (r, I, F)) (by omega) (Nat.lt_of_le_of_lt hL (by decide))
  rw [nI_0] at this
  exact this
theorem M_lof {x : Nat} {I : AI} {F : AF} (hx : x < 2 ^ 31) : f_X10_limbsOf (nI x) I F = some (nI (bk_cz (dg5 x) 6), I, F) := by
  have key : ∀ (t k n : Nat) (ko : Int32 → Int32 → AI → AF → AQ), k + t = 6 → t < n → f_X10_limbsOf_4 (nI x) ko n (nI (bk_cz (dg5 x) k)) (nI k) I F = ko (nI (bk_cz (dg5 x) 6)) (nI 6) I F := by
    intro t
    induction t with
    | zero =>
      intro k n ko h1 h2
      match n, h2 with
      | n + 1, _ =>
        have : k = 6 := by omega
        subst this
        rw [f_X10_limbsOf_4, if_pos (Int32.le_refl _)]
    | succ t ih =>
      intro k n ko h1 h2
      match n, h2 with
      | n + 1, h2 =>
        have := ih (k + 1) n ko (by omega) (by omega)
        have l5 := dg5_lt x k
        rw [show bk_cz (dg5 x) (k + 1) = bk_cz (dg5 x) k + (if dg5 x k = 0 then 0 else 1) from rfl] at this
        rw [f_X10_limbsOf_4, if_neg (show ¬ nI 6 ≤ nI k by rw [nle (by decide) (by omega)]; omega), M_tim (by omega) hx, bd_s, nI_1]
        by_cases z : dg5 x k = 0
        · rw [if_pos z] at this
          rw [if_pos (by rw [z]; decide), Int32.add_zero]
          exact this
        · rw [if_neg z] at this
          rw [if_neg (by rw [nle0 (by omega)]; omega), nI_1]
          exact this
  have := key 6 0 ab_fu (fun r _ I F => some (r, I, F)) rfl (by decide)
  exact this
theorem M_tof {x : Nat} {I : AI} {F : AF} (hx : x < 2 ^ 31) : f_X10_timesOf (nI x) I F = some (nI (bk_tot (dg5 x) 6), I, F) := by
  have key : ∀ (t k n : Nat) (ko : Int32 → Int32 → AI → AF → AQ), k + t = 6 → t < n → f_X10_timesOf_4 (nI x) ko n (nI (bk_tot (dg5 x) k)) (nI k) I F = ko (nI (bk_tot (dg5 x) 6)) (nI 6) I F := by
    intro t
    induction t with
    | zero =>
      intro k n ko h1 h2
      match n, h2 with
      | n + 1, _ =>
        have : k = 6 := by omega
        subst this
        rw [f_X10_timesOf_4, if_pos (Int32.le_refl _)]
    | succ t ih =>
      intro k n ko h1 h2
      match n, h2 with
      | n + 1, h2 =>
        have := ih (k + 1) n ko (by omega) (by omega)
        rw [show bk_tot (dg5 x) (k + 1) = bk_tot (dg5 x) k + dg5 x k from rfl] at this
        rw [f_X10_timesOf_4, if_neg (show ¬ nI 6 ≤ nI k by rw [nle (by decide) (by omega)]; omega), M_tim (by omega) hx, bd_s, nI_1, nI_add]
        exact this
  have := key 6 0 ab_fu (fun r _ I F => some (r, I, F)) rfl (by decide)
  exact this
theorem lx_lt {x y : Nat → Nat} {p : Nat} (h : ∀ i, i < p → x i = y i) (he : bk_e (x p) < bk_e (y p)) : ∀ d, bk_lx x (p + 1 + d) < bk_lx y (p + 1 + d)
  | 0 => by
    show bk_lx x p * 5 + bk_e (x p) < bk_lx y p * 5 + bk_e (y p)
    rw [lx_c p h]
    omega
  | d + 1 => by
    have := lx_lt h he d
    have e1 : bk_e (x (p + 1 + d)) < 5 := Nat.mod_lt _ (by decide)
    show bk_lx x (p + 1 + d) * 5 + bk_e (x (p + 1 + d)) < bk_lx y (p + 1 + d) * 5 + bk_e (y (p + 1 + d))
    omega
theorem ah_lx {x y : Nat → Nat} (h : bk_ah x y) : bk_lx x 6 < bk_lx y 6 := by
  obtain ⟨p, h1, h2, h3⟩ := h
  have := lx_lt h2 h3 (5 - p)
  rw [show p + 1 + (5 - p) = 6 by omega] at this
  exact this
theorem M_ahd {x y : Nat} {I : AI} {F : AF} (hx : x < 2 ^ 31) (hy : y < 2 ^ 31) : f_X10_isAhead (nI x) (nI y) I F = some ((if bk_lx (dg5 x) 6 < bk_lx (dg5 y) 6 then 1 else 0), I, F) := by
  have key : ∀ (t k n : Nat), k + t = 6 → t < n → (∀ i, i < k → dg5 x i = dg5 y i) → f_X10_isAhead_2 (nI x) (nI y) (fun _ I F => some (0, I, F)) n (nI k) I F = some ((if bk_lx (dg5 x) 6 < bk_lx (dg5 y) 6 then 1 else 0), I, F) := by
    intro t
    induction t with
    | zero =>
      intro k n h1 h2 h3
      match n, h2 with
      | n + 1, _ =>
        have : k = 6 := by omega
        subst this
        rw [f_X10_isAhead_2, if_pos (Int32.le_refl _), lx_c 6 h3, if_neg (Nat.lt_irrefl _)]
    | succ t ih =>
      intro k n h1 h2 h3
      match n, h2 with
      | n + 1, h2 =>
        have l1 := dg5_lt x k
        have l2 := dg5_lt y k
        have lt1 : bk_e (dg5 x k) < bk_e (dg5 y k) → bk_lx (dg5 x) 6 < bk_lx (dg5 y) 6 := fun q => ah_lx ⟨k, by omega, h3, q⟩
        have lt2 : bk_e (dg5 y k) < bk_e (dg5 x k) → ¬ bk_lx (dg5 x) 6 < bk_lx (dg5 y) 6 := fun q => Nat.not_lt.mpr (Nat.le_of_lt (ah_lx ⟨k, by omega, fun i hi => (h3 i hi).symm, q⟩))
        rw [f_X10_isAhead_2, if_neg (show ¬ nI 6 ≤ nI k by rw [nle (by decide) (by omega)]; omega), M_tim (by omega) hx, bd_s, M_tim (by omega) hy, bd_s, nI_1]
        by_cases z : dg5 x k = dg5 y k
        · rw [if_pos (by rw [z])]
          refine ih (k + 1) n (by omega) (by omega) ?_
          intro i hi
          by_cases q : i = k
          · rw [q, z]
          · exact h3 i (by omega)
        · rw [if_neg (fun q => z ((nI_eq (by omega) (by omega)).mp q))]
          by_cases z1 : dg5 x k = 0
          · rw [if_pos (by rw [z1]; decide), if_neg (lt2 (e_lt (by omega) (by omega) (by omega) (Or.inl z1)))]
          · rw [if_neg (by rw [nle0 (by omega)]; omega)]
            by_cases z2 : dg5 y k = 0
            · rw [if_pos (by rw [z2]; rfl), if_pos (lt1 (e_lt (by omega) (by omega) (by omega) (Or.inl z2)))]
            · rw [if_neg (by rw [n0eq (by omega)]; exact z2)]
              by_cases z3 : dg5 y k ≤ dg5 x k
              · rw [if_pos ((nI_leI (by omega) (by omega)).mpr z3), if_neg (lt2 (e_lt (by omega) (by omega) (by omega) (Or.inr (by omega))))]
              · rw [if_neg (fun q => z3 ((nI_leI (by omega) (by omega)).mp q)), if_pos (lt1 (e_lt (by omega) (by omega) (by omega) (Or.inr (by omega))))]
  have := key 6 0 ab_fu rfl (by decide) (fun i q => absurd q (Nat.not_lt_zero i))
  exact this
theorem A_zero {m : Nat → Nat → Int32} {e : Nat} {s : Nat → Nat} {k : Nat} : ∀ d, (∀ i, k ≤ i → i < k + d → s i = 0) → bk_A m e s (k + d) = bk_A m e s k
  | 0, _ => rfl
  | d + 1, h => by rw [← Nat.add_assoc, bk_A, A_zero d (fun i q1 q2 => h i q1 (by omega)), h (k + d) (by omega) (by omega), nI_0, Int32.zero_mul, Int32.add_zero]
theorem M_isb {L C a x : Nat} {I : AI} {F G : AF} (hL : L ≤ 6) (e22 : I 22 = nI L) (ea2 : F 47 18 = nI a) (ha : a < 2 ^ L) (hP : PL L (G 13) (G 14) (F 38) (F 39)) (hS : SR L C (G 15) (G 22) (F 47)) (hx : x < 2 ^ 31) :
    (bk_v (bk_al G a) (om G) (dg5 x) ∧ f_X10_isBasket (nI x) I F = some (1, I, F)) ∨ (¬ bk_v (bk_al G a) (om G) (dg5 x) ∧ f_X10_isBasket (nI x) I F = some (0, I, F)) := by
  have key : ∀ (t k n : Nat) (ko : Int32 → AI → AF → AQ), k + t = 6 → t < n → (∀ i, i < k → ¬ dg5 x i = 0 → bk_al G a i = true) → ((∀ i, i < 6 → ¬ dg5 x i = 0 → bk_al G a i = true) ∧ f_X10_isBasket_2 (nI x) ko n (nI k) I F = ko (nI 6) I F) ∨ (¬ (∀ i, i < 6 → ¬ dg5 x i = 0 → bk_al G a i = true) ∧ f_X10_isBasket_2 (nI x) ko n (nI k) I F = some (0, I, F)) := by
    intro t
    induction t with
    | zero =>
      intro k n ko h1 h2 h3
      match n, h2 with
      | n + 1, _ =>
        have : k = 6 := by omega
        subst this
        exact Or.inl ⟨h3, by rw [f_X10_isBasket_2, if_pos (Int32.le_refl _)]⟩
    | succ t ih =>
      intro k n ko h1 h2 h3
      match n, h2 with
      | n + 1, h2 =>
        have l5 := dg5_lt x k
        rw [f_X10_isBasket_2, if_neg (show ¬ nI 6 ≤ nI k by rw [nle (by decide) (by omega)]; omega), M_tim (by omega) hx, bd_s, M_bfree (k := k) hL e22 ea2 ha hS (by omega), bd_s, nI_1]
        by_cases z : dg5 x k = 0
        · rw [if_pos (by rw [z]; decide)]
          refine ih (k + 1) n ko (by omega) (by omega) ?_
          intro i hi q
          by_cases y : i = k
          · rw [y] at q
            exact absurd z q
          · exact h3 i (by omega) q
        · rw [if_neg (by rw [nle0 (by omega)]; omega)]
          cases hb : bk_al G a k with
          | true =>
            rw [if_pos rfl, if_pos (show ¬ (1 : Int32) = 0 by decide)]
            refine ih (k + 1) n ko (by omega) (by omega) ?_
            intro i hi q
            by_cases y : i = k
            · rw [y, hb]
            · exact h3 i (by omega) q
          | false =>
            rw [if_neg Bool.false_ne_true, if_neg (show ¬ ¬ (0 : Int32) = 0 by decide)]
            refine Or.inr ⟨fun q => ?_, rfl⟩
            have := q k (by omega) z
            rw [hb] at this
            exact Bool.false_ne_true this
  have zin : ∀ (n : Nat), n ≤ 6 → ((1 ≤ nI n ∧ nI n ≤ 3) ↔ (1 ≤ n ∧ n ≤ 3)) := by decide
  have cz6 : bk_cz (dg5 x) 6 ≤ 6 := by
    have c : ∀ p, bk_cz (dg5 x) p ≤ p := by
      intro p
      induction p with
      | zero => exact Nat.le_refl 0
      | succ p ih =>
        rw [bk_cz]
        split <;> omega
    exact c 6
  have b0 := M_bat (I := I) (e := 0) hL e22 hx (by decide) hP hS
  have b1 := M_bat (I := I) (e := 1) hL e22 hx (by decide) hP hS
  have b2 := M_bat (I := I) (e := 2) hL e22 hx (by decide) hP hS
  have b3 := M_bat (I := I) (e := 3) hL e22 hx (by decide) hP hS
  rw [nI_0] at b0
  rw [show nI 1 = 1 from rfl] at b1
  have k := fun ko => key 6 0 ab_fu ko rfl (by decide) (fun i q => absurd q (Nat.not_lt_zero i))
  rw [nI_0] at k
  unfold f_X10_isBasket
  rcases k _ with ⟨k1, k2⟩ | ⟨k1, k2⟩
  · rw [k2, b0, bd_s, M_lof hx, bd_s, in_c (w2 := 1) (w4 := 3) (b := 1) (c := 3) rfl rfl, bd_s, b1, bd_s, b2, bd_s, b3, bd_s]
    have az : ∀ e, bk_A (om G) e (dg5 x) 6 = bk_A (om G) e (dg5 x) L := by
      intro e
      have := A_zero (m := om G) (e := e) (s := dg5 x) (k := L) (6 - L) (by
        intro i q1 q2
        by_cases z : dg5 x i = 0
        · exact z
        · have := k1 i (by omega) z
          unfold bk_al at this
          rw [Bool.and_eq_true] at this
          have := lt_bit ha this.1
          omega)
      rw [show L + (6 - L) = 6 by omega] at this
      exact this
    have h1 : ∀ i, i < 6 → dg5 x i ≤ 4 ∧ (¬ dg5 x i = 0 → bk_al G a i = true) := fun i hi => ⟨Nat.le_of_lt_succ (dg5_lt x i), k1 i hi⟩
    by_cases z : 1 ≤ bk_cz (dg5 x) 6 ∧ bk_cz (dg5 x) 6 ≤ 3
    · rw [if_pos ((zin _ cz6).mpr z), if_neg (show ¬ (1 : Int32) = 0 by decide)]
      by_cases z1 : bk_A (om G) 0 (dg5 x) L = bk_A (om G) 1 (dg5 x) L
      · rw [if_neg (not_not_intro z1)]
        by_cases z2 : bk_A (om G) 0 (dg5 x) L = bk_A (om G) 2 (dg5 x) L
        · rw [if_neg (not_not_intro z2)]
          by_cases z3 : bk_A (om G) 0 (dg5 x) L = bk_A (om G) 3 (dg5 x) L
          · rw [if_neg (not_not_intro z3)]
            exact Or.inl ⟨⟨h1, z, by rw [az, az]; exact z1, by rw [az, az]; exact z2, by rw [az, az]; exact z3⟩, rfl⟩
          · rw [if_pos z3]
            exact Or.inr ⟨fun q => z3 (by rw [← az, ← az]; exact q.2.2.2.2), rfl⟩
        · rw [if_pos z2]
          exact Or.inr ⟨fun q => z2 (by rw [← az, ← az]; exact q.2.2.2.1), rfl⟩
      · rw [if_pos z1]
        exact Or.inr ⟨fun q => z1 (by rw [← az, ← az]; exact q.2.2.1), rfl⟩
    · rw [if_neg (fun q => z ((zin _ cz6).mp q)), if_pos rfl]
      exact Or.inr ⟨fun q => z q.2.1, rfl⟩
  · rw [k2]
    exact Or.inr ⟨fun q => k1 (fun i hi => (q.1 i hi).2), rfl⟩
theorem i_cmp {a b : Nat} (ha : a < 2 ^ 30) (hb : b < 2 ^ 30) : (nI a - nI b < 0 ↔ a < b) ∧ (nI a - nI b = 0 ↔ a = b) := by
  have e := pk_sub_toInt ha hb
  have z : (0 : Int32).toInt = 0 := rfl
  constructor
  · rw [Int32.lt_iff_toInt_lt, e, z]
    omega
  · rw [← Int32.toInt_inj, e, z]
    omega
theorem bk_Kb {s : Nat → Nat} (h : ∀ i, i < 6 → s i ≤ 4) : bk_tot s 6 ≤ 24 ∧ bk_cz s 6 ≤ 6 ∧ bk_lx s 6 < 15625 := by
  have t := tot_le 6 h
  have c : ∀ p, bk_cz s p ≤ p := by
    intro p
    induction p with
    | zero => exact Nat.le_refl 0
    | succ p ih =>
      rw [bk_cz]
      split <;> omega
  have e : ∀ p, bk_lx s p < 5 ^ p := by
    intro p
    induction p with
    | zero => exact (show 0 < 5 ^ 0 by decide)
    | succ p ih =>
      have : bk_e (s p) < 5 := Nat.mod_lt _ (by decide)
      rw [bk_lx, Nat.pow_succ]
      omega
  have c6 := c 6
  exact ⟨by omega, c6, e 6⟩
theorem M_cmp {x b : Nat} {I : AI} {F : AF} {bk ko : Int32 → AI → AF → AQ} (hx : x < 15625) (hb : b < 15625) :
    f_X10_findBasket_j45_7 bk ko (nI x) (nI (bk_tot (dg5 x) 6) - nI (bk_tot (dg5 b) 6)) (va_up I 35 (nI b)) F = bk (nI (x + 1)) (va_up I 35 (if bk_K (dg5 x) < bk_K (dg5 b) then nI x else nI b)) F := by
  obtain ⟨t1, c1, l1⟩ := bk_Kb (s := dg5 x) (fun i _ => Nat.le_of_lt_succ (dg5_lt x i))
  obtain ⟨t2, c2, l2⟩ := bk_Kb (s := dg5 b) (fun i _ => Nat.le_of_lt_succ (dg5_lt b i))
  obtain ⟨p1, p2⟩ := i_cmp (a := bk_tot (dg5 x) 6) (b := bk_tot (dg5 b) 6) (by omega) (by omega)
  obtain ⟨q1, q2⟩ := i_cmp (a := bk_cz (dg5 x) 6) (b := bk_cz (dg5 b) 6) (by omega) (by omega)
  unfold bk_K
  rw [f_X10_findBasket_j45_7]
  by_cases z : bk_tot (dg5 x) 6 = bk_tot (dg5 b) 6
  · rw [if_neg (not_not_intro (p2.mpr z)), M_lof (by omega), bd_s, up_s, M_lof (by omega), bd_s, f_X10_findBasket_j66_7]
    by_cases y1 : bk_cz (dg5 x) 6 < bk_cz (dg5 b) 6
    · rw [if_pos (q1.mpr y1), lt_e, up_uu, nI_1, if_pos (by omega)]
    · rw [if_neg (fun q => y1 (q1.mp q))]
      by_cases y2 : bk_cz (dg5 x) 6 = bk_cz (dg5 b) 6
      · rw [if_neg (not_not_intro (q2.mpr y2)), up_s, M_ahd (by omega) (by omega), bd_s]
        by_cases y3 : bk_lx (dg5 x) 6 < bk_lx (dg5 b) 6
        · rw [if_pos y3, if_neg (show ¬ (1 : Int32) = 0 by decide), lt_e, up_uu, nI_1, if_pos (by omega)]
        · rw [if_neg y3, if_pos rfl, lt_e, up_s, up_uu, nI_1, if_neg (by omega)]
      · rw [if_pos (fun q => y2 (q2.mp q)), lt_e, up_s, up_uu, nI_1, if_neg (by omega)]
  · rw [if_pos (fun q => z (p2.mp q)), f_X10_findBasket_j66_7]
    by_cases y1 : bk_tot (dg5 x) 6 < bk_tot (dg5 b) 6
    · rw [if_pos (p1.mpr y1), lt_e, up_uu, nI_1, if_pos (by omega)]
    · rw [if_neg (fun q => y1 (p1.mp q)), if_pos (fun q => z (p2.mp q)), lt_e, up_s, up_uu, nI_1, if_neg (by omega)]
theorem M_fb {L C a w : Nat} {I : AI} {F G : AF} {ko : Int32 → AI → AF → AQ} (hL : L ≤ 6) (e22 : I 22 = nI L) (ea2 : F 47 18 = nI a) (ha : a < 2 ^ L) (hP : PL L (G 13) (G 14) (F 38) (F 39)) (hS : SR L C (G 15) (G 22) (F 47))
    (hw : w < 15625) (hwv : bk_v (bk_al G a) (om G) (dg5 w)) (hmin : ∀ x, x < 15625 → bk_v (bk_al G a) (om G) (dg5 x) → bk_K (dg5 w) ≤ bk_K (dg5 x)) (hfst : ∀ x, x < w → bk_v (bk_al G a) (om G) (dg5 x) → bk_K (dg5 w) < bk_K (dg5 x)) :
    ∀ (t x n : Nat) (v : Int32), x + t = 15625 → t < n → ((x ≤ w ∧ (v = -1 ∨ ∃ b, b < 15625 ∧ v = nI b ∧ bk_K (dg5 w) < bk_K (dg5 b))) ∨ (w < x ∧ v = nI w)) → f_X10_findBasket_7 ko n (nI x) (va_up I 35 v) F = ko (nI 15625) (va_up I 35 (nI w)) F := by
  intro t
  induction t with
  | zero =>
    intro x n v h1 h2 h3
    match n, h2 with
    | n + 1, _ =>
      have : x = 15625 := by omega
      subst this
      rw [f_X10_findBasket_7, if_pos (Int32.le_refl _)]
      rcases h3 with h3 | h3
      · omega
      · rw [h3.2]
  | succ t ih =>
    intro x n v h1 h2 h3
    match n, h2 with
    | n + 1, h2 =>
      rw [f_X10_findBasket_7, if_neg (show ¬ nI 15625 ≤ nI x by rw [nle (by decide) (by omega)]; omega)]
      rcases M_isb (I := va_up I 35 v) (x := x) hL ((up_n (by decide)).trans e22) ea2 ha hP hS (by omega) with ⟨k1, k2⟩ | ⟨k1, k2⟩
      · rw [k2, bd_s, if_neg (show ¬ (1 : Int32) = 0 by decide), up_s]
        have cmp : ∀ b, b < 15625 → v = nI b → (if 0 ≤ v then ab_bd (f_X10_timesOf (nI x) (va_up I 35 v) F) (fun r1968 I1969 F1970 => ab_bd (f_X10_timesOf (I1969 35) I1969 F1970) (fun r1971 I1972 F1973 => f_X10_findBasket_j45_7 (f_X10_findBasket_7 ko n) ko (nI x) (r1968 - r1971) I1972 F1973)) else f_X10_findBasket_j45_7 (f_X10_findBasket_7 ko n) ko (nI x) (-1 : Int32) (va_up I 35 v) F) = f_X10_findBasket_7 ko n (nI (x + 1)) (va_up I 35 (if bk_K (dg5 x) < bk_K (dg5 b) then nI x else nI b)) F := by
          intro b hb e
          rw [e, if_pos (nI_pos' (by omega)), M_tof (by omega), bd_s, up_s, M_tof (by omega), bd_s, M_cmp (by omega) hb]
        rcases h3 with ⟨h3, h4⟩ | ⟨h3, h4⟩
        · by_cases z : x = w
          · subst z
            rcases h4 with h4 | ⟨b, b1, b2, b3⟩
            · rw [h4, if_neg (by decide), f_X10_findBasket_j45_7, if_pos (by decide), f_X10_findBasket_j66_7, if_pos (by decide), lt_e, up_uu, nI_1]
              exact ih (x + 1) n _ (by omega) (by omega) (Or.inr ⟨by omega, rfl⟩)
            · rw [cmp b b1 b2, if_pos b3]
              exact ih (x + 1) n _ (by omega) (by omega) (Or.inr ⟨by omega, rfl⟩)
          · have kx := hfst x (by omega) k1
            rcases h4 with h4 | ⟨b, b1, b2, b3⟩
            · rw [h4, if_neg (by decide), f_X10_findBasket_j45_7, if_pos (by decide), f_X10_findBasket_j66_7, if_pos (by decide), lt_e, up_uu, nI_1]
              exact ih (x + 1) n _ (by omega) (by omega) (Or.inl ⟨by omega, Or.inr ⟨x, by omega, rfl, kx⟩⟩)
            · rw [cmp b b1 b2]
              refine ih (x + 1) n _ (by omega) (by omega) (Or.inl ⟨by omega, Or.inr ?_⟩)
              split
              · exact ⟨x, by omega, rfl, kx⟩
              · exact ⟨b, b1, rfl, b3⟩
        · rw [cmp w hw h4, if_neg (Nat.not_lt.mpr (hmin x (by omega) k1))]
          exact ih (x + 1) n _ (by omega) (by omega) (Or.inr ⟨by omega, rfl⟩)
      · rw [k2, bd_s, if_pos rfl, nI_1]
        refine ih (x + 1) n _ (by omega) (by omega) ?_
        rcases h3 with ⟨h3, h4⟩ | ⟨h3, h4⟩
        · refine Or.inl ⟨?_, h4⟩
          by_cases z : x = w
          · rw [z] at k1
            exact absurd hwv k1
          · omega
        · exact Or.inr ⟨by omega, h4⟩
theorem M_fb0 {L C a : Nat} {I : AI} {F G : AF} {ko : Int32 → AI → AF → AQ} (hL : L ≤ 6) (e22 : I 22 = nI L) (ea2 : F 47 18 = nI a) (ha : a < 2 ^ L) (hP : PL L (G 13) (G 14) (F 38) (F 39)) (hS : SR L C (G 15) (G 22) (F 47))
    (hno : ∀ x, x < 15625 → ¬ bk_v (bk_al G a) (om G) (dg5 x)) :
    ∀ (t x n : Nat), x + t = 15625 → t < n → f_X10_findBasket_7 ko n (nI x) I F = ko (nI 15625) I F := by
  intro t
  induction t with
  | zero =>
    intro x n h1 h2
    match n, h2 with
    | n + 1, _ =>
      have : x = 15625 := by omega
      subst this
      rw [f_X10_findBasket_7, if_pos (Int32.le_refl _)]
  | succ t ih =>
    intro x n h1 h2
    match n, h2 with
    | n + 1, h2 =>
      rw [f_X10_findBasket_7, if_neg (show ¬ nI 15625 ≤ nI x by rw [nle (by decide) (by omega)]; omega)]
      rcases M_isb (I := I) (x := x) hL e22 ea2 ha hP hS (by omega) with ⟨k1, -⟩ | ⟨-, k2⟩
      · exact absurd k1 (hno x (by omega))
      · rw [k2, bd_s, if_pos rfl, nI_1]
        exact ih (x + 1) n (by omega) (by omega)
