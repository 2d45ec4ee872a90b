theorem sh_3 : ∀ e, e < 4 → ((nI (3 * e) &&& 31).toBitVec.smod 32).toNat = 3 * e := by decide
theorem sl_3 : ∀ e, e < 5 → (1 : Int32) <<< ((nI 3 * nI e) &&& 31) = nI (8 ^ e) := by decide
theorem M_fig {m x j : Nat} {I : AI} {F : AF} (hm : m ≤ 4) (hx : x < 2 ^ 31) (hj : j < m) : f_X10_figure (nI x) (nI m) (nI j) I F = some (nI (rg_dg m x j), I, F) := by
  unfold f_X10_figure
  rw [show nI m - 1 = nI (m - 1) from pk_sub (b := 1) (by omega), pk_sub (show j ≤ m - 1 by omega), pk_mul, pk_shrN hx _ _ (sh_3 (m - 1 - j) (by omega)), pk_andN (k := 3) (by
    have : x / 2 ^ (3 * (m - 1 - j)) ≤ x := Nat.div_le_self _ _
    omega) rfl, Nat.pow_mul]
  rfl
theorem M_row {R m x : Nat} {fr tt gv gt : Nat → Nat} {I : AI} {F : AF} (hV : RV R fr tt gv gt (F 43) (F 44) (F 45) (F 46)) (e24 : I 24 = nI R) (hm : m ≤ 4) (hm0 : 0 < m) (hx : x < 2 ^ 31) :
    ∀ (t j n : Nat), j + t = m → t < n → rg_ok R fr tt (rg_dg m x) j → (j = 0 ∨ (rg_dg m x (j % m) < R ∧ fr (rg_dg m x (j % m)) = tt (rg_dg m x (j - 1)))) →
      (f_X10_isRow_5 (nI x) (nI m) (fun _ _ I F => some (1, I, F)) n (nI (rg_mk fr (rg_dg m x) j)) (nI j) I F = some (1, I, F) ∧ (rg_ok R fr tt (rg_dg m x) m ∧ tt (rg_dg m x (m - 1)) = fr (rg_dg m x 0))) ∨
      (f_X10_isRow_5 (nI x) (nI m) (fun _ _ I F => some (1, I, F)) n (nI (rg_mk fr (rg_dg m x) j)) (nI j) I F = some (0, I, F) ∧ ¬ (rg_ok R fr tt (rg_dg m x) m ∧ tt (rg_dg m x (m - 1)) = fr (rg_dg m x 0))) := by
  obtain ⟨hR, hV⟩ := hV
  intro t
  induction t with
  | zero =>
    intro j n h1 h2 h3 h4
    match n, h2 with
    | n + 1, _ =>
      have : j = m := by omega
      subst this
      rw [f_X10_isRow_5, if_pos (Int32.le_refl _)]
      refine Or.inl ⟨rfl, h3, ?_⟩
      rw [Nat.mod_self] at h4
      rcases h4 with h4 | h4
      · omega
      · exact h4.2.symm
  | succ t ih =>
    intro j n h1 h2 h3 h4
    match n, h2 with
    | n + 1, h2 =>
      have hj : j < m := by omega
      have hn : (j + 1) % m < m := Nat.mod_lt _ hm0
      have x1 := rg_dg_lt m x j
      have x2 := rg_dg_lt m x ((j + 1) % m)
      have nz : ab_nz (nI m) = true := by
        rcases (show m = 1 ∨ m = 2 ∨ m = 3 ∨ m = 4 by omega) with rfl | rfl | rfl | rfl <;> decide
      rw [f_X10_isRow_5, if_neg (show ¬ nI m ≤ nI j by rw [nle (by omega) (by omega)]; omega), M_fig hm hx hj, bd_s, nz, cond_true, nI_1, pk_rem (by omega) hm0 (by omega), M_fig hm hx hn, bd_s, e24]
      by_cases y1 : R ≤ rg_dg m x j
      · rw [if_pos ((nI_leI (by omega) (by omega)).mpr y1)]
        refine Or.inr ⟨rfl, fun q => ?_⟩
        have := (rg_ok_get q.1 hj).1
        omega
      · rw [if_neg (fun q => y1 ((nI_leI (by omega) (by omega)).mp q))]
        by_cases y2 : R ≤ rg_dg m x ((j + 1) % m)
        · rw [if_pos ((nI_leI (by omega) (by omega)).mpr y2)]
          refine Or.inr ⟨rfl, fun q => ?_⟩
          have := (rg_ok_get q.1 hn).1
          omega
        · obtain ⟨⟨a1, a2⟩, ⟨b1, b2⟩, -⟩ := hV _ (Nat.not_le.mp y1)
          obtain ⟨⟨a3, a4⟩, -⟩ := hV _ (Nat.not_le.mp y2)
          rw [if_neg (fun q => y2 ((nI_leI (by omega) (by omega)).mp q)), vin_t x1 (by decide), vin_t x2 (by decide), cond_true, cond_true, nI_clamp (show rg_dg m x j < 2 ^ 31 by omega), nI_clamp (show rg_dg m x ((j + 1) % m) < 2 ^ 31 by omega), a3, b1, a1]
          by_cases y3 : tt (rg_dg m x j) = fr (rg_dg m x ((j + 1) % m))
          · have hmk : rg_mk fr (rg_dg m x) j < 2 ^ 31 := Nat.lt_trans (rg_mk_lt j (fun i q => (hV _ (rg_ok_get h3 q).1).1.2)) (by decide)
            rw [if_neg (not_not_intro (by rw [y3])), cond_true, M_has hmk (by omega), bd_s]
            cases hb : (rg_mk fr (rg_dg m x) j).testBit (fr (rg_dg m x j)) with
            | true =>
              rw [if_pos rfl, if_neg (show ¬ (1 : Int32) = 0 by decide)]
              refine Or.inr ⟨rfl, fun q => ?_⟩
              have := (rg_ok_get q.1 hj).2.2
              rw [hb] at this
              exact Bool.false_ne_true this.symm
            | false =>
              rw [if_neg Bool.false_ne_true, if_pos rfl, cond_true, a1, sl_k _ (by omega), n_or, lt_e]
              exact ih (j + 1) n (by omega) (by omega) ⟨h3, by omega, by
                rcases h4 with h4 | h4
                · exact Or.inl h4
                · rw [Nat.mod_eq_of_lt hj] at h4
                  exact Or.inr h4.2, hb⟩ (Or.inr ⟨by omega, y3.symm⟩)
          · rw [if_pos (fun q => y3 ((nI_eq (by omega) (by omega)).mp q))]
            refine Or.inr ⟨rfl, fun q => ?_⟩
            by_cases w : j + 1 = m
            · rw [w, Nat.mod_self] at y3
              rw [← w, Nat.add_sub_cancel, w] at q
              exact y3 q.2
            · have hj1 : j + 1 < m := by omega
              rw [Nat.mod_eq_of_lt hj1] at y3
              rcases (rg_ok_get q.1 hj1).2.1 with q1 | q1
              · omega
              · exact y3 q1.symm
theorem lg_le {a b : Nat} (ha : a < 2 ^ 31) (hb : b < 2 ^ 31) : lg_cmp (lN a) (lN b) ≤ 0 ↔ a ≤ b := by
  unfold lg_cmp
  split
  · rename_i h
    have := (lN_lt hb ha).mp h
    constructor
    · intro q; exact absurd q (by decide)
    · intro q; omega
  · rename_i h
    have : ¬ b < a := fun q => h ((lN_lt hb ha).mpr q)
    split
    · exact ⟨fun _ => by omega, fun _ => by decide⟩
    · exact ⟨fun _ => by omega, fun _ => by decide⟩
theorem M_gain {R m x : Nat} {fr tt gv gt g2 : Nat → Nat} {v3 : Int32} {I : AI} {F : AF} (hV : RV R fr tt gv gt (F 43) (F 44) (F 45) (F 46)) (hm : m ≤ 4) (hx : x < 2 ^ 31) (hd : ∀ j, j < m → rg_dg m x j < R)
    (h2 : ∀ i, i < R → (¬ nI i = v3 → g2 i = gt i) ∧ (nI i = v3 → g2 i = if gt i ≤ 1 then gt i else gt i - 1)) :
    f_X10_gains (nI x) (nI m) v3 I F = some ((if rg_pr gv (rg_dg m x) m < rg_pr g2 (rg_dg m x) m then 1 else 0), I, F) := by
  obtain ⟨hR, hV⟩ := hV
  have b2 : ∀ i, i < R → g2 i ≤ 20 := by
    intro i hi
    obtain ⟨-, -, -, ⟨-, d2, d3⟩⟩ := hV i hi
    by_cases z : nI i = v3
    · rw [(h2 i hi).2 z]
      split <;> omega
    · rw [(h2 i hi).1 z]
      exact d3
  have key : ∀ (t j n : Nat) (ko : Int64 → Int64 → Int32 → AI → AF → AQ), j + t = m → t < n → f_X10_gains_9 (nI x) (nI m) v3 ko n (lN (rg_pr gv (rg_dg m x) j)) (lN (rg_pr g2 (rg_dg m x) j)) (nI j) I F = ko (lN (rg_pr gv (rg_dg m x) m)) (lN (rg_pr g2 (rg_dg m x) m)) (nI m) I F := by
    intro t
    induction t with
    | zero =>
      intro j n ko h1 hn
      match n, hn with
      | n + 1, _ =>
        have : j = m := by omega
        subst this
        rw [f_X10_gains_9, if_pos (Int32.le_refl _)]
    | succ t ih =>
      intro j n ko h1 hn
      match n, hn with
      | n + 1, hn =>
        have hj : j < m := by omega
        have hr := hd j hj
        obtain ⟨-, -, ⟨c1, c2, c3⟩, ⟨d1, d2, d3⟩⟩ := hV _ hr
        have k := ih (j + 1) n ko (by omega) (by omega)
        rw [rg_pr, rg_pr] at k
        rw [f_X10_gains_9, if_neg (show ¬ nI m ≤ nI j by rw [nle (by omega) (by omega)]; omega), M_fig hm hx hj, bd_s, vin_t (rg_dg_lt m x j) (by decide), cond_true, cond_true, cond_true, cond_true, nI_clamp (show rg_dg m x j < 2 ^ 31 by omega), c1, d1, nI_l (by omega), nI_l (by omega), lN_mul, lN_mul, nI_1]
        by_cases z : nI (rg_dg m x j) = v3
        · rw [(h2 _ hr).2 z] at k
          rw [if_neg (not_not_intro z)]
          by_cases w : gt (rg_dg m x j) ≤ 1
          · rw [if_pos w] at k
            rw [if_pos (show nI (gt (rg_dg m x j)) ≤ 1 from (nI_leI (b := 1) (by omega) (by decide)).mpr w), k]
          · rw [if_neg w] at k
            rw [if_neg (show ¬ nI (gt (rg_dg m x j)) ≤ 1 from fun q => w ((nI_leI (b := 1) (by omega) (by decide)).mp q)), show nI (gt (rg_dg m x j)) - 1 = nI (gt (rg_dg m x j) - 1) from pk_sub (b := 1) (by omega), nI_l (by omega), lN_mul, k]
        · rw [(h2 _ hr).1 z] at k
          rw [if_pos z, k]
  unfold f_X10_gains
  have p1 : rg_pr gv (rg_dg m x) m ≤ 160000 := rg_pr_b hm (fun j q => (hV _ (hd j q)).2.2.1.2.2)
  have p2 : rg_pr g2 (rg_dg m x) m ≤ 160000 := rg_pr_b hm (fun j q => b2 _ (hd j q))
  have := key m 0 ab_fu (fun w4 w6 _ I F => if (lg_cmp w6 w4) ≤ 0 then some ((0 : Int32), I, F) else some ((1 : Int32), I, F)) (by omega) (Nat.lt_of_le_of_lt hm (by decide))
  rw [show rg_pr gv (rg_dg m x) 0 = 1 from rfl, show rg_pr g2 (rg_dg m x) 0 = 1 from rfl, nI_0] at this
  refine this.trans ?_
  by_cases z : rg_pr g2 (rg_dg m x) m ≤ rg_pr gv (rg_dg m x) m
  · rw [if_pos ((lg_le (by omega) (by omega)).mpr z), if_neg (by omega)]
  · rw [if_neg (fun q => z ((lg_le (by omega) (by omega)).mp q)), if_pos (by omega)]
/-- the reference's rows of m, from x on -/
theorem M_rows {R m : Nat} {fr tt gv gt : Nat → Nat} {I : AI} {F : AF} {ko : Int32 → AI → AF → AQ} (hV : RV R fr tt gv gt (F 43) (F 44) (F 45) (F 46)) (e24 : I 24 = nI R) (hm : m ≤ 4) (hm0 : 0 < m) :
    ∀ (t x n : Nat), x + t = 8 ^ m → t < n → (∀ y, y < x → ¬ rg_good R fr tt gv gt m y) →
      (∃ y, y < 8 ^ m ∧ rg_good R fr tt gv gt m y ∧ (∀ z, z < y → ¬ rg_good R fr tt gv gt m z) ∧ f_X10_findRing_14 (nI m) ko n (nI x) I F = some (nI y, I, F)) ∨
      ((∀ y, y < 8 ^ m → ¬ rg_good R fr tt gv gt m y) ∧ f_X10_findRing_14 (nI m) ko n (nI x) I F = ko (nI (8 ^ m)) I F) := by
  have h8 : 8 ^ m ≤ 4096 := Nat.le_trans (Nat.pow_le_pow_right (by decide) hm) (by decide)
  intro t
  induction t with
  | zero =>
    intro x n h1 h2 h3
    match n, h2 with
    | n + 1, _ =>
      have : x = 8 ^ m := by omega
      subst this
      rw [f_X10_findRing_14, sl_3 m (by omega), if_pos (Int32.le_refl _)]
      exact Or.inr ⟨h3, rfl⟩
  | succ t ih =>
    intro x n h1 h2 h3
    match n, h2 with
    | n + 1, h2 =>
      rw [f_X10_findRing_14, sl_3 m (by omega), if_neg (show ¬ nI (8 ^ m) ≤ nI x by rw [nle (by omega) (by omega)]; omega)]
      have k := M_row hV e24 hm hm0 (show x < 2 ^ 31 by omega) m 0 ab_fu (by omega) (Nat.lt_of_le_of_lt hm (by decide)) trivial (Or.inl rfl)
      rw [show rg_mk fr (rg_dg m x) 0 = 0 from rfl, nI_0] at k
      have go : ¬ rg_good R fr tt gv gt m x → (∃ y, y < 8 ^ m ∧ rg_good R fr tt gv gt m y ∧ (∀ z, z < y → ¬ rg_good R fr tt gv gt m z) ∧ f_X10_findRing_14 (nI m) ko n (nI x + 1) I F = some (nI y, I, F)) ∨
      ((∀ y, y < 8 ^ m → ¬ rg_good R fr tt gv gt m y) ∧ f_X10_findRing_14 (nI m) ko n (nI x + 1) I F = ko (nI (8 ^ m)) I F) := by
        intro q
        rw [nI_1]
        refine ih (x + 1) n (by omega) (by omega) ?_
        intro y hy
        by_cases z : y = x
        · rw [z]
          exact q
        · exact h3 y (by omega)
      rcases k with ⟨k1, k2⟩ | ⟨k1, k2⟩
      · have := M_gain (g2 := gt) (v3 := -1) (I := I) hV hm (show x < 2 ^ 31 by omega) (fun j q => (rg_ok_get k2.1 q).1) (fun i hi => ⟨fun _ => rfl, fun q => by
          have := hV.1
          rw [nm1 (by omega)] at q
          exact q.elim⟩)
        have e : f_X10_isRow (nI x) (nI m) I F = some (1, I, F) := k1
        rw [e, bd_s, if_neg (show ¬ (1 : Int32) = 0 by decide), this, bd_s]
        by_cases z : rg_pr gv (rg_dg m x) m < rg_pr gt (rg_dg m x) m
        · rw [if_pos z, if_neg (show ¬ (1 : Int32) = 0 by decide)]
          exact Or.inl ⟨x, by omega, ⟨k2, z⟩, h3, rfl⟩
        · rw [if_neg z, if_pos rfl]
          exact go (fun q => z q.2)
      · have e : f_X10_isRow (nI x) (nI m) I F = some (0, I, F) := k1
        rw [e, bd_s, if_pos rfl]
        exact go (fun q => k2 q.1)
