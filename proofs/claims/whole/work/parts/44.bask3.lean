/-- scratch of the baskets, all of it -/
def bz (F : AF) (x y z t : Nat → Int32) : AF := va_up (va_up (va_up (va_up F 29 x) 30 y) 31 z) 32 t
theorem bz_29 {F : AF} {x y z t w : Nat → Int32} : va_up (bz F x y z t) 29 w = bz F w y z t := by
  funext j
  unfold bz va_up
  by_cases h : j = 29
  · subst h
    rfl
  · rw [if_neg h, if_neg h, if_neg h]
theorem bz_30 {F : AF} {x y z t w : Nat → Int32} : va_up (bz F x y z t) 30 w = bz F x w z t := by
  funext j
  unfold bz va_up
  by_cases h : j = 30
  · subst h
    rfl
  · rw [if_neg h, if_neg h, if_neg h]
theorem bz_31 {F : AF} {x y z t w : Nat → Int32} : va_up (bz F x y z t) 31 w = bz F x y w t := by
  funext j
  unfold bz va_up
  by_cases h : j = 31
  · subst h
    rfl
  · rw [if_neg h, if_neg h, if_neg h]
theorem bz_32 {F : AF} {x y z t w : Nat → Int32} : va_up (bz F x y z t) 32 w = bz F x y z w := by
  funext j
  unfold bz va_up
  by_cases h : j = 32
  · subst h
    rfl
  · rw [if_neg h, if_neg h, if_neg h]
theorem bz_id (F : AF) : bz F (F 29) (F 30) (F 31) (F 32) = F := by
  unfold bz
  rw [up_id, up_id, up_id, up_id]
theorem bw_id (F : AF) : bw F (F 32) (F 33) = F := by
  unfold bw
  rw [up_id, up_id]
theorem om_bz {F : AF} {x y z t : Nat → Int32} {k s : Nat} : om (bz F x y z t) k s = om F k s := rfl
theorem mz_bz {F : AF} {x y z t : Nat → Int32} {a s : Nat} : ∀ n v, mz (bz F x y z t) a s n v = mz F a s n v
  | 0, _ => rfl
  | n + 1, v => by
    rw [mz, mz, om_bz, mz_bz n]
    rfl
theorem ms_bz {F : AF} {x y z t : Nat → Int32} {a k s : Nat} : ms (bz F x y z t) a k s = ms F a k s := mz_bz 7 _
theorem ms_free {F : AF} {a k s : Nat} (hk : k < 6) (h1 : F 22 (6 + k) = -1) (h2 : a.testBit k = true) : ms F a k s = om F k s := by
  unfold ms
  rw [mz, if_neg (by rw [nm1 (by omega)]; exact id), nI_clamp (by omega), if_pos h1, if_pos h2]
theorem bk_31 {L a : Nat} {I : AI} {F : AF} {ko : Int32 → AI → AF → AQ} (hL : L ≤ 6) (ea : F 22 18 = nI a) (ha : a < 2 ^ L) (hh : ∀ k, k < L → F 14 k = -1 ∨ ∃ j, j < L ∧ F 14 k = nI j) (e19 : I 19 = nI L) :
    ∀ (t k n : Nat) (x y z u : Nat → Int32), k + t = L → t < n → (∀ i, i < k → x i = ms F a i 1 - ms F a i 0 ∧ y i = ms F a i 2 - ms F a i 0 ∧ z i = ms F a i 3 - ms F a i 0 ∧ u i = 0) →
      ∃ x' y' z' u', f_X0_search_31 ko n (nI k) I (bz F x y z u) = ko (nI L) I (bz F x' y' z' u') ∧ ∀ i, i < L → x' i = ms F a i 1 - ms F a i 0 ∧ y' i = ms F a i 2 - ms F a i 0 ∧ z' i = ms F a i 3 - ms F a i 0 ∧ u' i = 0 := by
  have me : ∀ (k s : Nat) (x y z u : Nat → Int32), k < L → s < 4 → f_X8_measure (nI k) (nI s) I (bz F x y z u) = some (ms F a k s, I, bz F x y z u) := by
    intro k s x y z u q1 q2
    rw [X_meas (F := bz F x y z u) hL ea ha (by omega) hh q1, ms_bz]
  intro t
  induction t with
  | zero =>
    intro k n x y z u h1 h2 h3
    match n, h2 with
    | n + 1, _ =>
      have : k = L := by omega
      subst this
      exact ⟨x, y, z, u, by rw [f_X0_search_31, e19, if_pos (Int32.le_refl _)], h3⟩
  | succ t ih =>
    intro k n x y z u h1 h2 h3
    match n, h2 with
    | n + 1, h2 =>
      have hk : k < L := by omega
      have m0 := fun x y z u => me k 0 x y z u hk (by decide)
      have m1 := fun x y z u => me k 1 x y z u hk (by decide)
      rw [nI_0] at m0
      rw [show nI 1 = 1 from rfl] at m1
      rw [f_X0_search_31, e19, if_neg (show ¬ nI L ≤ nI k by rw [nle (by omega) (by omega)]; omega), m0, bd_s, m1, bd_s, vin_t (show k < 6 by omega) (by decide), cond_true, lt_e, nI_clamp (show k < 2 ^ 31 by omega), show bz F x y z u 29 = x from rfl, bz_29, me k 2 _ _ _ _ hk (by decide), bd_s, cond_true, lt_e]
      rw [show ∀ x', bz F x' y z u 30 = y from fun _ => rfl, bz_30, me k 3 _ _ _ _ hk (by decide), bd_s, cond_true, cond_true, lt_e, show ∀ x' y', bz F x' y' z u 31 = z from fun _ _ => rfl, show ∀ x' y', bz F x' y' z u 32 = u from fun _ _ => rfl, bz_31, bz_32, nI_1]
      refine ih (k + 1) n _ _ _ _ (by omega) (by omega) ?_
      intro i hi
      by_cases q : i = k
      · subst q
        rw [pk_us, pk_us, pk_us, pk_us]
        exact ⟨rfl, rfl, rfl, rfl⟩
      · rw [pk_un q, pk_un q, pk_un q, pk_un q]
        exact h3 i (by omega)
theorem cpd_n (F : AF) : ∀ i, i ≤ 6 → ∃ c, c < 2 ^ i ∧ cpd F i = nI c ∧ ∀ k, k < i → c.testBit k = !decide (F 22 (6 + k) = -1)
  | 0, _ => ⟨0, by decide, rfl, fun k q => absurd q (Nat.not_lt_zero k)⟩
  | i + 1, h => by
    obtain ⟨c, c1, c2, c3⟩ := cpd_n F i (by omega)
    have c4 : c < 2 ^ (i + 1) := by rw [Nat.pow_succ]; omega
    rw [cpd]
    by_cases z : F 22 (6 + i) = -1
    · rw [if_pos z]
      refine ⟨c, c4, c2, ?_⟩
      intro k hk
      by_cases y : k = i
      · subst y
        rw [Nat.testBit_lt_two_pow c1, decide_eq_true z]
        rfl
      · exact c3 k (by omega)
    · rw [if_neg z, c2, sl_k i (by omega), n_or]
      refine ⟨c ||| 2 ^ i, Nat.or_lt_two_pow c4 (Nat.pow_lt_pow_right (by decide) (by omega)), rfl, ?_⟩
      intro k hk
      rw [Nat.testBit_or, Nat.testBit_two_pow]
      by_cases y : k = i
      · subst y
        rw [decide_eq_true rfl, decide_eq_false z, Bool.or_true]
        rfl
      · rw [decide_eq_false (fun q => y q.symm), Bool.or_false]
        exact c3 k (by omega)
theorem and64 : ∀ a, a < 64 → ∀ c, c < 64 → (nI a &&& (nI c ^^^ (-1 : Int32))) = nI (a &&& (63 ^^^ c)) := by decide +kernel
theorem and64b : ∀ k, k < 6 → (63 : Nat).testBit k = true := by decide
/-- living, and no wooden copy -/
def bk_al (F : AF) (a k : Nat) : Bool := a.testBit k && decide (F 22 (6 + k) = -1)
theorem bk_X {L C a T : Nat} {w : Nat → Nat} {I : AI} {F : AF} (hL : L ≤ 6) (ea : F 22 18 = nI a) (ha : a < 2 ^ L) (hh : ∀ k, k < L → F 14 k = -1 ∨ ∃ j, j < L ∧ F 14 k = nI j) (e9 : I 9 = nI L) (hT : T ≤ 12)
    (hG1 : ∀ x, bk_v (bk_al F a) (om F) x → T ≤ bk_tot x 6)
    (hG2 : ∀ x, bk_v (bk_al F a) (om F) x → bk_cz x 6 = bk_cz w 6 → bk_ah x w → T < bk_tot x 6)
    (hG3 : ∀ x, bk_v (bk_al F a) (om F) x → bk_cz x 6 < bk_cz w 6 → T < bk_tot x 6) :
    ∃ x y1 y2 y3 u z g B, f_X0_search I F = some (0, va_up (va_up (va_up I 19 (nI L)) 18 x) 17 (nI B), bw (bz F y1 y2 y3 u) z g) ∧ B ≤ 13 ∧ bk_res L T w (bk_v (bk_al F a) (om F)) (fun x => 1 ≤ bk_cz x 6) 13 (F 33) B g := by
  have ha6 : a < 64 := Nat.lt_of_lt_of_le ha (Nat.pow_le_pow_right (by decide) hL)
  obtain ⟨c, c1, c2, c3⟩ := cpd_n F 6 (Nat.le_refl 6)
  have hal : ∀ k, k < L → (a &&& (63 ^^^ c)).testBit k = bk_al F a k := by
    intro k hk
    rw [Nat.testBit_and, Nat.testBit_xor, and64b k (by omega), c3 k (by omega)]
    unfold bk_al
    cases a.testBit k <;> cases decide (F 22 (6 + k) = -1) <;> rfl
  have hal2 : ∀ k, bk_al F a k = true → k < L := by
    intro k q
    unfold bk_al at q
    rw [Bool.and_eq_true] at q
    exact lt_bit ha q.1
  have hab : a &&& (63 ^^^ c) < 2 ^ 31 := Nat.lt_of_le_of_lt Nat.and_le_left (by omega)
  obtain ⟨x', y', z', u', s1, s2⟩ := bk_31 (I := va_up (va_up (va_up I 19 (nI L)) 18 (nI (a &&& (63 ^^^ c)))) 17 (nI 13)) (ko := fun _ I F => f_X0_search_111 (fun _ I F => some (0, I, F)) ab_fu (1 : Int32) I F) hL ea ha hh rfl L 0 ab_fu (F 29) (F 30) (F 31) (F 32) (by omega) (Nat.lt_of_le_of_lt hL (by decide)) (fun i q => absurd q (Nat.not_lt_zero i))
  have hA : ∀ k, k < L → bk_al F a k = true → (bz F x' y' z' u') 29 k = om F k 1 - om F k 0 ∧ (bz F x' y' z' u') 30 k = om F k 2 - om F k 0 ∧ (bz F x' y' z' u') 31 k = om F k 3 - om F k 0 := by
    intro k hk q
    unfold bk_al at q
    rw [Bool.and_eq_true, decide_eq_true_eq] at q
    have f := fun s => ms_free (F := F) (a := a) (s := s) (show k < 6 by omega) q.2 q.1
    have e := s2 k hk
    rw [f, f, f, f] at e
    exact ⟨e.1, e.2.1, e.2.2.1⟩
  obtain ⟨B, g2, g3, t1, t2, t3⟩ := bk_111 (I := va_up (va_up I 19 (nI L)) 18 (nI (a &&& (63 ^^^ c)))) (F := bz F x' y' z' u') hL rfl rfl hab hal hal2 hT hG1 hG2 hG3 hA 3 1 ab_fu 13 u' (F 33) rfl (by decide) (by decide) (by decide) (fun i q => (s2 i q).2.2.2)
  refine ⟨nI (a &&& (63 ^^^ c)), x', y', z', u', g2, g3, B, ?_, t2, t3⟩
  unfold f_X0_search f_X8_living
  rw [lt_e, e9, bd_s, X_copied, bd_s, c2, ea, and64 a ha6 c c1, lt_e]
  rw [bz_id, nI_0] at s1
  refine s1.trans ?_
  show f_X0_search_111 (fun _ I F => some (0, I, F)) ab_fu (1 : Int32) (va_up (va_up (va_up I 19 (nI L)) 18 (nI (a &&& (63 ^^^ c)))) 17 (nI 13)) (bz F x' y' z' u') = _
  have e : bw (bz F x' y' z' u') u' (F 33) = bz F x' y' z' u' := bw_id (bz F x' y' z' u')
  rw [e, show nI 1 = 1 from rfl] at t1
  exact t1
