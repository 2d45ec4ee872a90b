/-! limbs, bits, measures: the class's and the reference's functions have one value -/
theorem sh_k : ∀ k, k < 9 → ((nI k &&& 31).toBitVec.smod 32).toNat = k := by decide
theorem sl_k : ∀ k, k < 9 → (1 : Int32) <<< (nI k &&& 31) = nI (2 ^ k) := by decide
theorem bit_n {a k : Nat} (ha : a < 2 ^ 31) (hk : k < 9) : (nI a >>> (nI k &&& 31)) &&& 1 = if a.testBit k then 1 else 0 := by
  rw [pk_shrN ha _ k (sh_k k hk), pk_andN (k := 1) (by
    have : a / 2 ^ k ≤ a := Nat.div_le_self _ _
    omega) rfl]
  rw [Nat.testBit_eq_decide_div_mod_eq]
  have h2 : a / 2 ^ k % 2 ^ 1 = 0 ∨ a / 2 ^ k % 2 ^ 1 = 1 := by omega
  rcases h2 with h | h
  · rw [h]
    have : a / 2 ^ k % 2 = 0 := by omega
    simp [this, nI_0]
  · rw [h]
    have : a / 2 ^ k % 2 = 1 := by omega
    simp [this]
    rfl
theorem hasL_in {L k : Nat} {I : AI} {F : AF} (hL : L ≤ 6) (e : I 9 = nI L) (hk : k < L) : f_X5_hasLimb (nI k) I F = some (1, I, F) := by
  unfold f_X5_hasLimb
  simp (disch := omega) only [e, n0lt, nle, if_neg (Nat.not_le.mpr hk), if_false]
theorem hasL_out {L : Nat} {I : AI} {F : AF} {x : Int32} (hL : L ≤ 6) (e : I 9 = nI L) (hx : x < 0 ∨ ∃ k, L ≤ k ∧ k < 2 ^ 31 ∧ x = nI k) : f_X5_hasLimb x I F = some (0, I, F) := by
  unfold f_X5_hasLimb
  rcases hx with h | ⟨k, h1, h2, h3⟩
  · rw [if_pos h]
  · subst h3
    simp (disch := omega) only [e, n0lt, nle, if_pos h1, if_false]
theorem in_in {L k : Nat} {e : Int32} {I : AI} {F : AF} (hL : L ≤ 8) (he : e = nI L) (hk : k < L) : f_X10_in (nI k).toInt64 (0 : Int64) ((e - 1).toInt64) I F = some (1, I, F) := by
  subst he
  rw [show (0 : Int64) = (0 : Int32).toInt64 from rfl, in_eq]
  have e1 : nI L - 1 = nI (L - 1) := pk_sub (a := L) (b := 1) (by omega)
  rw [e1]
  simp (disch := omega) only [n0le, nle, true_and]
  rw [if_pos (by omega)]
theorem in_out {L : Nat} {x e : Int32} {I : AI} {F : AF} (hL : L ≤ 8) (he : e = nI L) (hx : x < 0 ∨ ∃ k, L ≤ k ∧ k < 2 ^ 31 ∧ x = nI k) : f_X10_in x.toInt64 (0 : Int64) ((e - 1).toInt64) I F = some (0, I, F) := by
  subst he
  rw [show (0 : Int64) = (0 : Int32).toInt64 from rfl, in_eq]
  rcases hx with h | ⟨k, h1, h2, h3⟩
  · rw [if_neg (fun q => Int32.not_le.mpr h q.1)]
  · subst h3
    rw [if_neg]
    intro q
    have q2 := q.2
    rw [Int32.le_iff_toInt_le, nI_toInt h2] at q2
    have e1 : (nI L - 1).toInt = (L : Int) - 1 := pk_sub_toInt (a := L) (b := 1) (by omega) (by omega)
    omega
theorem isL_in {L k : Nat} {I : AI} {F : AF} (hL : L ≤ 6) (e : I 22 = nI L) (hk : k < L) : f_X10_isLimb (nI k) I F = some (1, I, F) := by
  unfold f_X10_isLimb
  rw [in_in (by omega) e hk]
  rfl
theorem isL_out {L : Nat} {I : AI} {F : AF} {x : Int32} (hL : L ≤ 6) (e : I 22 = nI L) (hx : x < 0 ∨ ∃ k, L ≤ k ∧ k < 2 ^ 31 ∧ x = nI k) : f_X10_isLimb x I F = some (0, I, F) := by
  unfold f_X10_isLimb
  rw [in_out (by omega) e hx]
  rfl
theorem i_cs (x : Int32) {n : Nat} (hn : n < 2 ^ 31) : (∃ k, k < n ∧ x = nI k) ∨ (x < 0 ∨ ∃ k, n ≤ k ∧ k < 2 ^ 31 ∧ x = nI k) := by
  rcases i_cases x hn with h | h | h
  · exact Or.inr (Or.inl h)
  · exact Or.inl h
  · exact Or.inr (Or.inr h)
/-- who lives -/
def lvs (F : AF) (x : Int32) : Prop := ¬ (F 22 18 >>> (x &&& 31)) &&& 1 = 0
theorem X_lives {I : AI} {F : AF} {a k : Nat} (e : F 22 18 = nI a) (ha : a < 2 ^ 31) (hk : k < 9) : f_X8_lives (nI k) I F = some ((if a.testBit k then 1 else 0), I, F) := by
  unfold f_X8_lives
  rw [e, bit_n ha hk]
  cases a.testBit k <;> rfl
theorem M_has {I : AI} {F : AF} {a k : Nat} (ha : a < 2 ^ 31) (hk : k < 9) : f_X10_has (nI a) (nI k) I F = some ((if a.testBit k then 1 else 0), I, F) := by
  unfold f_X10_has
  rw [bit_n ha hk]
  cases a.testBit k <;> rfl
theorem M_lives {I : AI} {F : AF} {a k : Nat} (e : F 47 18 = nI a) (ha : a < 2 ^ 31) (hk : k < 9) : f_X10_lives (nI k) I F = some ((if a.testBit k then 1 else 0), I, F) := by
  unfold f_X10_lives
  rw [e, M_has ha hk]
  cases a.testBit k <;> rfl
/-- a limb's own measure in a season; the measure by heirs -/
def om (F : AF) (k s : Nat) : Int32 := if 0 < F 22 k + (F 13 (4 * k + s % 4) - nI 9) then F 22 k + (F 13 (4 * k + s % 4) - nI 9) else 0
def mz (F : AF) (a s : Nat) : Nat → Int32 → Int32
  | 0, _ => 0
  | n + 1, x => if x = -1 then 0 else if F 22 (6 + x.toNatClampNeg) = -1 then (if a.testBit x.toNatClampNeg then om F x.toNatClampNeg s else mz F a s n (F 14 x.toNatClampNeg)) else F 22 (6 + x.toNatClampNeg)
def ms (F : AF) (a k s : Nat) : Int32 := mz F a s 7 (nI k)
theorem X_added {L k s : Nat} {I : AI} {F : AF} (hL : L ≤ 6) (hk : k < L) (hs : s < 2 ^ 30) : f_X5_addedIn (nI k) (nI s) I F = some (F 13 (4 * k + s % 4) - nI 9, I, F) := by
  unfold f_X5_addedIn
  rw [pk_rem (a := s) (d := 4) (by omega) (by decide) (by decide), pk_mul, nI_add]
  have : k * 4 + s % 4 < 24 := by omega
  simp (disch := omega) only [vin_t, cond_true, nI_clamp]
  rw [show k * 4 + s % 4 = 4 * k + s % 4 by omega]
theorem X_own {L k s : Nat} {I : AI} {F : AF} (hL : L ≤ 6) (hk : k < L) (hs : s < 2 ^ 30) : f_X8_ownMeasure (nI k) (nI s) I F = some (om F k s, I, F) := by
  unfold f_X8_ownMeasure
  rw [← nI_0, nI_add, Nat.zero_add]
  simp (disch := omega) only [vin_t, cond_true, nI_clamp, X_added hL hk hs, bd_s, nI_0]
  rfl
theorem X_mz {L a s : Nat} {I : AI} {F : AF} (hL : L ≤ 6) (ea : F 22 18 = nI a) (ha : a < 2 ^ L) (hs : s < 2 ^ 30) (hh : ∀ k, k < L → F 14 k = -1 ∨ ∃ j, j < L ∧ F 14 k = nI j) :
    ∀ (m i n : Nat) (x : Int32), i + m = 7 → m < n → (x = -1 ∨ ∃ k, k < L ∧ x = nI k) → f_X8_measure_6 (nI s) (fun _ _ I F => some (0, I, F)) n x (nI i) I F = some (mz F a s m x, I, F) := by
  have ha31 : a < 2 ^ 31 := Nat.lt_of_lt_of_le ha (Nat.pow_le_pow_right (by decide) (by omega))
  intro m
  induction m with
  | zero =>
    intro i n x h1 h2 hx
    match n, h2 with
    | n + 1, _ =>
      rw [f_X8_measure_6]
      have : i = 7 := by omega
      subst this
      rfl
  | succ m ih =>
    intro i n x h1 h2 hx
    match n, h2 with
    | n + 1, h2 =>
      rw [f_X8_measure_6, mz]
      have hi : ¬ 6 < i := by omega
      simp (disch := omega) only [nlt, if_neg hi]
      rcases hx with hx | ⟨k, hk, hx⟩
      · rw [if_pos hx, if_pos hx]
      · subst hx
        have ek : ((6 : Nat) + k) < 21 := by omega
        rw [nI_add]
        simp (disch := omega) only [nm1, if_false, vin_t, cond_true, nI_clamp, X_lives ea ha31 (show k < 9 by omega), bd_s, X_own hL hk hs]
        by_cases hc : F 22 (6 + k) = -1
        · rw [if_pos hc, if_pos hc]
          cases hb : a.testBit k with
          | false =>
            simp only [Bool.false_eq_true, if_false, if_true]
            rw [show (1 : Int32) = nI 1 from rfl, nI_add]
            exact ih (i + 1) n (F 14 k) (by omega) (by omega) (hh k hk)
          | true => rfl
        · rw [if_neg hc, if_neg hc]
theorem X_meas {L a k s : Nat} {I : AI} {F : AF} (hL : L ≤ 6) (ea : F 22 18 = nI a) (ha : a < 2 ^ L) (hs : s < 2 ^ 30) (hh : ∀ k, k < L → F 14 k = -1 ∨ ∃ j, j < L ∧ F 14 k = nI j) (hk : k < L) : f_X8_measure (nI k) (nI s) I F = some (ms F a k s, I, F) := by
  unfold f_X8_measure
  exact X_mz hL ea ha hs hh 7 0 ab_fu (nI k) rfl (by decide) (Or.inr ⟨k, hk, rfl⟩)
theorem M_own {L C k s : Nat} {I : AI} {F G : AF} (hL : L ≤ 6) (hk : k < L) (hs : s < 2 ^ 30) (hP : PL L (G 13) (G 14) (F 38) (F 39)) (hS : SR L C (G 15) (G 22) (F 47)) : f_X10_grown (nI k) (nI s) I F = some (om G k s, I, F) := by
  unfold f_X10_grown
  obtain ⟨v, hv, e1, e2⟩ := hP.1 (4 * k + s % 4) (by omega)
  obtain ⟨e3, -⟩ := hS.1 k hk
  rw [pk_rem (a := s) (d := 4) (by omega) (by decide) (by decide), pk_mul, nI_add]
  have : 4 * k + s % 4 < 24 := by omega
  simp (disch := omega) only [vin_t, cond_true, nI_clamp, lt_e, e3, e2]
  unfold om
  rw [e1]
  by_cases q : 0 < G 22 k + (nI v - nI 9)
  · rw [if_pos q, if_neg (Int32.not_le.mpr q)]
  · rw [if_neg q, if_pos (Int32.not_lt.mp q)]
theorem M_mz {L C a s : Nat} {I : AI} {F G : AF} (hL : L ≤ 6) (ea : G 22 18 = nI a) (ha : a < 2 ^ L) (hs : s < 2 ^ 30) (hP : PL L (G 13) (G 14) (F 38) (F 39)) (hS : SR L C (G 15) (G 22) (F 47)) :
    ∀ (m i n : Nat) (x : Int32), i + m = 7 → m < n → (x = -1 ∨ ∃ k, k < L ∧ x = nI k) → f_X10_measure_5 (nI s) (fun _ _ I F => some (0, I, F)) n x (nI i) I F = some (mz G a s m x, I, F) := by
  have ha31 : a < 2 ^ 31 := Nat.lt_of_lt_of_le ha (Nat.pow_le_pow_right (by decide) (by omega))
  have ea2 : F 47 18 = nI a := by rw [hS.2.2.2.2.2.2.1, ea]
  intro m
  induction m with
  | zero =>
    intro i n x h1 h2 hx
    match n, h2 with
    | n + 1, _ =>
      rw [f_X10_measure_5]
      have : i = 7 := by omega
      subst this
      rfl
  | succ m ih =>
    intro i n x h1 h2 hx
    match n, h2 with
    | n + 1, h2 =>
      rw [f_X10_measure_5, mz]
      have hi : ¬ 6 < i := by omega
      simp (disch := omega) only [nlt, if_neg hi]
      rcases hx with hx | ⟨k, hk, hx⟩
      · subst hx
        rfl
      · subst hx
        have ek : ((6 : Nat) + k) < 21 := by omega
        obtain ⟨e1, e2⟩ := hS.2.1 k hk
        obtain ⟨e3, e4⟩ := hP.2 k hk
        rw [nI_add]
        simp (disch := omega) only [nm1, if_false, n0lt, vin_t, cond_true, nI_clamp, M_lives ea2 ha31 (show k < 9 by omega), bd_s, M_own hL hk hs hP hS, e1, e3, lt_e]
        by_cases hc : G 22 (6 + k) = -1
        · rw [if_pos hc, if_pos (by rw [hc]; decide)]
          cases hb : a.testBit k with
          | false =>
            simp only [Bool.false_eq_true, if_false, if_true]
            rw [show (1 : Int32) = nI 1 from rfl, nI_add]
            exact ih (i + 1) n (G 14 k) (by omega) (by omega) (e4.imp id fun ⟨j, h1, _, h3⟩ => ⟨j, h1, h3⟩)
          | true => rfl
        · rcases e2 with e2 | ⟨v, hv, e2⟩
          · exact absurd e2 hc
          · rw [if_neg hc, if_neg (by rw [e2]; exact nI_pos (by omega))]
theorem M_meas {L C a k s : Nat} {I : AI} {F G : AF} (hL : L ≤ 6) (ea : G 22 18 = nI a) (ha : a < 2 ^ L) (hs : s < 2 ^ 30) (hP : PL L (G 13) (G 14) (F 38) (F 39)) (hS : SR L C (G 15) (G 22) (F 47)) (hk : k < L) : f_X10_measure (nI k) (nI s) I F = some (ms G a k s, I, F) := by
  unfold f_X10_measure
  exact M_mz hL ea ha hs hP hS 7 0 ab_fu (nI k) rfl (by decide) (Or.inr ⟨k, hk, rfl⟩)
