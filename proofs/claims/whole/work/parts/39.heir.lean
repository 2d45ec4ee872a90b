/-! heirs: the least together, and the first of the least -/
def hr_fr (a m j c : Nat) : Bool := !(c == j) && a.testBit c && !m.testBit c
def hr_mn (f : Nat → Bool) (v : Nat → Nat) : Nat → Nat
  | 0 => 1000000
  | n + 1 => if f n then (if v n < hr_mn f v n then v n else hr_mn f v n) else hr_mn f v n
def hr_W (a : Nat) (l : Nat → Nat) : Nat → Nat → Nat
  | 0, _ => 0
  | k + 1, m => if a.testBit (5 - k) then hr_mn (hr_fr a m (5 - k)) (fun c => dn (l (5 - k)) (l c) + hr_W a l k (m ||| 2 ^ c)) 6 else hr_W a l k m
def hr_sc (a : Nat) (l : Nat → Nat) : Nat → Nat → Nat → Option Nat
  | 0, _, _ => some 0
  | k + 1, m, y => if a.testBit (5 - k) then (if hr_fr a m (5 - k) (y / 6 ^ k) then (hr_sc a l k (m ||| 2 ^ (y / 6 ^ k)) (y % 6 ^ k)).map (fun z => dn (l (5 - k)) (l (y / 6 ^ k)) + z) else none) else (if y / 6 ^ k = 0 then hr_sc a l k m (y % 6 ^ k) else none)
def hr_fs (a : Nat) : Nat → Nat → Bool
  | 0, _ => true
  | k + 1, m => if a.testBit (5 - k) then (List.range 6).any (fun c => hr_fr a m (5 - k) c && hr_fs a k (m ||| 2 ^ c)) else hr_fs a k m
theorem hr_fs_all : ∀ a, a < 64 → 2 ≤ pcn a 6 → hr_fs a 6 0 = true := by decide +kernel
theorem mn_bd {f : Nat → Bool} {v : Nat → Nat} : ∀ n, hr_mn f v n ≤ 1000000
  | 0 => Nat.le_refl _
  | n + 1 => by
    have := mn_bd (f := f) (v := v) n
    rw [hr_mn]
    split
    · split <;> omega
    · exact this
theorem mn_le {f : Nat → Bool} {v : Nat → Nat} : ∀ {n c}, c < n → f c = true → hr_mn f v n ≤ v c
  | n + 1, c, h, q => by
    rw [hr_mn]
    by_cases z : c = n
    · subst z
      rw [if_pos q]
      split <;> omega
    · have := mn_le (v := v) (show c < n by omega) q
      split
      · split <;> omega
      · exact this
theorem mn_at {f : Nat → Bool} {v : Nat → Nat} : ∀ {n}, hr_mn f v n < 1000000 → ∃ c, c < n ∧ f c = true ∧ v c = hr_mn f v n
  | 0, h => absurd h (Nat.lt_irrefl _)
  | n + 1, h => by
    rw [hr_mn] at h ⊢
    by_cases z : f n = true
    · rw [if_pos z] at h ⊢
      by_cases w : v n < hr_mn f v n
      · rw [if_pos w]
        exact ⟨n, by omega, z, rfl⟩
      · rw [if_neg w] at h ⊢
        obtain ⟨c, c1, c2, c3⟩ := mn_at h
        exact ⟨c, by omega, c2, c3⟩
    · rw [if_neg z] at h ⊢
      obtain ⟨c, c1, c2, c3⟩ := mn_at h
      exact ⟨c, by omega, c2, c3⟩
theorem W_bd (a : Nat) (l : Nat → Nat) : ∀ k m, hr_W a l k m ≤ 1000000
  | 0, _ => Nat.zero_le _
  | k + 1, m => by
    rw [hr_W]
    split
    · exact mn_bd 6
    · exact W_bd a l k m
theorem W_le (a : Nat) (l : Nat → Nat) : ∀ k m y c, y < 6 ^ k → hr_sc a l k m y = some c → hr_W a l k m ≤ c
  | 0, _, _, _, _, h => by
    rw [hr_W]
    exact Nat.zero_le _
  | k + 1, m, y, c, hy, h => by
    rw [hr_sc] at h
    rw [hr_W]
    have h6 : y % 6 ^ k < 6 ^ k := Nat.mod_lt _ (Nat.pow_pos (by decide))
    by_cases z : a.testBit (5 - k) = true
    · rw [if_pos z] at h ⊢
      by_cases w : hr_fr a m (5 - k) (y / 6 ^ k) = true
      · rw [if_pos w] at h
        cases e : hr_sc a l k (m ||| 2 ^ (y / 6 ^ k)) (y % 6 ^ k) with
        | none =>
          rw [e] at h
          exact absurd h (by simp)
        | some c2 =>
          rw [e] at h
          have h2 : dn (l (5 - k)) (l (y / 6 ^ k)) + c2 = c := by simpa using h
          have h3 := W_le a l k _ _ _ h6 e
          have h4 : y / 6 ^ k < 6 := by
            rw [Nat.div_lt_iff_lt_mul (Nat.pow_pos (by decide))]
            rw [Nat.pow_succ] at hy
            omega
          have h5 := mn_le (v := fun c => dn (l (5 - k)) (l c) + hr_W a l k (m ||| 2 ^ c)) h4 w
          exact Nat.le_trans h5 (by show dn (l (5 - k)) (l (y / 6 ^ k)) + hr_W a l k (m ||| 2 ^ (y / 6 ^ k)) ≤ c; omega)
      · rw [if_neg w] at h
        exact absurd h (by simp)
    · rw [if_neg z] at h ⊢
      by_cases w : y / 6 ^ k = 0
      · rw [if_pos w] at h
        exact W_le a l k m _ c h6 h
      · rw [if_neg w] at h
        exact absurd h (by simp)
/-- the first of the least -/
def hr_1 (a : Nat) (l : Nat → Nat) (k m y : Nat) : Prop := y < 6 ^ k ∧ hr_sc a l k m y = some (hr_W a l k m) ∧ ∀ y', y' < y → ∀ c, hr_sc a l k m y' = some c → hr_W a l k m < c
theorem hr_1z (a : Nat) (l : Nat → Nat) (m : Nat) : hr_1 a l 0 m 0 := ⟨by decide, rfl, fun y q => absurd q (Nat.not_lt_zero y)⟩
theorem hr_1d {a : Nat} {l : Nat → Nat} {k m y : Nat} (hz : a.testBit (5 - k) = false) (h : hr_1 a l k m y) : hr_1 a l (k + 1) m y := by
  obtain ⟨h1, h2, h3⟩ := h
  have key : ∀ y', y' < 6 ^ k → hr_sc a l (k + 1) m y' = hr_sc a l k m y' := by
    intro y' q
    rw [hr_sc, hz, if_neg Bool.false_ne_true, Nat.div_eq_of_lt q, if_pos rfl, Nat.mod_eq_of_lt q]
  have eW : hr_W a l (k + 1) m = hr_W a l k m := by rw [hr_W, hz, if_neg Bool.false_ne_true]
  refine ⟨?_, ?_, ?_⟩
  · rw [Nat.pow_succ]; omega
  · rw [key y h1, h2, eW]
  · intro y' q c e
    rw [key y' (by omega)] at e
    rw [eW]
    exact h3 y' q c e
theorem hr_1s {a : Nat} {l : Nat → Nat} {k m y c : Nat} (hz : a.testBit (5 - k) = true) (hc : c < 6) (hf : hr_fr a m (5 - k) c = true) (he : dn (l (5 - k)) (l c) + hr_W a l k (m ||| 2 ^ c) = hr_W a l (k + 1) m)
    (hn : ∀ d, d < c → hr_fr a m (5 - k) d = true → ¬ dn (l (5 - k)) (l d) + hr_W a l k (m ||| 2 ^ d) = hr_W a l (k + 1) m) (h : hr_1 a l k (m ||| 2 ^ c) y) : hr_1 a l (k + 1) m (c * 6 ^ k + y) := by
  obtain ⟨h1, h2, h3⟩ := h
  have p6 : 0 < 6 ^ k := Nat.pow_pos (by decide)
  have ed : (c * 6 ^ k + y) / 6 ^ k = c := by
    rw [Nat.mul_comm, Nat.mul_add_div p6, Nat.div_eq_of_lt h1, Nat.add_zero]
  have em : (c * 6 ^ k + y) % 6 ^ k = y := by
    rw [Nat.mul_comm, Nat.mul_add_mod, Nat.mod_eq_of_lt h1]
  have hlt : c * 6 ^ k + y < 6 ^ (k + 1) := by
    have : (c + 1) * 6 ^ k ≤ 6 * 6 ^ k := Nat.mul_le_mul_right _ (by omega)
    rw [Nat.add_mul, Nat.one_mul] at this
    rw [Nat.pow_succ, Nat.mul_comm (6 ^ k) 6]
    omega
  refine ⟨hlt, ?_, ?_⟩
  · rw [hr_sc, if_pos hz, ed, em, if_pos hf, h2, ← he]
    rfl
  · intro y' q c' e
    have h6 : y' % 6 ^ k < 6 ^ k := Nat.mod_lt _ p6
    have hle : y' / 6 ^ k ≤ c := by
      have := Nat.div_le_div_right (c := 6 ^ k) (Nat.le_of_lt q)
      rw [ed] at this
      exact this
    rw [hr_sc, if_pos hz] at e
    by_cases w : hr_fr a m (5 - k) (y' / 6 ^ k) = true
    · rw [if_pos w] at e
      cases e2 : hr_sc a l k (m ||| 2 ^ (y' / 6 ^ k)) (y' % 6 ^ k) with
      | none =>
        rw [e2] at e
        exact absurd e (by simp)
      | some c2 =>
        rw [e2] at e
        have e3 : dn (l (5 - k)) (l (y' / 6 ^ k)) + c2 = c' := by simpa using e
        by_cases x : y' / 6 ^ k = c
        · rw [x] at e2 e3
          have hy : y' % 6 ^ k < y := by
            have := Nat.div_add_mod y' (6 ^ k)
            rw [x, Nat.mul_comm] at this
            omega
          have := h3 _ hy _ e2
          omega
        · have x2 : y' / 6 ^ k < c := by omega
          have w2 := W_le a l k _ _ _ h6 e2
          have w3 := hn _ x2 w
          have w4 : hr_W a l (k + 1) m ≤ dn (l (5 - k)) (l (y' / 6 ^ k)) + hr_W a l k (m ||| 2 ^ (y' / 6 ^ k)) := by
            have h4 : y' / 6 ^ k < 6 := by omega
            have h5 := mn_le (v := fun c => dn (l (5 - k)) (l c) + hr_W a l k (m ||| 2 ^ c)) h4 w
            rw [hr_W, if_pos hz]
            exact h5
          omega
    · rw [if_neg w] at e
      exact absurd e (by simp)
theorem dn_ln {x y n : Nat} (hx : x ≤ n) (hy : y ≤ n) : dn x y ≤ n := by
  unfold dn
  split <;> omega
theorem W_fs {a : Nat} {l : Nat → Nat} (hl : ∀ c, a.testBit c = true → l c ≤ 140) : ∀ k m, hr_fs a k m = true → hr_W a l k m ≤ 140 * k
  | 0, _, _ => Nat.zero_le _
  | k + 1, m, h => by
    rw [hr_fs] at h
    rw [hr_W]
    by_cases z : a.testBit (5 - k) = true
    · rw [if_pos z] at h ⊢
      obtain ⟨c, c1, c2⟩ := List.any_eq_true.mp h
      rw [Bool.and_eq_true] at c2
      have c3 : c < 6 := List.mem_range.mp c1
      have h5 := mn_le (v := fun c => dn (l (5 - k)) (l c) + hr_W a l k (m ||| 2 ^ c)) c3 c2.1
      have h6 := W_fs hl k _ c2.2
      have h7 : a.testBit c = true := by
        have := c2.1
        unfold hr_fr at this
        simp only [Bool.and_eq_true] at this
        exact this.1.2
      have h8 := dn_ln (hl _ z) (hl _ h7)
      exact Nat.le_trans h5 (by show dn (l (5 - k)) (l c) + hr_W a l k (m ||| 2 ^ c) ≤ 140 * (k + 1); omega)
    · rw [if_neg z] at h ⊢
      have := W_fs hl k m h
      omega
theorem sc_bd {a : Nat} {l : Nat → Nat} (hl : ∀ c, a.testBit c = true → l c ≤ 140) : ∀ k m y c, hr_sc a l k m y = some c → c ≤ 140 * k
  | 0, _, _, c, h => by
    have : 0 = c := by simpa [hr_sc] using h
    omega
  | k + 1, m, y, c, h => by
    rw [hr_sc] at h
    by_cases z : a.testBit (5 - k) = true
    · rw [if_pos z] at h
      by_cases w : hr_fr a m (5 - k) (y / 6 ^ k) = true
      · rw [if_pos w] at h
        cases e2 : hr_sc a l k (m ||| 2 ^ (y / 6 ^ k)) (y % 6 ^ k) with
        | none =>
          rw [e2] at h
          exact absurd h (by simp)
        | some c2 =>
          rw [e2] at h
          have e3 : dn (l (5 - k)) (l (y / 6 ^ k)) + c2 = c := by simpa using h
          have h6 := sc_bd hl k _ _ _ e2
          have h7 : a.testBit (y / 6 ^ k) = true := by
            unfold hr_fr at w
            simp only [Bool.and_eq_true] at w
            exact w.1.2
          have h8 := dn_ln (hl _ z) (hl _ h7)
          omega
      · rw [if_neg w] at h
        exact absurd h (by simp)
    · rw [if_neg z] at h
      by_cases w : y / 6 ^ k = 0
      · rw [if_pos w] at h
        have := sc_bd hl k m _ c h
        omega
      · rw [if_neg w] at h
        exact absurd h (by simp)
/-- the living below a place -/
theorem pcn_mono (a : Nat) : ∀ {i j : Nat}, i ≤ j → pcn a i ≤ pcn a j := by
  intro i j h
  induction h with
  | refl => exact Nat.le_refl _
  | step _ ih =>
    rw [pcn]
    omega
theorem pcn_lt {a i j : Nat} (h : i < j) (hi : a.testBit i = true) : pcn a i < pcn a j := by
  have := pcn_mono a (show i + 1 ≤ j from h)
  rw [pcn, if_pos hi] at this
  omega
theorem pcn_ex {a t : Nat} : ∀ {n}, t < pcn a n → ∃ j, j < n ∧ a.testBit j = true ∧ pcn a j = t
  | 0, h => absurd h (Nat.not_lt_zero t)
  | n + 1, h => by
    by_cases z : t < pcn a n
    · obtain ⟨j, j1, j2⟩ := pcn_ex z
      exact ⟨j, by omega, j2⟩
    · rw [pcn] at h
      by_cases w : a.testBit n = true
      · rw [if_pos w] at h
        exact ⟨n, by omega, w, by omega⟩
      · rw [if_neg w] at h
        omega
/-- W skips the dead -/
theorem W_skip {a : Nat} {l : Nat → Nat} {m i j : Nat} (h : i ≤ j) (hj : j ≤ 6) (e : pcn a i = pcn a j) : hr_W a l (6 - i) m = hr_W a l (6 - j) m := by
  induction h with
  | refl => rfl
  | step h ih =>
    rename_i j
    have h1 := pcn_mono a h
    have h2 : ¬ a.testBit j = true := by
      intro q
      rw [pcn, if_pos q] at e
      omega
    rw [pcn, if_neg h2] at e
    rw [ih (by omega) (by omega), show 6 - j = (6 - (j + 1)) + 1 by omega, hr_W, show 5 - (6 - (j + 1)) = j by omega, if_neg h2]
theorem bits64 : ∀ m, m < 64 → ∀ c, c < 6 → m.testBit c = false → pcn (m ||| 2 ^ c) 6 = pcn m 6 + 1 ∧ m < m ||| 2 ^ c ∧ m ||| 2 ^ c < 64 := by decide +kernel
theorem sub64 : ∀ m, m < 64 → ∀ a, a < 64 → ((nI m &&& (nI a ^^^ (-1 : Int32))) = 0 ↔ m &&& a = m) := by decide +kernel
theorem sub_s {m a c : Nat} (h : m &&& a = m) (hc : a.testBit c = true) : (m ||| 2 ^ c) &&& a = m ||| 2 ^ c := by
  apply Nat.eq_of_testBit_eq
  intro i
  have h1 := congrArg (fun z => z.testBit i) h
  simp only [Nat.testBit_and] at h1
  rw [Nat.testBit_and, Nat.testBit_or, Nat.testBit_two_pow]
  by_cases z : c = i
  · subst z
    rw [hc, Bool.and_true]
  · rw [decide_eq_false z, Bool.or_false, h1]
