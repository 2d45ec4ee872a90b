/-! THE INVARIANT between the class and the reference -/
def pt (r : Nat → Int32) : Nat → Int32
  | 0 => 0
  | n + 1 => pt r n + (if 0 < r (12 + n) then r (12 + n) else 0)
def nt (r : Nat → Int32) : Nat → Int32
  | 0 => 0
  | n + 1 => if ¬ r (12 + n) = 0 then nt r n else nt r n ||| ((1 : Int32) <<< (nI n &&& 31))
/-- a state's two pictures: r the class's row (0 lengths, 6 copies, 12 paid, 18 living, 19 seasons), w the reference's (20 paid together, 21 noughts) -/
def SR (L C : Nat) (T r w : Nat → Int32) : Prop :=
  (∀ k, k < L → w k = r k ∧ ∃ a, 1 ≤ a ∧ a ≤ 140 ∧ r k = nI a) ∧
  (∀ k, k < L → w (6 + k) = r (6 + k) ∧ (r (6 + k) = -1 ∨ ∃ a, a ≤ 149 ∧ r (6 + k) = nI a)) ∧
  (∀ k, L ≤ k → k < 6 → r (6 + k) = -1) ∧
  (∀ c, c < C → w (12 + c) = r (12 + c) ∧ (r (12 + c) = -1 ∨ ∃ a, a ≤ 7450 ∧ r (12 + c) = nI a ∧ T c < r 19)) ∧
  (∀ c, C ≤ c → c < 6 → r (12 + c) = -1) ∧
  (∃ a, a < 2 ^ L ∧ r 18 = nI a) ∧ w 18 = r 18 ∧ (∃ a, a ≤ 9040 ∧ r 19 = nI a) ∧ w 19 = r 19 ∧ w 20 = pt r 6 ∧ w 21 = nt r 6
def TX (t : Nat) (i0 i5 i26 i27 : Int32) (f0 f48 : Nat → Int32) : Prop := t ≤ 250 ∧ i5 = nI t ∧ i26 = nI t ∧ i27 = i0 ∧ ∀ j, j < t → f48 j = f0 j ∧ ∃ a, a ≤ 255 ∧ f0 j = nI a
def PC (L C R : Nat) (i9 i10 i11 i22 i23 i24 : Int32) : Prop := L ≤ 6 ∧ C ≤ 6 ∧ R ≤ 8 ∧ i9 = nI L ∧ i10 = nI C ∧ i11 = nI R ∧ i22 = nI L ∧ i23 = nI C ∧ i24 = nI R
def PL (L : Nat) (f13 f14 f38 f39 : Nat → Int32) : Prop :=
  (∀ j, j < 4 * L → ∃ a, a ≤ 18 ∧ f13 j = nI a ∧ f38 j = nI a - nI 9) ∧ ∀ k, k < L → f39 k = f14 k ∧ (f14 k = -1 ∨ ∃ j, j < L ∧ ¬ j = k ∧ f14 k = nI j)
def PQ (L C : Nat) (f15 f16 f17 f40 f41 f42 : Nat → Int32) : Prop :=
  ∀ c, c < C → f40 c = f15 c ∧ f41 c = f16 c ∧ f42 c = f17 c ∧ (∃ a, a ≤ 99 ∧ f15 c = nI a) ∧ (∃ k, k < L ∧ f16 c = nI k) ∧ ∃ a, 1 ≤ a ∧ a ≤ 50 ∧ f17 c = nI a
def PV (L R : Nat) (f18 f19 f20 f21 f43 f44 f45 f46 : Nat → Int32) : Prop :=
  ∀ c, c < R → f43 c = f18 c ∧ f44 c = f19 c ∧ f45 c = f20 c ∧ f46 c = f21 c ∧ (∃ k, k < L ∧ f18 c = nI k) ∧ (∃ k, k < L ∧ f19 c = nI k) ∧ (∃ a, 1 ≤ a ∧ a ≤ 20 ∧ f20 c = nI a) ∧ (∃ a, 1 ≤ a ∧ a ≤ 20 ∧ f21 c = nI a) ∧ ¬ f18 c = f19 c
def SD (i25 : Int32) (f22 : Nat → Int32) : Prop := i25 = f22 20 ∧ ∃ a, a < 2 ^ 31 ∧ f22 20 = nI a
def UN (L C u o : Nat) (i12 i13 i34 : Int32) (T f23 f59 : Nat → Int32) : Prop := u ≤ 20 ∧ o < 20 ∧ i12 = nI o ∧ i13 = nI u ∧ i34 = nI u ∧ ∀ j, j < u → SR L C T (fun i => f23 ((o + j) % 20 * 20 + i)) (fun i => f59 (22 * j + i))
def IM (L C q : Nat) (i14 : Int32) (T f24 f64 f65 : Nat → Int32) : Prop := q < 4 ∧ i14 = nI q ∧ ∀ i, i < 2 → (f65 i = if q.testBit i then 1 else 0) ∧ (q.testBit i = true → SR L C T (fun j => f24 (21 * i + j)) (fun j => f64 (23 * i + j)) ∧ f64 (23 * i + 22) = f24 (21 * i + 20) ∧ ∃ a, a < 2 ^ 31 ∧ f24 (21 * i + 20) = nI a)
def NT (L g b : Nat) (i15 i16 i37 i38 : Int32) (f25 f26 f27 f28 f60 f61 f62 f63 : Nat → Int32) : Prop := g ≤ 8 ∧ b ≤ 15 ∧ i15 = nI g ∧ i16 = nI b ∧ i37 = nI g ∧ i38 = nI b ∧ (∀ j, j < g → f60 j = f25 j ∧ f61 j = f26 j) ∧ ∀ j, j < b → f62 j = f27 j ∧ f63 j = f28 j ∧ ∃ k, k < L ∧ f27 j = nI k
def IV (t L C R u o q g b : Nat) (I : AI) (F : AF) : Prop :=
  TX t (I 0) (I 5) (I 26) (I 27) (F 0) (F 48) ∧ PC L C R (I 9) (I 10) (I 11) (I 22) (I 23) (I 24) ∧ PL L (F 13) (F 14) (F 38) (F 39) ∧ PQ L C (F 15) (F 16) (F 17) (F 40) (F 41) (F 42) ∧ PV L R (F 18) (F 19) (F 20) (F 21) (F 43) (F 44) (F 45) (F 46) ∧
  SR L C (F 15) (F 22) (F 47) ∧ SD (I 25) (F 22) ∧ UN L C u o (I 12) (I 13) (I 34) (F 15) (F 23) (F 59) ∧ IM L C q (I 14) (F 15) (F 24) (F 64) (F 65) ∧ NT L g b (I 15) (I 16) (I 37) (I 38) (F 25) (F 26) (F 27) (F 28) (F 60) (F 61) (F 62) (F 63)
def Inv (I : AI) (F : AF) : Prop := ∃ t L C R u o q g b : Nat, IV t L C R u o q g b I F
theorem bd_s (r : Int32) (I : AI) (F : AF) (g : Int32 → AI → AF → AQ) : ab_bd (some (r, I, F)) g = g r I F := by
  have h : ∀ o : AQ, o = some (r, I, F) → ab_bd o g = g r I F := by
    intro o e
    subst e
    rfl
  exact h _ rfl
theorem lt_e {α : Type} (e : α) (g : α → AQ) : ab_lt e g = g e := by
  have h : ∀ x : α, x = e → ab_lt x g = g e := by
    intro x h
    subst h
    rfl
  exact h _ rfl
theorem vin_t {k n : Nat} (h : k < n) (hn : n < 2 ^ 31) : ab_vin (nI k) n = true := by
  have h1 : ¬ nI k < 0 := nI_pos (by omega)
  have h2 : (nI k).toNatClampNeg = k := nI_clamp (by omega)
  simp only [ab_vin, h2, Bool.not_eq_true', Bool.or_eq_false_iff, decide_eq_false_iff_not]
  exact ⟨h1, by omega⟩
theorem up_n {α : Type} {f : Nat → α} {k j : Nat} {v : α} (h : ¬ j = k) : va_up f k v j = f j := if_neg h
theorem up_s {α : Type} {f : Nat → α} {k : Nat} {v : α} : va_up f k v k = v := if_pos rfl
theorem n0lt {n : Nat} (h : n < 2 ^ 31) : (nI n < 0) = False := eq_false (nI_pos h)
theorem n0le {n : Nat} (h : n < 2 ^ 31) : (0 ≤ nI n) = True := eq_true (nI_pos' h)
theorem n0eq {n : Nat} (h : n < 2 ^ 31) : (nI n = 0) = (n = 0) := propext (by rw [← nI_0, nI_eq h (by decide)])
theorem n0gt {n : Nat} (h : n < 2 ^ 31) : (0 < nI n) = (0 < n) := propext (by rw [← nI_0, nI_ltI (by decide) h])
theorem nle0 {n : Nat} (h : n < 2 ^ 31) : (nI n ≤ 0) = (n ≤ 0) := propext (by rw [← nI_0, nI_leI h (by decide)])
theorem nm1 {n : Nat} (h : n < 2 ^ 31) : (nI n = -1) = False := eq_false (fun q => by
  have h1 := congrArg Int32.toInt q
  rw [nI_toInt h] at h1
  have h2 : (-1 : Int32).toInt = -1 := rfl
  omega)
theorem nlt {a b : Nat} (ha : a < 2 ^ 31) (hb : b < 2 ^ 31) : (nI a < nI b) = (a < b) := propext (nI_ltI ha hb)
theorem nle {a b : Nat} (ha : a < 2 ^ 31) (hb : b < 2 ^ 31) : (nI a ≤ nI b) = (a ≤ b) := propext (nI_leI ha hb)
theorem neq {a b : Nat} (ha : a < 2 ^ 31) (hb : b < 2 ^ 31) : (nI a = nI b) = (a = b) := propext (nI_eq ha hb)
/-- an Int32 is below 0, or a number, in or out of a bound -/
theorem i_cases (x : Int32) {n : Nat} (hn : n < 2 ^ 31) : x < 0 ∨ (∃ k, k < n ∧ x = nI k) ∨ ∃ k, n ≤ k ∧ k < 2 ^ 31 ∧ x = nI k := by
  by_cases h : x < 0
  · exact Or.inl h
  · obtain ⟨k, hk, e⟩ := nI_of h
    by_cases g : k < n
    · exact Or.inr (Or.inl ⟨k, g, e⟩)
    · exact Or.inr (Or.inr ⟨k, by omega, hk, e⟩)
/-- 'in' of the reference -/
theorem in_eq (a b c : Int32) (I : AI) (F : AF) : f_X10_in a.toInt64 b.toInt64 c.toInt64 I F = some ((if b ≤ a ∧ a ≤ c then 1 else 0), I, F) := by
  have e : ∀ x : Int32, x.toInt64.toInt = x.toInt := fun x => Int32.toInt_toInt64 x
  have h1 : lg_cmp a.toInt64 b.toInt64 < 0 ↔ a < b := by
    simp only [lg_cmp, GT.gt, Int64.lt_iff_toInt_lt, ← Int64.toInt_inj, e, Int32.lt_iff_toInt_lt]
    split
    · constructor
      · intro h; exact absurd h (by decide)
      · intro h; omega
    · split
      · constructor
        · intro h; exact absurd h (by decide)
        · intro h; omega
      · constructor
        · intro h; omega
        · intro h; decide
  have h2 : 0 < lg_cmp a.toInt64 c.toInt64 ↔ c < a := by
    simp only [lg_cmp, GT.gt, Int64.lt_iff_toInt_lt, ← Int64.toInt_inj, e, Int32.lt_iff_toInt_lt]
    split
    · constructor
      · intro h; assumption
      · intro h; decide
    · split
      · constructor
        · intro h; exact absurd h (by decide)
        · intro h; omega
      · constructor
        · intro h; exact absurd h (by decide)
        · intro h; omega
  unfold f_X10_in
  simp only [h1, h2]
  by_cases q1 : a < b
  · rw [if_pos q1, if_neg (fun q => by have := Int32.not_le.mpr q1; exact this q.1)]
  · rw [if_neg q1]
    by_cases q2 : c < a
    · rw [if_pos q2, if_neg (fun q => by have := Int32.not_le.mpr q2; exact this q.2)]
    · rw [if_neg q2, if_pos ⟨Int32.not_lt.mp q1, Int32.not_lt.mp q2⟩]
