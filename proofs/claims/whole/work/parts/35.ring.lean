/-! rings of rates: rows of figures -/
def nv (f : Nat → Int32) (c : Nat) : Nat := (f c).toNatClampNeg
def rg_dg (m x j : Nat) : Nat := x / 8 ^ (m - 1 - j) % 8
def rg_mk (f : Nat → Nat) (s : Nat → Nat) : Nat → Nat
  | 0 => 0
  | j + 1 => rg_mk f s j ||| 2 ^ f (s j)
def rg_pr (g : Nat → Nat) (s : Nat → Nat) : Nat → Nat
  | 0 => 1
  | j + 1 => rg_pr g s j * g (s j)
def rg_ok (R : Nat) (fr tt : Nat → Nat) (s : Nat → Nat) : Nat → Prop
  | 0 => True
  | d + 1 => rg_ok R fr tt s d ∧ s d < R ∧ (d = 0 ∨ fr (s d) = tt (s (d - 1))) ∧ (rg_mk fr s d).testBit (fr (s d)) = false
def rg_good (R : Nat) (fr tt gv gt : Nat → Nat) (m x : Nat) : Prop := (rg_ok R fr tt (rg_dg m x) m ∧ tt (rg_dg m x (m - 1)) = fr (rg_dg m x 0)) ∧ rg_pr gv (rg_dg m x) m < rg_pr gt (rg_dg m x) m
def RV (R : Nat) (fr tt gv gt : Nat → Nat) (a b c d : Nat → Int32) : Prop := R ≤ 8 ∧ ∀ i, i < R → (a i = nI (fr i) ∧ fr i < 6) ∧ (b i = nI (tt i) ∧ tt i < 6) ∧ (c i = nI (gv i) ∧ 1 ≤ gv i ∧ gv i ≤ 20) ∧ (d i = nI (gt i) ∧ 1 ≤ gt i ∧ gt i ≤ 20)
theorem rg_mk_c {f s t : Nat → Nat} : ∀ d, (∀ j, j < d → s j = t j) → rg_mk f s d = rg_mk f t d
  | 0, _ => rfl
  | d + 1, h => by rw [rg_mk, rg_mk, rg_mk_c d (fun j q => h j (by omega)), h d (by omega)]
theorem rg_pr_c {f s t : Nat → Nat} : ∀ d, (∀ j, j < d → s j = t j) → rg_pr f s d = rg_pr f t d
  | 0, _ => rfl
  | d + 1, h => by rw [rg_pr, rg_pr, rg_pr_c d (fun j q => h j (by omega)), h d (by omega)]
theorem rg_ok_c {R : Nat} {fr tt s t : Nat → Nat} : ∀ d, (∀ j, j < d → s j = t j) → (rg_ok R fr tt s d ↔ rg_ok R fr tt t d)
  | 0, _ => Iff.rfl
  | d + 1, h => by
    rw [rg_ok, rg_ok, rg_ok_c d (fun j q => h j (by omega)), h d (by omega), rg_mk_c d (fun j q => h j (by omega))]
    by_cases z : d = 0
    · simp [z]
    · rw [h (d - 1) (by omega)]
theorem rg_ok_le {R : Nat} {fr tt s : Nat → Nat} : ∀ (k d : Nat), rg_ok R fr tt s (d + k) → rg_ok R fr tt s d
  | 0, _, h => h
  | k + 1, d, h => rg_ok_le k d h.1
theorem rg_ok_get {R : Nat} {fr tt s : Nat → Nat} {m j : Nat} (h : rg_ok R fr tt s m) (hj : j < m) : s j < R ∧ (j = 0 ∨ fr (s j) = tt (s (j - 1))) ∧ (rg_mk fr s j).testBit (fr (s j)) = false :=
  (rg_ok_le (m - (j + 1)) (j + 1) (by rw [show j + 1 + (m - (j + 1)) = m by omega]; exact h)).2
theorem rg_dg_s {d p c j : Nat} (hj : j < d) (hc : c < 8) : rg_dg (d + 1) (p * 8 + c) j = rg_dg d p j := by
  unfold rg_dg
  rw [show d + 1 - 1 - j = (d - 1 - j) + 1 by omega, Nat.pow_succ', ← Nat.div_div_eq_div_mul, show (p * 8 + c) / 8 = p by omega]
theorem rg_dg_e {d p c : Nat} (hc : c < 8) : rg_dg (d + 1) (p * 8 + c) d = c := by
  unfold rg_dg
  rw [show d + 1 - 1 - d = 0 by omega, Nat.pow_zero, Nat.div_one]
  omega
theorem rg_dg_p {m d k x j : Nat} (hm : d + k = m) (hj : j < d) : rg_dg m x j = rg_dg d (x / 8 ^ k) j := by
  unfold rg_dg
  rw [show m - 1 - j = k + (d - 1 - j) by omega, Nat.pow_add, Nat.div_div_eq_div_mul]
theorem rg_dg_lt (m x j : Nat) : rg_dg m x j < 8 := Nat.mod_lt _ (by decide)
theorem rg_ok_s {R d p c : Nat} {fr tt : Nat → Nat} (hc : c < 8) : rg_ok R fr tt (rg_dg (d + 1) (p * 8 + c)) (d + 1) ↔ rg_ok R fr tt (rg_dg d p) d ∧ c < R ∧ (d = 0 ∨ fr c = tt (rg_dg d p (d - 1))) ∧ (rg_mk fr (rg_dg d p) d).testBit (fr c) = false := by
  rw [rg_ok, rg_ok_c (s := rg_dg (d + 1) (p * 8 + c)) (t := rg_dg d p) d (fun j q => rg_dg_s q hc), rg_dg_e hc, rg_mk_c (s := rg_dg (d + 1) (p * 8 + c)) (t := rg_dg d p) d (fun j q => rg_dg_s q hc)]
  by_cases z : d = 0
  · simp [z]
  · rw [rg_dg_s (show d - 1 < d by omega) hc]
theorem rg_good_p {R m d k x : Nat} {fr tt gv gt : Nat → Nat} (hm : d + k = m) (h : rg_good R fr tt gv gt m x) : rg_ok R fr tt (rg_dg d (x / 8 ^ k)) d := by
  have h1 := rg_ok_le k d (by rw [hm]; exact h.1.1)
  exact (rg_ok_c d (fun j q => rg_dg_p hm q)).mp h1
theorem rg_mk_lt {f s : Nat → Nat} : ∀ d, (∀ j, j < d → f (s j) < 6) → rg_mk f s d < 2 ^ 6
  | 0, _ => show 0 < 2 ^ 6 by decide
  | d + 1, h => by
    rw [rg_mk]
    exact Nat.or_lt_two_pow (rg_mk_lt d (fun j q => h j (by omega))) (Nat.pow_lt_pow_right (by decide) (h d (by omega)))
theorem rg_pr_le {g s : Nat → Nat} : ∀ d, (∀ j, j < d → g (s j) ≤ 20) → rg_pr g s d ≤ 20 ^ d
  | 0, _ => show 1 ≤ 20 ^ 0 by decide
  | d + 1, h => by
    rw [rg_pr, Nat.pow_succ]
    exact Nat.mul_le_mul (rg_pr_le d (fun j q => h j (by omega))) (h d (by omega))
theorem rg_pr_b {g s : Nat → Nat} {d : Nat} (hd : d ≤ 4) (h : ∀ j, j < d → g (s j) ≤ 20) : rg_pr g s d ≤ 160000 :=
  Nat.le_trans (rg_pr_le d h) (Nat.le_trans (Nat.pow_le_pow_right (by decide) hd) (by decide))
/-- from-limbs of a good row differ, so its rates do -/
theorem rg_mk_bit {f s : Nat → Nat} : ∀ d i, i < d → (rg_mk f s d).testBit (f (s i)) = true
  | d + 1, i, h => by
    rw [rg_mk, Nat.testBit_or]
    by_cases z : i = d
    · rw [z, Nat.testBit_two_pow_self, Bool.or_true]
    · rw [rg_mk_bit d i (by omega), Bool.true_or]
theorem rg_inj {R : Nat} {fr tt s : Nat → Nat} {m i j : Nat} (h : rg_ok R fr tt s m) (hi : i < m) (hj : j < m) (e : s i = s j) : i = j := by
  have key : ∀ a b, a < b → b < m → ¬ s a = s b := by
    intro a b q1 q2 q3
    have h1 := (rg_ok_get h q2).2.2
    rw [← q3, rg_mk_bit b a q1] at h1
    exact Bool.false_ne_true h1.symm
  rcases Nat.lt_trichotomy i j with q | q | q
  · exact absurd e (key i j q hj)
  · exact q
  · exact absurd e.symm (key j i q hi)
theorem RV_of {L R : Nat} {f18 f19 f20 f21 f43 f44 f45 f46 : Nat → Int32} (hL : L ≤ 6) (hR : R ≤ 8) (h : PV L R f18 f19 f20 f21 f43 f44 f45 f46) :
    RV R (nv f18) (nv f19) (nv f20) (nv f21) f18 f19 f20 f21 ∧ RV R (nv f18) (nv f19) (nv f20) (nv f21) f43 f44 f45 f46 := by
  have key : ∀ {f : Nat → Int32} {i a : Nat}, a < 2 ^ 31 → f i = nI a → nv f i = a := by
    intro f i a q1 q2
    unfold nv
    rw [q2, nI_clamp q1]
  refine ⟨⟨hR, ?_⟩, hR, ?_⟩
  · intro i hi
    obtain ⟨e1, e2, e3, e4, ⟨a, a1, a2⟩, ⟨b, b1, b2⟩, ⟨c, c1, c2, c3⟩, ⟨d, d1, d2, d3⟩, -⟩ := h i hi
    rw [key (show a < 2 ^ 31 by omega) a2, key (show b < 2 ^ 31 by omega) b2, key (show c < 2 ^ 31 by omega) c3, key (show d < 2 ^ 31 by omega) d3]
    exact ⟨⟨a2, by omega⟩, ⟨b2, by omega⟩, ⟨c3, c1, c2⟩, ⟨d3, d1, d2⟩⟩
  · intro i hi
    obtain ⟨e1, e2, e3, e4, ⟨a, a1, a2⟩, ⟨b, b1, b2⟩, ⟨c, c1, c2, c3⟩, ⟨d, d1, d2, d3⟩, -⟩ := h i hi
    rw [key (show a < 2 ^ 31 by omega) a2, key (show b < 2 ^ 31 by omega) b2, key (show c < 2 ^ 31 by omega) c3, key (show d < 2 ^ 31 by omega) d3]
    exact ⟨⟨e1.trans a2, by omega⟩, ⟨e2.trans b2, by omega⟩, ⟨e3.trans c3, c1, c2⟩, ⟨e4.trans d3, d1, d2⟩⟩
