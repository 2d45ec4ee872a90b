/-! the reader: the class's and the reference's go side by side -/
def RT (t : Nat) (f : Nat → Int32) : Prop := t ≤ 250 ∧ ∀ j, j < t → ∃ a, a ≤ 255 ∧ f j = nI a
def CS (t p : Nat) (f : Nat → Int32) (I : AI) (F : AF) : Prop := I 5 = nI t ∧ I 1 = nI p ∧ F 0 = f
def MS (t p : Nat) (f : Nat → Int32) (I : AI) (F : AF) : Prop := I 26 = nI t ∧ I 28 = nI p ∧ ∀ j, j < t → F 48 j = f j
def chr (t : Nat) (f : Nat → Int32) (p : Nat) : Int32 := if p < t then f p else -1
def sk (f : Nat → Int32) : Nat → Nat → Nat
  | 0, p => p
  | n + 1, p => if f p = nI 32 then sk f n (p + 1) else p
theorem sk_le {f : Nat → Int32} : ∀ n p, p ≤ sk f n p ∧ sk f n p ≤ p + n
  | 0, p => ⟨Nat.le_refl _, Nat.le_refl _⟩
  | n + 1, p => by
    rw [sk]
    have := sk_le (f := f) n (p + 1)
    split <;> omega
theorem sk_end {f : Nat → Int32} : ∀ n p, sk f n p < p + n → ¬ f (sk f n p) = nI 32
  | 0, p => fun h => absurd h (Nat.lt_irrefl p)
  | n + 1, p => by
    rw [sk]
    by_cases z : f p = nI 32
    · rw [if_pos z]
      intro h
      exact sk_end n (p + 1) (by omega)
    · rw [if_neg z]
      exact fun _ => z
theorem X_at {t p : Nat} {f : Nat → Int32} {I : AI} {F : AF} (hT : RT t f) (hp : p ≤ t) (h : CS t p f I F) : f_X2_at (I 1) I F = some (chr t f p, I, F) := by
  obtain ⟨e5, e1, e0⟩ := h
  have := hT.1
  unfold f_X2_at chr
  rw [e1, e5, if_neg (nI_pos (by omega))]
  by_cases z : p < t
  · rw [if_neg (show ¬ nI t ≤ nI p by rw [nle (by omega) (by omega)]; omega), vin_t (show p < 250 by omega) (by decide), cond_true, nI_clamp (by omega), if_pos z, e0]
  · rw [if_pos (show nI t ≤ nI p by rw [nle (by omega) (by omega)]; omega), if_neg z]
theorem chr_n {t p : Nat} {f : Nat → Int32} (hT : RT t f) : (p < t ∧ ∃ a, a ≤ 255 ∧ f p = nI a ∧ chr t f p = nI a) ∨ (t ≤ p ∧ chr t f p = -1) := by
  unfold chr
  by_cases z : p < t
  · obtain ⟨a, a1, a2⟩ := hT.2 p z
    exact Or.inl ⟨z, a, a1, a2, by rw [if_pos z, a2]⟩
  · exact Or.inr ⟨by omega, by rw [if_neg z]⟩
theorem X_skip_l {t : Nat} {f : Nat → Int32} {F : AF} {ko : Int32 → AI → AF → AQ} (hT : RT t f) :
    ∀ (m p v n : Nat) (I : AI), p + m = t → v + m ≤ 250 → m < n → CS t p f I F → ∃ v' I1, f_X6_skipBlanks_2 ko n (nI v) I F = ko v' I1 F ∧ CS t (sk f m p) f I1 F ∧ ∀ b, ¬ b = 1 → I1 b = I b := by
  intro m
  induction m with
  | zero =>
    intro p v n I h1 h2 h3 h4
    match n, h3 with
    | n + 1, _ =>
      refine ⟨nI v, I, ?_, h4, fun _ _ => rfl⟩
      have : p = t := by omega
      rw [f_X6_skipBlanks_2, X_at hT (by omega) h4, bd_s]
      rcases chr_n (p := p) hT with ⟨q, -⟩ | ⟨-, e⟩
      · omega
      · rw [e, if_pos (show ¬ (-1 : Int32) = nI 32 by decide), ite_self]
  | succ m ih =>
    intro p v n I h1 h2 h3 h4
    match n, h3 with
    | n + 1, h3 =>
      rw [f_X6_skipBlanks_2, if_neg (show ¬ nI 250 ≤ nI v by rw [nle (by decide) (by omega)]; omega), X_at hT (by omega) h4, bd_s, sk]
      rw [show chr t f p = f p from if_pos (by omega)]
      by_cases z : f p = nI 32
      · rw [if_neg (not_not_intro z), if_pos z, lt_e, nI_1]
        have h5 : CS t (p + 1) f (va_up I 1 (I 1 + 1)) F := ⟨h4.1, by rw [up_s, h4.2.1, nI_1], h4.2.2⟩
        obtain ⟨v', I1, r1, r2, r3⟩ := ih (p + 1) (v + 1) n _ (by omega) (by omega) (by omega) h5
        exact ⟨v', I1, r1, r2, fun b q => (r3 b q).trans (up_n q)⟩
      · rw [if_pos z, if_neg z]
        exact ⟨nI v, I, rfl, h4, fun _ _ => rfl⟩
theorem X_skip {t p : Nat} {f : Nat → Int32} {I : AI} {F : AF} (hT : RT t f) (hp : p ≤ t) (h : CS t p f I F) : ∃ I1, f_X6_skipBlanks I F = some (0, I1, F) ∧ CS t (sk f (t - p) p) f I1 F ∧ ∀ b, ¬ b = 1 → I1 b = I b := by
  have := hT.1
  obtain ⟨v', I1, r1, r2, r3⟩ := X_skip_l (ko := fun _ I F => some (0, I, F)) hT (t - p) p 0 ab_fu I (by omega) (by omega) (Nat.lt_of_le_of_lt (show t - p ≤ 250 by omega) (by decide)) h
  rw [nI_0] at r1
  exact ⟨I1, r1, r2, r3⟩
theorem M_here_l {t : Nat} {f : Nat → Int32} {F : AF} {ko : AI → AF → AQ} (hT : RT t f) :
    ∀ (m p n : Nat) (I : AI), p + m = t → m < n → MS t p f I F → ∃ I1, f_X10_here_0 ko n I F = ko I1 F ∧ MS t (sk f m p) f I1 F ∧ ∀ b, ¬ b = 28 → I1 b = I b := by
  have ht := hT.1
  intro m
  induction m with
  | zero =>
    intro p n I h1 h2 h3
    match n, h2 with
    | n + 1, _ =>
      refine ⟨I, ?_, h3, fun _ _ => rfl⟩
      rw [f_X10_here_0, h3.1, h3.2.1, if_pos (by rw [nle (by omega) (by omega)]; omega)]
  | succ m ih =>
    intro p n I h1 h2 h3
    match n, h2 with
    | n + 1, h2 =>
      rw [f_X10_here_0, h3.1, h3.2.1, if_neg (show ¬ nI t ≤ nI p by rw [nle (by omega) (by omega)]; omega), vin_t (show p < 250 by omega) (by decide), cond_true, nI_clamp (by omega), h3.2.2 p (by omega), sk]
      by_cases z : f p = nI 32
      · rw [if_neg (not_not_intro z), if_pos z, lt_e, nI_1]
        obtain ⟨I1, r1, r2, r3⟩ := ih (p + 1) n (va_up I 28 (nI (p + 1))) (by omega) (by omega) ⟨h3.1, up_s, h3.2.2⟩
        exact ⟨I1, r1, r2, fun b q => (r3 b q).trans (up_n q)⟩
      · rw [if_pos z, if_neg z]
        exact ⟨I, rfl, h3, fun _ _ => rfl⟩
theorem M_here {t p : Nat} {f : Nat → Int32} {I : AI} {F : AF} (hT : RT t f) (hp : p ≤ t) (h : MS t p f I F) : ∃ I1, f_X10_here I F = some (chr t f (sk f (t - p) p), I1, F) ∧ MS t (sk f (t - p) p) f I1 F ∧ ∀ b, ¬ b = 28 → I1 b = I b := by
  have ht := hT.1
  obtain ⟨I1, r1, r2, r3⟩ := M_here_l (ko := fun I F => if (I 26) ≤ (I 28) then some ((-1 : Int32), I, F) else bif ab_vin (I 28) 250 then some (((F 48) (I 28).toNatClampNeg), I, F) else none) hT (t - p) p ab_fu I (by omega) (Nat.lt_of_le_of_lt (show t - p ≤ 250 by omega) (by decide)) h
  refine ⟨I1, ?_, r2, r3⟩
  unfold f_X10_here
  refine r1.trans ?_
  have k := sk_le (f := f) (t - p) p
  show (if (I1 26) ≤ (I1 28) then some ((-1 : Int32), I1, F) else bif ab_vin (I1 28) 250 then some (((F 48) (I1 28).toNatClampNeg), I1, F) else none) = _
  unfold chr
  rw [r2.1, r2.2.1]
  by_cases z : sk f (t - p) p < t
  · rw [if_neg (show ¬ nI t ≤ nI (sk f (t - p) p) by rw [nle (by omega) (by omega)]; omega), vin_t (show sk f (t - p) p < 250 by omega) (by decide), cond_true, nI_clamp (by omega), r2.2.2 _ z, if_pos z]
  · rw [if_pos (show nI t ≤ nI (sk f (t - p) p) by rw [nle (by omega) (by omega)]; omega), if_neg z]
theorem X_fig (x : Int32) (I : AI) (F : AF) : f_X6_isFigure x I F = some ((if nI 48 ≤ x ∧ x ≤ nI 57 then 1 else 0), I, F) := by
  unfold f_X6_isFigure
  by_cases z : x < nI 48
  · rw [if_pos z, if_neg (fun q => Int32.not_le.mpr z q.1)]
  · rw [if_neg z]
    by_cases y : nI 57 < x
    · rw [if_pos y, if_neg (fun q => Int32.not_le.mpr y q.2)]
    · rw [if_neg y, if_pos ⟨Int32.not_lt.mp z, Int32.not_lt.mp y⟩]
theorem M_fig2 (x : Int32) (I : AI) (F : AF) : f_X10_in x.toInt64 (48 : Int64) (57 : Int64) I F = some ((if nI 48 ≤ x ∧ x ≤ nI 57 then 1 else 0), I, F) := in_c (w2 := 48) (w4 := 57) (b := nI 48) (c := nI 57) rfl rfl I F
theorem num_l {t : Nat} {f : Nat → Int32} {F F' : AF} {v1 v2 v3 w1 w2 : Int32} {ko : Int32 → Int32 → AI → AF → AQ} {ko' : AI → AF → AQ} (hT : RT t f) :
    ∀ (m p v5 n n' q v w : Nat) (I I' : AI), p + m = t → v5 + m ≤ 250 → m < n → m < n' → CS t p f I F → MS t p f I' F' → I' 29 = nI w → v ≤ 1000 → w ≤ 100099 → (q ≤ 3 → v = w ∧ v < 10 ^ q) →
      ∃ (d v' w' : Nat) (x5 : Int32) (I1 I1' : AI), d ≤ m ∧ f_X6_readNumber_18 v1 v2 v3 ko n (nI v) (nI v5) I F = ko (nI v') x5 I1 F ∧ f_X10_takeNumber_42 w1 w2 ko' n' I' F' = ko' I1' F' ∧ CS t (p + d) f I1 F ∧ MS t (p + d) f I1' F' ∧ I1' 29 = nI w' ∧ v' ≤ 1000 ∧ w' ≤ 100099 ∧ (q + d ≤ 3 → v' = w' ∧ v' < 10 ^ (q + d)) ∧ (∀ b, ¬ b = 1 → I1 b = I b) ∧ (∀ b, ¬ b = 28 → ¬ b = 29 → I1' b = I' b) ∧ (nI 48 ≤ chr t f p ∧ chr t f p ≤ nI 57 → 0 < d) ∧ (¬ (nI 48 ≤ chr t f p ∧ chr t f p ≤ nI 57) → d = 0) := by
  have ht := hT.1
  intro m
  induction m with
  | zero =>
    intro p v5 n n' q v w I I' h1 h2 h3 h4 h5 h6 h7 h8 h9 h10
    match n, n', h3, h4 with
    | n + 1, n' + 1, _, _ =>
      have e : chr t f p = -1 := if_neg (by omega)
      refine ⟨0, v, w, nI v5, I, I', Nat.le_refl 0, ?_, ?_, h5, h6, h7, h8, h9, h10, fun _ _ => rfl, fun _ _ _ => rfl, ?_, fun _ => rfl⟩
      · rw [f_X6_readNumber_18, X_at hT (by omega) h5, bd_s, X_fig, bd_s, e, if_neg (show ¬ (nI 48 ≤ -1 ∧ (-1 : Int32) ≤ nI 57) by decide), if_pos rfl, ite_self]
      · rw [f_X10_takeNumber_42, h6.1, h6.2.1, if_pos (by rw [nle (by omega) (by omega)]; omega)]
      · rw [e]
        exact fun q => absurd q (by decide)
  | succ m ih =>
    intro p v5 n n' q v w I I' h1 h2 h3 h4 h5 h6 h7 h8 h9 h10
    match n, n', h3, h4 with
    | n + 1, n' + 1, h3, h4 =>
      obtain ⟨a, a1, a2⟩ := hT.2 p (by omega)
      have e : chr t f p = nI a := by
        rw [← a2]
        exact if_pos (by omega)
      rw [f_X6_readNumber_18, if_neg (show ¬ nI 250 ≤ nI v5 by rw [nle (by decide) (by omega)]; omega), X_at hT (by omega) h5, bd_s, X_fig, bd_s, X_at hT (by omega) h5, bd_s, e, f_X10_takeNumber_42, h6.1, h6.2.1, if_neg (show ¬ nI t ≤ nI p by rw [nle (by omega) (by omega)]; omega), vin_t (show p < 250 by omega) (by decide), cond_true, nI_clamp (show p < 2 ^ 31 by omega), h6.2.2 p (by omega), a2, M_fig2, bd_s]
      by_cases z : nI 48 ≤ nI a ∧ nI a ≤ nI 57
      · have z1 : 48 ≤ a := (nI_leI (by decide) (by omega)).mp z.1
        have z2 : a ≤ 57 := (nI_leI (by omega) (by decide)).mp z.2
        rw [if_pos z, if_neg (show ¬ (1 : Int32) = 0 by decide), if_neg (show ¬ (1 : Int32) = 0 by decide), pk_mul, nI_add, pk_sub (show 48 ≤ v * 10 + a by omega), h7, h6.2.1, vin_t (show p < 250 by omega) (by decide), cond_true, nI_clamp (show p < 2 ^ 31 by omega), h6.2.2 p (by omega), a2, pk_mul, nI_add, pk_sub (show 48 ≤ 10 * w + a by omega), lt_e, lt_e, lt_e, lt_e, nI_1, nI_1, h5.2.1, nI_1]
        have c1 : CS t (p + 1) f (va_up I 1 (nI (p + 1))) F := ⟨h5.1, up_s, h5.2.2⟩
        have q3 : q + 1 ≤ 3 → 10 ^ (q + 1) = 10 ^ q * 10 ∧ 10 ^ q ≤ 100 := by
          intro q'
          refine ⟨Nat.pow_succ .., ?_⟩
          rcases (show q = 0 ∨ q = 1 ∨ q = 2 by omega) with rfl | rfl | rfl <;> decide
        obtain ⟨v', y1, y2, y3⟩ : ∃ v', (if nI (v * 10 + a - 48) < nI 1000 then nI (v * 10 + a - 48) else nI 1000) = nI v' ∧ v' ≤ 1000 ∧ (v * 10 + a - 48 < 1000 → v' = v * 10 + a - 48) := by
          by_cases y : v * 10 + a - 48 < 1000
          · exact ⟨v * 10 + a - 48, if_pos ((nI_ltI (by omega) (by decide)).mpr y), by omega, fun _ => rfl⟩
          · exact ⟨1000, if_neg (fun q => y ((nI_ltI (by omega) (by decide)).mp q)), by omega, fun q => absurd q y⟩
        rw [y1]
        have fin : ∀ (w' : Nat) (I2 : AI), w' ≤ 100099 → MS t (p + 1) f I2 F' → I2 29 = nI w' → (∀ b, ¬ b = 28 → ¬ b = 29 → I2 b = I' b) → (q + 1 ≤ 3 → v' = w' ∧ v' < 10 ^ (q + 1)) →
            ∃ (d v'' w'' : Nat) (x5 : Int32) (I1 I1' : AI), d ≤ m + 1 ∧ f_X6_readNumber_18 v1 v2 v3 ko n (nI v') (nI (v5 + 1)) (va_up I 1 (nI (p + 1))) F = ko (nI v'') x5 I1 F ∧ f_X10_takeNumber_42 w1 w2 ko' n' I2 F' = ko' I1' F' ∧ CS t (p + d) f I1 F ∧ MS t (p + d) f I1' F' ∧ I1' 29 = nI w'' ∧ v'' ≤ 1000 ∧ w'' ≤ 100099 ∧ (q + d ≤ 3 → v'' = w'' ∧ v'' < 10 ^ (q + d)) ∧ (∀ b, ¬ b = 1 → I1 b = I b) ∧ (∀ b, ¬ b = 28 → ¬ b = 29 → I1' b = I' b) ∧ (nI 48 ≤ nI a ∧ nI a ≤ nI 57 → 0 < d) ∧ (¬ (nI 48 ≤ nI a ∧ nI a ≤ nI 57) → d = 0) := by
          intro w' I2 g1 g2 g3 g4 g5
          obtain ⟨d, v'', w'', x5, I1, I1', k1, k2, k3, k4, k5, k6, k7, k8, k9, k10, k11, -, -⟩ := ih (p + 1) (v5 + 1) n n' (q + 1) v' w' (va_up I 1 (nI (p + 1))) I2 (by omega) (by omega) (by omega) (by omega) c1 g2 g3 y2 g1 g5
          refine ⟨d + 1, v'', w'', x5, I1, I1', by omega, k2, k3, ?_, ?_, k6, k7, k8, ?_, fun b hb => (k10 b hb).trans (up_n hb), fun b hb hb2 => (k11 b hb hb2).trans (g4 b hb hb2), fun _ => by omega, fun q => absurd z q⟩
          · rw [show p + (d + 1) = p + 1 + d by omega]
            exact k4
          · rw [show p + (d + 1) = p + 1 + d by omega]
            exact k5
          · rw [show q + (d + 1) = q + 1 + d by omega]
            exact k9
        by_cases y : w ≤ 10000
        · rw [if_pos ((nI_leI (by omega) (by decide)).mpr y)]
          refine fin (10 * w + a - 48) _ (by omega) ⟨h6.1, up_s, h6.2.2⟩ rfl (fun b hb hb2 => (up_n hb).trans (up_n hb2)) ?_
          intro q1
          obtain ⟨b1, b2⟩ := h10 (by omega)
          obtain ⟨b3, b4⟩ := q3 q1
          have b5 := y3 (by omega)
          omega
        · rw [if_neg (fun q => y ((nI_leI (by omega) (by decide)).mp q))]
          refine fin w _ h9 ⟨h6.1, up_s, h6.2.2⟩ rfl (fun b hb hb2 => (up_n hb).trans (up_n hb2)) ?_
          intro q1
          obtain ⟨b1, b2⟩ := h10 (by omega)
          obtain ⟨b3, b4⟩ := q3 q1
          omega
      · rw [if_neg z, if_pos rfl, if_pos rfl]
        exact ⟨0, v, w, nI v5, I, I', Nat.zero_le _, rfl, rfl, h5, h6, h7, h8, h9, h10, fun _ _ => rfl, fun _ _ _ => rfl, fun q => absurd q z, fun _ => rfl⟩
