def NX (I I1 : AI) : Prop := ∀ b, ¬ b = 1 → ¬ b = 2 → I1 b = I b
def NM (I I1 : AI) : Prop := ∀ b, ¬ b = 28 → ¬ b = 29 → ¬ b = 30 → I1 b = I b
def FX (I I1 : AI) : Prop := ∀ b, (b = 0 ∨ b = 5 ∨ 9 ≤ b) → I1 b = I b
def FM (I I1 : AI) : Prop := ∀ b, (b < 27 ∨ 34 ≤ b) → I1 b = I b
def GX (F F1 : AF) : Prop := ∀ b, (b = 0 ∨ 12 ≤ b) → F1 b = F b
def GM (F F1 : AF) : Prop := ∀ b, (b < 49 ∨ 59 ≤ b) → F1 b = F b
theorem NX_t {a b c : AI} (h : NX a b) (h' : NX b c) : NX a c := fun i p q => (h' i p q).trans (h i p q)
theorem NM_t {a b c : AI} (h : NM a b) (h' : NM b c) : NM a c := fun i p q r => (h' i p q r).trans (h i p q r)
theorem FX_t {a b c : AI} (h : FX a b) (h' : FX b c) : FX a c := fun i p => (h' i p).trans (h i p)
theorem FM_t {a b c : AI} (h : FM a b) (h' : FM b c) : FM a c := fun i p => (h' i p).trans (h i p)
theorem GX_t {a b c : AF} (h : GX a b) (h' : GX b c) : GX a c := fun i p => (h' i p).trans (h i p)
theorem GM_t {a b c : AF} (h : GM a b) (h' : GM b c) : GM a c := fun i p => (h' i p).trans (h i p)
theorem NX_f {a b : AI} (h : NX a b) : FX a b := fun i p => h i (by omega) (by omega)
theorem NM_f {a b : AI} (h : NM a b) : FM a b := fun i p => h i (by omega) (by omega) (by omega)
theorem GX_r (F : AF) : GX F F := fun _ _ => rfl
theorem GM_r (F : AF) : GM F F := fun _ _ => rfl
theorem GX_u {F : AF} {k : Nat} {g : Nat → Int32} (h : 0 < k ∧ k < 12) : GX F (va_up F k g) := fun i p => up_n (by omega)
theorem GM_u {F : AF} {k : Nat} {g : Nat → Int32} (h : 49 ≤ k ∧ k < 59) : GM F (va_up F k g) := fun i p => up_n (by omega)
theorem FX_u {I : AI} {k : Nat} {x : Int32} (h : ¬ k = 0 ∧ ¬ k = 5 ∧ k < 9) : FX I (va_up I k x) := fun i p => up_n (by omega)
theorem FM_u {I : AI} {k : Nat} {x : Int32} (h : 27 ≤ k ∧ k < 34) : FM I (va_up I k x) := fun i p => up_n (by omega)
/-- a number that is refused: both fail alike -/
def NBF (I : AI) (F : AF) (I' : AI) (F' : AF) (cls rf : AQ) : Prop := ∃ (k pl : Nat) (I1 I1' : AI), cls = some (0, I1, F) ∧ rf = some (nI k, I1', F') ∧ 1 ≤ k ∧ k ≤ 4 ∧ pl ≤ 250 ∧ I1 3 = nI k ∧ I1 4 = nI pl ∧ I1' 27 = nI pl ∧ FX I I1 ∧ FM I' I1'
def NBG (t p v : Nat) (f : Nat → Int32) (lo hi : Int32) (I : AI) (F : AF) (I' : AI) (F' : AF) (cls rf : AQ) : Prop := ∃ (x p1 p2 : Nat) (I1 I1' : AI), cls = some (1, I1, va_up F 11 (upd (F 11) v (nI x))) ∧ rf = some (0, I1', F') ∧ p < p2 ∧ p2 ≤ t ∧ CS t p2 f I1 (va_up F 11 (upd (F 11) v (nI x))) ∧ MS t p2 f I1' F' ∧ lo ≤ nI x ∧ nI x ≤ hi ∧ x ≤ 999 ∧ p1 ≤ 250 ∧ I1 2 = nI p1 ∧ I1' 29 = nI x ∧ I1' 30 = nI p1 ∧ NX I I1 ∧ NM I' I1'
theorem num_both {t p v : Nat} {f : Nat → Int32} {v1 lo hi : Int32} {I : AI} {F : AF} {I' : AI} {F' : AF} (hT : RT t f) (hp : p ≤ t) (hv : v1 = nI v) (hv5 : v < 5) (h : CS t p f I F) (h' : MS t p f I' F') :
    NBF I F I' F' (f_X6_readNumber v1 lo hi I F) (f_X10_takeNumber lo hi I' F') ∨ NBG t p v f lo hi I F I' F' (f_X6_readNumber v1 lo hi I F) (f_X10_takeNumber lo hi I' F') := by
  have ht := hT.1
  obtain ⟨I1, r1, r2, r3⟩ := X_skip hT hp h
  obtain ⟨J1, s1, s2, s3⟩ := M_here hT hp h'
  have kk := sk_le (f := f) (t - p) p
  generalize hq : sk f (t - p) p = p1 at *
  have bt : ab_bt 0 = true := rfl
  have c2 : CS t p1 f (va_up I1 2 (I1 1)) F := ⟨r2.1, r2.2.1, r2.2.2⟩
  -- the class's run through the figures
  have run := fun (ko : Int32 → Int32 → AI → AF → AQ) (ko' : AI → AF → AQ) (J : AI) (hJ : MS t p1 f J F') (h29 : J 29 = nI 0) => num_l (v1 := v1) (v2 := lo) (v3 := hi) (w1 := lo) (w2 := hi) (ko := ko) (ko' := ko') (F := F) (F' := F') hT (t - p1) p1 0 ab_fu ab_fu 0 0 0 (va_up I1 2 (I1 1)) J (by omega) (by omega) (Nat.lt_of_le_of_lt (show t - p1 ≤ 250 by omega) (by decide)) (Nat.lt_of_le_of_lt (show t - p1 ≤ 250 by omega) (by decide)) c2 hJ h29 (by decide) (by decide) (fun _ => ⟨rfl, by decide⟩)
  unfold f_X6_readNumber f_X10_takeNumber
  rw [r1, bd_s, lt_e, s1, bd_s, M_fig2, bd_s]
  by_cases z : nI 48 ≤ chr t f p1 ∧ chr t f p1 ≤ nI 57
  · rw [if_pos z, if_pos (show ¬ (1 : Int32) = 0 by decide), lt_e]
    obtain ⟨d, v', w', x5, I2, J2, k1, k2, k3, k4, k5, k6, k7, k8, k9, k10, k11, k12, -⟩ := run (fun v4 _ I F => f_X6_readNumber_j87 v1 lo hi v4 I F) (fun I F => f_X10_takeNumber_j129 lo hi I F) (va_up (va_up J1 30 (J1 28)) 29 0) ⟨s2.1, s2.2.1, s2.2.2⟩ up_s
    have d0 := k12 z
    rw [nI_0] at k2
    rw [k2, k3]
    have f2 : I2 2 = nI p1 := (k10 2 (by decide)).trans (up_s.trans r2.2.1)
    have f30 : J2 30 = nI p1 := (k11 30 (by decide) (by decide)).trans ((up_n (by decide)).trans (up_s.trans s2.2.1))
    have e1 : I2 1 - I2 2 = nI d := by rw [k4.2.1, f2, pk_sub (by omega), Nat.add_sub_cancel_left]
    have e2 : J2 28 - J2 30 = nI d := by rw [k5.2.1, f30, pk_sub (by omega), Nat.add_sub_cancel_left]
    have fI : ∀ b, ¬ b = 1 → ¬ b = 2 → I2 b = I b := fun b q1 q2 => (k10 b q1).trans ((up_n q2).trans (r3 b q1))
    have fJ : ∀ b, ¬ b = 28 → ¬ b = 29 → ¬ b = 30 → J2 b = I' b := fun b q1 q2 q3 => (k11 b q1 q2).trans ((up_n q2).trans ((up_n q3).trans (s3 b q1)))
    unfold f_X6_readNumber_j87 f_X10_takeNumber_j129 f_X6_fail f_X10_fails
    rw [e1, e2, if_pos (show ¬ nI d = 0 by rw [n0eq (by omega)]; omega)]
    -- the second kind of fault
    have bad : NBF I F I' F' (some (0, va_up (va_up I2 3 (nI 2)) 4 (I2 2), F)) (some (nI 2, va_up J2 27 (J2 30), F')) :=
      ⟨2, p1, _, _, rfl, rfl, by decide, by decide, by omega, rfl, up_s.trans f2, up_s.trans f30, fun b q => (up_n (by omega)).trans ((up_n (by omega)).trans (fI b (by omega) (by omega))), fun b q => (up_n (by omega)).trans (fJ b (by omega) (by omega) (by omega))⟩
    by_cases y : 3 < d
    · rw [if_pos ((nI_ltI (by decide) (by omega)).mpr y), if_pos ((nI_ltI (by decide) (by omega)).mpr y), bd_s, bd_s, bt, cond_true]
      exact Or.inl bad
    · obtain ⟨b1, b2⟩ := k9 (by omega)
      subst b1
      have b3 : v' < 1000 := Nat.lt_of_lt_of_le b2 (Nat.le_trans (Nat.pow_le_pow_right (by decide) (show 0 + d ≤ 3 by omega)) (by decide))
      rw [if_neg (fun q => y ((nI_ltI (by decide) (by omega)).mp q)), if_neg (fun q => y ((nI_ltI (by decide) (by omega)).mp q)), k6, in_eq, bd_s, bd_s, bd_s, bt, cond_true]
      by_cases y1 : nI v' < lo
      · rw [if_pos y1, if_neg (show ¬ (lo ≤ nI v' ∧ nI v' ≤ hi) from fun q => Int32.not_le.mpr y1 q.1), if_neg (by decide)]
        exact Or.inl bad
      · rw [if_neg y1]
        by_cases y2 : nI v' ≤ hi
        · rw [if_pos y2, if_pos (show lo ≤ nI v' ∧ nI v' ≤ hi from ⟨Int32.not_lt.mp y1, y2⟩), if_pos (show ¬ (1 : Int32) = 0 by decide), hv, vin_t hv5 (by decide), cond_true, nI_clamp (by omega)]
          exact Or.inr ⟨v', p1, p1 + d, I2, J2, rfl, rfl, by omega, by omega, ⟨k4.1, k4.2.1, k4.2.2⟩, k5, Int32.not_lt.mp y1, y2, by omega, by omega, f2, k6, f30, fI, fJ⟩
        · rw [if_neg y2, if_neg (show ¬ (lo ≤ nI v' ∧ nI v' ≤ hi) from fun q => y2 q.2), if_neg (by decide)]
          exact Or.inl bad
  · rw [if_neg z, if_neg (by decide)]
    obtain ⟨d, v', w', x5, I2, J2, k1, k2, k3, k4, k5, k6, k7, k8, k9, k10, k11, -, k13⟩ := run (fun v4 _ I F => f_X6_readNumber_j87 v1 lo hi v4 I F) (fun I F => f_X10_takeNumber_j129 lo hi I F) (va_up (va_up J1 30 (J1 28)) 29 0) ⟨s2.1, s2.2.1, s2.2.2⟩ up_s
    have d0 := k13 z
    rw [d0, Nat.add_zero] at k4
    rw [nI_0] at k2
    rw [k2]
    have f2 : I2 2 = nI p1 := (k10 2 (by decide)).trans (up_s.trans r2.2.1)
    have e1 : I2 1 - I2 2 = 0 := by rw [k4.2.1, f2, Int32.sub_self]
    have fI : ∀ b, ¬ b = 1 → ¬ b = 2 → I2 b = I b := fun b q1 q2 => (k10 b q1).trans ((up_n q2).trans (r3 b q1))
    unfold f_X6_readNumber_j87 f_X6_fail f_X10_fails
    rw [e1, if_neg (not_not_intro rfl), bd_s, bd_s, bt, cond_true]
    exact Or.inl ⟨1, p1, _, _, rfl, rfl, by decide, by decide, by omega, rfl, up_s.trans k4.2.1, up_s.trans s2.2.1, fun b q => (up_n (by omega)).trans ((up_n (by omega)).trans (fI b (by omega) (by omega))), fun b q => (up_n (by omega)).trans (s3 b (by omega))⟩
theorem close_both {t p : Nat} {f : Nat → Int32} {I : AI} {F : AF} {I' : AI} {F' : AF} (hT : RT t f) (hp : p ≤ t) (h : CS t p f I F) (h' : MS t p f I' F') :
    NBF I F I' F' (f_X6_readClose I F) (f_X10_takeClause_j198 0 I' F') ∨ ∃ (p2 : Nat) (I1 I1' : AI), f_X6_readClose I F = some (1, I1, F) ∧ f_X10_takeClause_j198 0 I' F' = some (0, I1', F') ∧ p < p2 ∧ p2 ≤ t ∧ CS t p2 f I1 F ∧ MS t p2 f I1' F' ∧ NX I I1 ∧ NM I' I1' := by
  have ht := hT.1
  obtain ⟨I1, r1, r2, r3⟩ := X_skip hT hp h
  obtain ⟨J1, s1, s2, s3⟩ := M_here hT hp h'
  have kk := sk_le (f := f) (t - p) p
  generalize hq : sk f (t - p) p = p1 at *
  have bt : ab_bt 0 = true := rfl
  unfold f_X6_readClose f_X10_takeClause_j198 f_X6_fail f_X10_fails
  rw [r1, bd_s, X_at hT (by omega) r2, bd_s, if_neg (not_not_intro rfl), s1, bd_s, bd_s]
  by_cases z : chr t f p1 = nI 59
  · rw [if_pos z, if_pos z]
    have hl : p1 < t := by
      rcases chr_n (p := p1) hT with ⟨q, -⟩ | ⟨-, e⟩
      · exact q
      · rw [e] at z
        exact absurd z (by decide)
    refine Or.inr ⟨p1 + 1, _, _, rfl, rfl, by omega, by omega, ⟨r2.1, ?_, r2.2.2⟩, ⟨s2.1, ?_, s2.2.2⟩, fun b q1 q2 => (up_n q1).trans (r3 b q1), fun b q1 q2 q3 => (up_n q1).trans (s3 b q1)⟩
    · rw [up_s, r2.2.1, nI_1]
    · rw [up_s, s2.2.1, nI_1]
  · rw [if_neg z, if_neg z, bd_s, bt, cond_true]
    exact Or.inl ⟨1, p1, _, _, rfl, rfl, by decide, by decide, by omega, rfl, up_s.trans r2.2.1, up_s.trans s2.2.1, fun b q => (up_n (by omega)).trans ((up_n (by omega)).trans (r3 b (by omega))), fun b q => (up_n (by omega)).trans (s3 b (by omega))⟩
