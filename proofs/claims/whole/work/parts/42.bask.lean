/-! baskets: how many of each, their order -/
def bk_e (t : Nat) : Nat := (t + 4) % 5
def bk_tot (s : Nat → Nat) : Nat → Nat
  | 0 => 0
  | p + 1 => bk_tot s p + s p
def bk_cz (s : Nat → Nat) : Nat → Nat
  | 0 => 0
  | p + 1 => bk_cz s p + (if s p = 0 then 0 else 1)
def bk_lx (s : Nat → Nat) : Nat → Nat
  | 0 => 0
  | p + 1 => bk_lx s p * 5 + bk_e (s p)
def bk_A (m : Nat → Nat → Int32) (e : Nat) (s : Nat → Nat) : Nat → Int32
  | 0 => 0
  | p + 1 => bk_A m e s p + nI (s p) * m p e
def bk_v (al : Nat → Bool) (m : Nat → Nat → Int32) (s : Nat → Nat) : Prop := (∀ k, k < 6 → s k ≤ 4 ∧ (¬ s k = 0 → al k = true)) ∧ (1 ≤ bk_cz s 6 ∧ bk_cz s 6 ≤ 3) ∧ bk_A m 0 s 6 = bk_A m 1 s 6 ∧ bk_A m 0 s 6 = bk_A m 2 s 6 ∧ bk_A m 0 s 6 = bk_A m 3 s 6
def bk_K (s : Nat → Nat) : Nat := (bk_tot s 6 * 8 + bk_cz s 6) * 15625 + bk_lx s 6
def bk_ah (x y : Nat → Nat) : Prop := ∃ p, p < 6 ∧ (∀ i, i < p → x i = y i) ∧ bk_e (x p) < bk_e (y p)
def bk_in (k r : Nat) (s x : Nat → Nat) : Prop := (∀ i, i < k → x i = s i) ∧ bk_cz x 6 = bk_cz x k + r
theorem tot_c {x y : Nat → Nat} : ∀ p, (∀ i, i < p → x i = y i) → bk_tot x p = bk_tot y p
  | 0, _ => rfl
  | p + 1, h => by rw [bk_tot, bk_tot, tot_c p (fun i q => h i (by omega)), h p (by omega)]
theorem cz_c {x y : Nat → Nat} : ∀ p, (∀ i, i < p → x i = y i) → bk_cz x p = bk_cz y p
  | 0, _ => rfl
  | p + 1, h => by rw [bk_cz, bk_cz, cz_c p (fun i q => h i (by omega)), h p (by omega)]
theorem lx_c {x y : Nat → Nat} : ∀ p, (∀ i, i < p → x i = y i) → bk_lx x p = bk_lx y p
  | 0, _ => rfl
  | p + 1, h => by rw [bk_lx, bk_lx, lx_c p (fun i q => h i (by omega)), h p (by omega)]
theorem A_c {m : Nat → Nat → Int32} {e : Nat} {x y : Nat → Nat} : ∀ p, (∀ i, i < p → x i = y i) → bk_A m e x p = bk_A m e y p
  | 0, _ => rfl
  | p + 1, h => by rw [bk_A, bk_A, A_c p (fun i q => h i (by omega)), h p (by omega)]
theorem v_c {al : Nat → Bool} {m : Nat → Nat → Int32} {x y : Nat → Nat} (h : ∀ i, i < 6 → x i = y i) (hv : bk_v al m x) : bk_v al m y := by
  obtain ⟨h1, h2, h3⟩ := hv
  rw [cz_c 6 h] at h2
  rw [A_c 6 h, A_c 6 h, A_c 6 h, A_c 6 h] at h3
  refine ⟨?_, h2, h3⟩
  intro k hk
  rw [← h k hk]
  exact h1 k hk
theorem tot_le {s : Nat → Nat} : ∀ p, (∀ i, i < p → s i ≤ 4) → bk_tot s p ≤ 4 * bk_cz s p
  | 0, _ => Nat.le_refl 0
  | p + 1, h => by
    have h1 := tot_le p (fun i q => h i (by omega))
    have h2 := h p (by omega)
    rw [bk_tot, bk_cz]
    split <;> omega
theorem cz_tot {s : Nat → Nat} {k : Nat} : ∀ d, bk_cz s (k + d) + bk_tot s k ≤ bk_tot s (k + d) + bk_cz s k
  | 0 => by rw [Nat.add_zero]; omega
  | d + 1 => by
    have := cz_tot (s := s) (k := k) d
    rw [← Nat.add_assoc, bk_cz, bk_tot]
    split <;> omega
theorem cz_mono {s : Nat → Nat} {k : Nat} : ∀ d, bk_cz s k ≤ bk_cz s (k + d)
  | 0 => Nat.le_refl _
  | d + 1 => by
    have := cz_mono (s := s) (k := k) d
    rw [← Nat.add_assoc, bk_cz]
    omega
theorem cz_eq {s : Nat → Nat} {k : Nat} : ∀ d, bk_cz s (k + d) = bk_cz s k → ∀ i, k ≤ i → i < k + d → s i = 0
  | 0, _, i, h1, h2 => by omega
  | d + 1, h, i, h1, h2 => by
    have := cz_mono (s := s) (k := k) d
    rw [← Nat.add_assoc, bk_cz] at h
    by_cases z : i = k + d
    · subst z
      by_cases w : s (k + d) = 0
      · exact w
      · rw [if_neg w] at h
        omega
    · refine cz_eq d ?_ i h1 (by omega)
      have : bk_cz s (k + d) ≤ bk_cz s k := by omega
      omega
theorem tot_up {s : Nat → Nat} {k n : Nat} (h : s k = 0) : ∀ d, bk_tot (va_up s k n) (k + 1 + d) = bk_tot s (k + 1 + d) + n
  | 0 => by
    rw [Nat.add_zero, bk_tot, bk_tot, up_s, h, tot_c k (fun i q => up_n (by omega)), Nat.add_zero]
  | d + 1 => by
    rw [← Nat.add_assoc, bk_tot, bk_tot, tot_up h d, up_n (show ¬ k + 1 + d = k by omega)]
    omega
theorem cz_up {s : Nat → Nat} {k n : Nat} (h : s k = 0) (hn : ¬ n = 0) : ∀ d, bk_cz (va_up s k n) (k + 1 + d) = bk_cz s (k + 1 + d) + 1
  | 0 => by
    rw [Nat.add_zero, bk_cz, bk_cz, up_s, h, cz_c k (fun i q => up_n (by omega)), if_pos rfl, if_neg hn]
  | d + 1 => by
    rw [← Nat.add_assoc, bk_cz, bk_cz, cz_up h hn d, up_n (show ¬ k + 1 + d = k by omega)]
    omega
theorem A_up {m : Nat → Nat → Int32} {e : Nat} {s : Nat → Nat} {k n : Nat} (h : s k = 0) : ∀ d, bk_A m e (va_up s k n) (k + 1 + d) = bk_A m e s (k + 1 + d) + nI n * m k e
  | 0 => by
    rw [Nat.add_zero, bk_A, bk_A, up_s, h, A_c k (fun i q => up_n (by omega)), nI_0, Int32.zero_mul, Int32.add_zero]
  | d + 1 => by
    rw [← Nat.add_assoc, bk_A, bk_A, A_up h d, up_n (show ¬ k + 1 + d = k by omega), Int32.add_assoc, Int32.add_comm (nI n * m k e), ← Int32.add_assoc]
theorem i_lin (a b c d e : Int32) : (a - b) + c * (d - e) = (a + c * d) - (b + c * e) := by grind
theorem i_sub0 (a b : Int32) : a - b = 0 ↔ b = a := by
  constructor
  · intro h
    have : a - b + b = 0 + b := by rw [h]
    rw [Int32.sub_add_cancel, Int32.zero_add] at this
    exact this.symm
  · intro h
    rw [h, Int32.sub_self]
theorem e_lt {a b : Nat} (ha : 0 < a) (ha4 : a ≤ 4) (hb : b ≤ 4) (h : b = 0 ∨ a < b) : bk_e a < bk_e b := by
  unfold bk_e
  omega
/-- scratch of the baskets: times and the best -/
def bw (F : AF) (x y : Nat → Int32) : AF := va_up (va_up F 32 x) 33 y
theorem bw_32 {F : AF} {x y w : Nat → Int32} : va_up (bw F x y) 32 w = bw F w y := by
  funext j
  unfold bw va_up
  by_cases h : j = 32
  · subst h
    rfl
  · rw [if_neg h, if_neg h, if_neg h]
theorem bw_33 {F : AF} {x y w : Nat → Int32} : va_up (bw F x y) 33 w = bw F x w := by
  funext j
  unfold bw va_up
  by_cases h : j = 33
  · subst h
    rfl
  · rw [if_neg h, if_neg h, if_neg h]
def bk_post (L T : Nat) (w : Nat → Nat) (B : Nat) (g : Nat → Int32) : Prop := B = T ∧ ∀ i, i < L → g i = nI (w i)
def bk_pre (T B : Nat) : Prop := T < B
def bk_res (L T : Nat) (w : Nat → Nat) (V Q : (Nat → Nat) → Prop) (B : Nat) (g : Nat → Int32) (B' : Nat) (g' : Nat → Int32) : Prop :=
  (bk_post L T w B g → bk_post L T w B' g') ∧ (bk_pre T B → Q w → V w → bk_tot w 6 = T → bk_post L T w B' g') ∧ (bk_pre T B → (∀ x, Q x → V x → T < bk_tot x 6) → bk_pre T B')
theorem bk_75 {L T k r : Nat} {w s : Nat → Nat} {al : Nat → Bool} {m : Nat → Nat → Int32} {I : AI} {F : AF} {ko : Int32 → AI → AF → AQ} {rc : Int32 → Int32 → Int32 → Int32 → Int32 → Int32 → AI → AF → AQ}
    (hL : L ≤ 6) (hk : k < L) (hT : T ≤ 12) (sk : s k = 0) (hr : r ≤ 2) (ts : bk_tot s 6 ≤ 12) (hS : ∀ i, k ≤ i → s i = 0)
    (hG2 : ∀ x, bk_v al m x → bk_cz x 6 = bk_cz w 6 → bk_ah x w → T < bk_tot x 6)
    (hA : F 29 k = m k 1 - m k 0 ∧ F 30 k = m k 2 - m k 0 ∧ F 31 k = m k 3 - m k 0)
    (hrc : ∀ n B g2 g3, 1 ≤ n → n ≤ 4 → B ≤ 13 → (∀ i, i < L → g2 i = nI (va_up s k n i)) → ∃ B' g2' g3', rc (nI (k + 1)) (nI r) (nI (bk_tot (va_up s k n) 6)) (bk_A m 1 (va_up s k n) 6 - bk_A m 0 (va_up s k n) 6) (bk_A m 2 (va_up s k n) 6 - bk_A m 0 (va_up s k n) 6) (bk_A m 3 (va_up s k n) 6 - bk_A m 0 (va_up s k n) 6) (va_up I 17 (nI B)) (bw F g2 g3) = some (0, va_up I 17 (nI B'), bw F g2' g3') ∧ B' ≤ 13 ∧ (∀ i, i < L → g2' i = nI (va_up s k n i)) ∧ bk_res L T w (bk_v al m) (bk_in (k + 1) r (va_up s k n)) B g3 B' g3') :
    ∀ (t n fu B : Nat) (g2 g3 : Nat → Int32), n + t = 5 → 1 ≤ n → t < fu → B ≤ 13 → (∀ i, i < L → ¬ i = k → g2 i = nI (s i)) →
      ∃ v B' g2' g3', f_X0_extend_75 rc (nI (r + 1)) (nI (bk_tot s 6)) (bk_A m 1 s 6 - bk_A m 0 s 6) (bk_A m 2 s 6 - bk_A m 0 s 6) (bk_A m 3 s 6 - bk_A m 0 s 6) (nI k) ko fu (nI n) (va_up I 17 (nI B)) (bw F g2 g3) = ko v (va_up I 17 (nI B')) (bw F g2' g3') ∧ B' ≤ 13 ∧ (∀ i, i < L → ¬ i = k → g2' i = nI (s i)) ∧ bk_res L T w (bk_v al m) (fun x => ∃ n', n ≤ n' ∧ n' ≤ 4 ∧ bk_in (k + 1) r (va_up s k n') x) B g3 B' g3' := by
  have k6 : k + 1 + (5 - k) = 6 := by omega
  have hin : ∀ n x, bk_in (k + 1) r (va_up s k n) x → x k = n ∧ ∀ i, i < k → x i = s i := by
    intro n x hx
    refine ⟨by rw [hx.1 k (by omega), up_s], fun i hi => ?_⟩
    rw [hx.1 i (by omega), up_n (by omega)]
  intro t
  induction t with
  | zero =>
    intro n fu B g2 g3 h1 h2 h3 h4 h5
    match fu, h3 with
    | fu + 1, _ =>
      have : n = 5 := by omega
      subst this
      refine ⟨nI 5, B, g2, g3, ?_, h4, h5, id, ?_, fun q _ => q⟩
      · rw [f_X0_extend_75, if_pos (by decide)]
      · rintro - ⟨n', a1, a2, -⟩
        omega
  | succ t ih =>
    intro n fu B g2 g3 h1 h2 h3 h4 h5
    match fu, h3 with
    | fu + 1, h3 =>
      have e1 : nI (bk_tot s 6) + nI n + nI (r + 1) - 1 = nI (bk_tot s 6 + n + r) := by
        rw [nI_add, nI_add, show (1 : Int32) = nI 1 from rfl, pk_sub (by omega)]
        rfl
      rw [f_X0_extend_75, if_neg (show ¬ nI 4 < nI n by rw [nlt (by decide) (by omega)]; omega), up_s, e1]
      by_cases z : B ≤ bk_tot s 6 + n + r
      · rw [if_pos ((nI_leI (by omega) (by omega)).mpr z)]
        refine ⟨nI n, B, g2, g3, rfl, h4, h5, id, ?_, fun q _ => q⟩
        rintro hp ⟨n', a1, a2, a3⟩ hv ht
        exfalso
        have b1 := cz_tot (s := w) (k := k + 1) (5 - k)
        rw [k6, a3.2] at b1
        have b2 : bk_tot w (k + 1) = bk_tot s k + n' := by
          rw [bk_tot, (hin n' w a3).1, tot_c k (hin n' w a3).2]
        have b3 : bk_tot s 6 = bk_tot s k := by
          have c1 : ∀ d, bk_tot s (k + d) = bk_tot s k := by
            intro d
            induction d with
            | zero => rfl
            | succ d ihd => rw [← Nat.add_assoc, bk_tot, ihd, hS (k + d) (by omega), Nat.add_zero]
          have := c1 (6 - k)
          rw [show k + (6 - k) = 6 by omega] at this
          exact this
        unfold bk_pre at hp
        omega
      · rw [if_neg (fun q => z ((nI_leI (by omega) (by omega)).mp q)), vin_t (show k < 6 by omega) (by decide), cond_true, cond_true, cond_true, cond_true, lt_e, nI_clamp (show k < 2 ^ 31 by omega), show bw F g2 g3 32 = g2 from rfl, bw_32, show bw F g2 g3 29 = F 29 from rfl, show bw F g2 g3 30 = F 30 from rfl, show bw F g2 g3 31 = F 31 from rfl, hA.1, hA.2.1, hA.2.2, i_lin, i_lin, i_lin, nI_1, nI_add, show nI (r + 1) - 1 = nI r from pk_sub (b := 1) (by omega)]
        have tu := tot_up (n := n) sk (5 - k)
        have au := fun e => A_up (m := m) (e := e) (n := n) sk (5 - k)
        rw [k6] at tu
        rw [k6] at au
        have hg : ∀ i, i < L → upd g2 k (nI n) i = nI (va_up s k n i) := by
          intro i hi
          by_cases y : i = k
          · rw [y, pk_us, up_s]
          · rw [pk_un y, up_n y, h5 i hi y]
        obtain ⟨B1, g2', g3', c1, c2, c3, c4, c5, c6⟩ := hrc n B (upd g2 k (nI n)) g3 h2 (by omega) h4 hg
        rw [tu, au 0, au 1, au 2, au 3] at c1
        rw [c1, bd_s, nI_1]
        obtain ⟨v, B2, g2'', g3'', d1, d2, d3, d4, d5, d6⟩ := ih (n + 1) fu B1 g2' g3' (by omega) (by omega) (by omega) c2 (by
          intro i hi y
          rw [c3 i hi, up_n y])
        refine ⟨v, B2, g2'', g3'', d1, d2, d3, fun q => d4 (c4 q), ?_, ?_⟩
        · rintro hp ⟨n', a1, a2, a3⟩ hv ht
          by_cases y : n' = n
          · subst y
            exact d4 (c5 hp a3 hv ht)
          · refine d5 (c6 hp ?_) ⟨n', by omega, a2, a3⟩ hv ht
            intro x hx vx
            have x1 := hin n x hx
            have x2 := hin n' w a3
            refine hG2 x vx ?_ ⟨k, by omega, fun i hi => (x1.2 i hi).trans (x2.2 i hi).symm, ?_⟩
            · rw [hx.2, a3.2, bk_cz, bk_cz, x1.1, x2.1, if_neg (by omega), if_neg (by omega), cz_c (x := x) (y := w) k (fun i hi => (x1.2 i hi).trans (x2.2 i hi).symm)]
            · rw [x1.1, x2.1]
              exact e_lt (by omega) (by omega) a2 (Or.inr (by omega))
        · intro hp hx
          refine d6 (c6 hp ?_) ?_
          · intro x q
            exact hx x ⟨n, Nat.le_refl n, by omega, q⟩
          · rintro x ⟨n', a1, a2, a3⟩
            exact hx x ⟨n', by omega, a2, a3⟩
