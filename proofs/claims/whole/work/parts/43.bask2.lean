theorem cz_zero {s : Nat → Nat} {k : Nat} (h : ∀ i, k ≤ i → s i = 0) : ∀ d, bk_cz s (k + d) = bk_cz s k
  | 0 => rfl
  | d + 1 => by rw [← Nat.add_assoc, bk_cz, cz_zero h d, h (k + d) (by omega), if_pos rfl, Nat.add_zero]
theorem bk_51 {L T r a : Nat} {w s : Nat → Nat} {al : Nat → Bool} {m : Nat → Nat → Int32} {I : AI} {F : AF} {ko : Int32 → AI → AF → AQ} {rc : Int32 → Int32 → Int32 → Int32 → Int32 → Int32 → AI → AF → AQ}
    (hL : L ≤ 6) (e19 : I 19 = nI L) (e18 : I 18 = nI a) (ha : a < 2 ^ 31) (hal : ∀ k, k < L → a.testBit k = al k) (hal2 : ∀ k, al k = true → k < L) (hT : T ≤ 12) (hr : r ≤ 2) (ts : bk_tot s 6 ≤ 12)
    (hG2 : ∀ x, bk_v al m x → bk_cz x 6 = bk_cz w 6 → bk_ah x w → T < bk_tot x 6)
    (hA : ∀ k, k < L → al k = true → F 29 k = m k 1 - m k 0 ∧ F 30 k = m k 2 - m k 0 ∧ F 31 k = m k 3 - m k 0)
    (hrc : ∀ k n B g2 g3, k < L → al k = true → (∀ i, k ≤ i → s i = 0) → 1 ≤ n → n ≤ 4 → B ≤ 13 → (∀ i, i < L → g2 i = nI (va_up s k n i)) → ∃ B' g2' g3', rc (nI (k + 1)) (nI r) (nI (bk_tot (va_up s k n) 6)) (bk_A m 1 (va_up s k n) 6 - bk_A m 0 (va_up s k n) 6) (bk_A m 2 (va_up s k n) 6 - bk_A m 0 (va_up s k n) 6) (bk_A m 3 (va_up s k n) 6 - bk_A m 0 (va_up s k n) 6) (va_up I 17 (nI B)) (bw F g2 g3) = some (0, va_up I 17 (nI B'), bw F g2' g3') ∧ B' ≤ 13 ∧ (∀ i, i < L → g2' i = nI (va_up s k n i)) ∧ bk_res L T w (bk_v al m) (bk_in (k + 1) r (va_up s k n)) B g3 B' g3') :
    ∀ (t k fu B : Nat) (g2 g3 : Nat → Int32), k + t = L → t < fu → B ≤ 13 → (∀ i, k ≤ i → s i = 0) → (∀ i, i < L → g2 i = nI (s i)) →
      ∃ v B' g2' g3', f_X0_extend_51 rc (nI (r + 1)) (nI (bk_tot s 6)) (bk_A m 1 s 6 - bk_A m 0 s 6) (bk_A m 2 s 6 - bk_A m 0 s 6) (bk_A m 3 s 6 - bk_A m 0 s 6) ko fu (nI k) (va_up I 17 (nI B)) (bw F g2 g3) = ko v (va_up I 17 (nI B')) (bw F g2' g3') ∧ B' ≤ 13 ∧ (∀ i, i < L → g2' i = nI (s i)) ∧ bk_res L T w (bk_v al m) (bk_in k (r + 1) s) B g3 B' g3' := by
  intro t
  induction t with
  | zero =>
    intro k fu B g2 g3 h1 h2 h3 h4 h5
    match fu, h2 with
    | fu + 1, _ =>
      have : k = L := by omega
      subst this
      refine ⟨nI k, B, g2, g3, ?_, h3, h5, id, ?_, fun q _ => q⟩
      · rw [f_X0_extend_51, up_n (by decide), e19, if_pos (Int32.le_refl _)]
      · intro _ q v _
        exfalso
        have z : ∀ d, k + d ≤ 6 → bk_cz w (k + d) = bk_cz w k := by
          intro d
          induction d with
          | zero => intro _; rfl
          | succ d ihd =>
            intro hd
            have : w (k + d) = 0 := by
              by_cases y : w (k + d) = 0
              · exact y
              · have := hal2 _ ((v.1 (k + d) (by omega)).2 y)
                omega
            rw [← Nat.add_assoc, bk_cz, ihd (by omega), this, if_pos rfl, Nat.add_zero]
        have := z (6 - k) (by omega)
        rw [show k + (6 - k) = 6 by omega, q.2] at this
        omega
  | succ t ih =>
    intro k fu B g2 g3 h1 h2 h3 h4 h5
    match fu, h2 with
    | fu + 1, h2 =>
      have hk : k < L := by omega
      have sk : s k = 0 := h4 k (Nat.le_refl k)
      rw [f_X0_extend_51, up_n (show ¬ 19 = 17 by decide), e19, if_neg (show ¬ nI L ≤ nI k by rw [nle (by omega) (by omega)]; omega), up_n (show ¬ 18 = 17 by decide), e18, bit_n ha (by omega), hal k hk]
      -- a basket with none of k is one from k + 1 on
      have i1 : ∀ x, bk_in k (r + 1) s x → x k = 0 → bk_in (k + 1) (r + 1) s x := by
        intro x q1 q2
        refine ⟨?_, ?_⟩
        · intro i hi
          by_cases y : i = k
          · rw [y, q2, sk]
          · exact q1.1 i (by omega)
        · rw [show bk_cz x (k + 1) = bk_cz x k + (if x k = 0 then 0 else 1) from rfl, q2, if_pos rfl, Nat.add_zero]
          exact q1.2
      have i2 : ∀ x, bk_in (k + 1) (r + 1) s x → bk_in k (r + 1) s x := by
        intro x q1
        refine ⟨fun i hi => q1.1 i (by omega), ?_⟩
        have := q1.2
        rw [show bk_cz x (k + 1) = bk_cz x k + (if x k = 0 then 0 else 1) from rfl, q1.1 k (by omega), sk, if_pos rfl, Nat.add_zero] at this
        exact this
      cases hb : al k with
      | false =>
        rw [if_neg Bool.false_ne_true, if_pos rfl, nI_1]
        obtain ⟨v, B', g2', g3', c1, c2, c3, c4, c5, c6⟩ := ih (k + 1) fu B g2 g3 (by omega) (by omega) h3 (fun i q => h4 i (by omega)) h5
        refine ⟨v, B', g2', g3', c1, c2, c3, c4, ?_, ?_⟩
        · intro hp q vv
          refine c5 hp (i1 w q ?_) vv
          by_cases y : w k = 0
          · exact y
          · have := (vv.1 k (by omega)).2 y
            rw [hb] at this
            exact absurd this Bool.false_ne_true
        · intro hp q
          exact c6 hp (fun x qx => q x (i2 x qx))
      | true =>
        rw [if_pos rfl, if_neg (show ¬ (1 : Int32) = 0 by decide)]
        have k75 := bk_75 (ko := fun _ I F => bif ab_vin (nI k) 6 then ab_lt (va_up F 32 (upd (F 32) (nI k).toNatClampNeg (0 : Int32))) (fun F => f_X0_extend_51 rc (nI (r + 1)) (nI (bk_tot s 6)) (bk_A m 1 s 6 - bk_A m 0 s 6) (bk_A m 2 s 6 - bk_A m 0 s 6) (bk_A m 3 s 6 - bk_A m 0 s 6) ko fu (nI k + 1) I F) else none) hL hk hT sk hr ts h4 hG2 (hA k hk hb) (fun n B g2 g3 q1 q2 q3 q4 => hrc k n B g2 g3 hk hb h4 q1 q2 q3 q4) 4 1 ab_fu B g2 g3 rfl (by decide) (by decide) h3 (fun i q _ => h5 i q)
        obtain ⟨v, B1, g2', g3', c1, c2, c3, c4, c5, c6⟩ := k75
        obtain ⟨v', B', g2'', g3'', d1, d2, d3, d4, d5, d6⟩ := ih (k + 1) fu B1 (upd g2' k 0) g3' (by omega) (by omega) c2 (fun i q => h4 i (by omega)) (by
          intro i hi
          by_cases y : i = k
          · rw [y, pk_us, sk, nI_0]
          · rw [pk_un y, c3 i hi y])
        refine ⟨v', B', g2'', g3'', ?_, d2, d3, fun q => d4 (c4 q), ?_, ?_⟩
        · refine c1.trans ?_
          show (bif ab_vin (nI k) 6 then ab_lt (va_up (bw F g2' g3') 32 (upd (bw F g2' g3' 32) (nI k).toNatClampNeg (0 : Int32))) (fun F => f_X0_extend_51 rc (nI (r + 1)) (nI (bk_tot s 6)) (bk_A m 1 s 6 - bk_A m 0 s 6) (bk_A m 2 s 6 - bk_A m 0 s 6) (bk_A m 3 s 6 - bk_A m 0 s 6) ko fu (nI k + 1) (va_up I 17 (nI B1)) F) else none) = _
          rw [vin_t (show k < 6 by omega) (by decide), cond_true, lt_e, nI_clamp (show k < 2 ^ 31 by omega), show bw F g2' g3' 32 = g2' from rfl, bw_32, nI_1]
          exact d1
        · intro hp q vv ht
          by_cases y : w k = 0
          · refine d5 (c6 hp ?_) (i1 w q y) vv ht
            rintro x ⟨n', a1, a2, a3⟩ vx
            have x1 : x k = n' := by rw [a3.1 k (by omega), up_s]
            have x2 : ∀ i, i < k → x i = w i := by
              intro i hi
              rw [a3.1 i (by omega), up_n (by omega), q.1 i hi]
            refine hG2 x vx ?_ ⟨k, by omega, x2, ?_⟩
            · rw [a3.2, q.2, bk_cz, x1, if_neg (by omega), cz_c k x2]
              omega
            · rw [x1, y]
              exact e_lt (by omega) a2 (by decide) (Or.inl rfl)
          · refine d4 (c5 hp ⟨w k, by omega, (vv.1 k (by omega)).1, ?_, ?_⟩ vv ht)
            · intro i hi
              by_cases z : i = k
              · rw [z, up_s]
              · rw [up_n z, q.1 i (by omega)]
            · rw [q.2, bk_cz, if_neg y]
              omega
        · intro hp q
          refine d6 (c6 hp ?_) (fun x qx => q x (i2 x qx))
          rintro x ⟨n', a1, a2, a3⟩ vx
          refine q x ⟨?_, ?_⟩ vx
          · intro i hi
            rw [a3.1 i (by omega), up_n (by omega)]
          · have x1 : x k = n' := by rw [a3.1 k (by omega), up_s]
            rw [a3.2, bk_cz, x1, if_neg (by omega)]
            omega
theorem bk_ext {L T a : Nat} {w : Nat → Nat} {al : Nat → Bool} {m : Nat → Nat → Int32} {I : AI} {F : AF}
    (hL : L ≤ 6) (e19 : I 19 = nI L) (e18 : I 18 = nI a) (ha : a < 2 ^ 31) (hal : ∀ k, k < L → a.testBit k = al k) (hal2 : ∀ k, al k = true → k < L) (hT : T ≤ 12)
    (hG1 : ∀ x, bk_v al m x → T ≤ bk_tot x 6)
    (hG2 : ∀ x, bk_v al m x → bk_cz x 6 = bk_cz w 6 → bk_ah x w → T < bk_tot x 6)
    (hA : ∀ k, k < L → al k = true → F 29 k = m k 1 - m k 0 ∧ F 30 k = m k 2 - m k 0 ∧ F 31 k = m k 3 - m k 0) :
    ∀ (r n f B : Nat) (s : Nat → Nat) (g2 g3 : Nat → Int32), r < n → f ≤ L → B ≤ 13 → 1 ≤ bk_cz s 6 + r → bk_cz s 6 + r ≤ 3 → (∀ k, k < 6 → s k ≤ 4 ∧ (¬ s k = 0 → al k = true)) → (∀ i, f ≤ i → s i = 0) → (∀ i, i < L → g2 i = nI (s i)) →
      ∃ B' g2' g3', f_X0_extend_n n (nI f) (nI r) (nI (bk_tot s 6)) (bk_A m 1 s 6 - bk_A m 0 s 6) (bk_A m 2 s 6 - bk_A m 0 s 6) (bk_A m 3 s 6 - bk_A m 0 s 6) (va_up I 17 (nI B)) (bw F g2 g3) = some (0, va_up I 17 (nI B'), bw F g2' g3') ∧ B' ≤ 13 ∧ (∀ i, i < L → g2' i = nI (s i)) ∧ bk_res L T w (bk_v al m) (bk_in f r s) B g3 B' g3' := by
  intro r
  induction r with
  | zero =>
    intro n f B s g2 g3 h1 h2 h3 h4 h5 h6 h7 h8
    match n, h1 with
    | n + 1, _ =>
      have tl := tot_le (s := s) 6 (fun i q => (h6 i q).1)
      have ws : ∀ x, bk_in f 0 s x → ∀ i, i < 6 → x i = s i := by
        intro x q i hi
        by_cases y : i < f
        · exact q.1 i y
        · have c := q.2
          rw [Nat.add_zero, show 6 = f + (6 - f) by omega] at c
          rw [cz_eq (6 - f) c i (by omega) (by omega), h7 i (by omega)]
      rw [f_X0_extend_n, f_X0_extend_b, nI_0, if_neg (by decide), up_s]
      -- the basket is not taken
      have no : (bk_v al m s → B ≤ bk_tot s 6) → ∃ B' g2' g3', (some (0, va_up I 17 (nI B), bw F g2 g3) : AQ) = some (0, va_up I 17 (nI B'), bw F g2' g3') ∧ B' ≤ 13 ∧ (∀ i, i < L → g2' i = nI (s i)) ∧ bk_res L T w (bk_v al m) (bk_in f 0 s) B g3 B' g3' := by
        intro q
        refine ⟨B, g2, g3, rfl, h3, h8, id, ?_, fun hp _ => hp⟩
        intro hp q2 vv ht
        exfalso
        have e := ws w q2
        have := q (v_c e vv)
        rw [← tot_c 6 e, ht] at this
        unfold bk_pre at hp
        omega
      by_cases z : B ≤ bk_tot s 6
      · rw [if_pos ((nI_leI (by omega) (by omega)).mpr z)]
        exact no (fun _ => z)
      · rw [if_neg (fun q => z ((nI_leI (by omega) (by omega)).mp q))]
        by_cases z1 : bk_A m 1 s 6 - bk_A m 0 s 6 = 0
        · by_cases z2 : bk_A m 2 s 6 - bk_A m 0 s 6 = 0
          · by_cases z3 : bk_A m 3 s 6 - bk_A m 0 s 6 = 0
            · rw [if_neg (not_not_intro z1), if_neg (not_not_intro z2), if_neg (not_not_intro z3), lt_e, lt_e, up_uu, show bw F g2 g3 32 = g2 from rfl, show bw F g2 g3 33 = g3 from rfl, bw_33]
              have vs : bk_v al m s := ⟨h6, ⟨by omega, by omega⟩, (i_sub0 _ _).mp z1, (i_sub0 _ _).mp z2, (i_sub0 _ _).mp z3⟩
              refine ⟨bk_tot s 6, g2, _, rfl, by omega, h8, ?_, ?_, ?_⟩
              · intro q
                have := hG1 s vs
                have := q.1
                omega
              · intro hp q2 vv ht
                have e := ws w q2
                refine ⟨by rw [← tot_c 6 e, ht], ?_⟩
                intro i hi
                rw [pk_cpy_in (Nat.zero_le i) (by omega), Nat.zero_add, Nat.sub_zero, h8 i hi, e i (by omega)]
              · intro hp q
                refine q s ⟨fun _ _ => rfl, ?_⟩ vs
                have := cz_zero h7 (6 - f)
                rw [show f + (6 - f) = 6 by omega] at this
                exact this
            · rw [if_neg (not_not_intro z1), if_neg (not_not_intro z2), if_pos z3]
              exact no (fun v => absurd ((i_sub0 _ _).mpr v.2.2.2.2) z3)
          · rw [if_neg (not_not_intro z1), if_pos z2]
            exact no (fun v => absurd ((i_sub0 _ _).mpr v.2.2.2.1) z2)
        · rw [if_pos z1]
          exact no (fun v => absurd ((i_sub0 _ _).mpr v.2.2.1) z1)
  | succ r ih =>
    intro n f B s g2 g3 h1 h2 h3 h4 h5 h6 h7 h8
    match n, h1 with
    | n + 1, h1 =>
      have tl := tot_le (s := s) 6 (fun i q => (h6 i q).1)
      rw [f_X0_extend_n, f_X0_extend_b, if_pos (show (0 : Int32) < nI (r + 1) by rw [n0gt (by omega)]; omega)]
      obtain ⟨v, B', g2', g3', c⟩ := bk_51 (ko := fun _ I F => some (0, I, F)) (rc := f_X0_extend_n n) hL e19 e18 ha hal hal2 hT (show r ≤ 2 by omega) (show bk_tot s 6 ≤ 12 by omega) hG2 hA (by
        intro k n' B g2 g3 q1 q2 q3 q4 q5 q6 q7
        have cu := cz_up (n := n') (q3 k (Nat.le_refl k)) (by omega) (5 - k)
        rw [show k + 1 + (5 - k) = 6 by omega] at cu
        refine ih n (k + 1) B (va_up s k n') g2 g3 (by omega) (by omega) q6 (by omega) (by omega) ?_ ?_ q7
        · intro i hi
          by_cases y : i = k
          · rw [y, up_s]
            exact ⟨q5, fun _ => q2⟩
          · rw [up_n y]
            exact h6 i hi
        · intro i hi
          rw [up_n (by omega)]
          exact q3 i (by omega)) (L - f) f ab_fu B g2 g3 (by omega) (Nat.lt_of_le_of_lt (show L - f ≤ 6 by omega) (by decide)) h3 h7 h8
      exact ⟨B', g2', g3', c⟩
theorem bk_111 {L T a : Nat} {w : Nat → Nat} {al : Nat → Bool} {m : Nat → Nat → Int32} {I : AI} {F : AF}
    (hL : L ≤ 6) (e19 : I 19 = nI L) (e18 : I 18 = nI a) (ha : a < 2 ^ 31) (hal : ∀ k, k < L → a.testBit k = al k) (hal2 : ∀ k, al k = true → k < L) (hT : T ≤ 12)
    (hG1 : ∀ x, bk_v al m x → T ≤ bk_tot x 6)
    (hG2 : ∀ x, bk_v al m x → bk_cz x 6 = bk_cz w 6 → bk_ah x w → T < bk_tot x 6)
    (hG3 : ∀ x, bk_v al m x → bk_cz x 6 < bk_cz w 6 → T < bk_tot x 6)
    (hA : ∀ k, k < L → al k = true → F 29 k = m k 1 - m k 0 ∧ F 30 k = m k 2 - m k 0 ∧ F 31 k = m k 3 - m k 0) :
    ∀ (t r n B : Nat) (g2 g3 : Nat → Int32), r + t = 4 → 1 ≤ r → t < n → B ≤ 13 → (∀ i, i < L → g2 i = 0) →
      ∃ B' g2' g3', f_X0_search_111 (fun _ I F => some (0, I, F)) n (nI r) (va_up I 17 (nI B)) (bw F g2 g3) = some (0, va_up I 17 (nI B'), bw F g2' g3') ∧ B' ≤ 13 ∧ bk_res L T w (bk_v al m) (fun x => r ≤ bk_cz x 6) B g3 B' g3' := by
  intro t
  induction t with
  | zero =>
    intro r n B g2 g3 h1 h2 h3 h4 h5
    match n, h3 with
    | n + 1, _ =>
      have : r = 4 := by omega
      subst this
      refine ⟨B, g2, g3, by rw [f_X0_search_111, if_pos (by decide)], h4, id, ?_, fun q _ => q⟩
      intro _ q v _
      have := v.2.1.2
      exfalso
      have : 4 ≤ bk_cz w 6 := q
      omega
  | succ t ih =>
    intro r n B g2 g3 h1 h2 h3 h4 h5
    match n, h3 with
    | n + 1, h3 =>
      rw [f_X0_search_111, if_neg (show ¬ nI 3 < nI r by rw [nlt (by decide) (by omega)]; omega)]
      have k := bk_ext (I := I) (F := F) hL e19 e18 ha hal hal2 hT hG1 hG2 hA r 8 0 B (fun _ => 0) g2 g3 (by omega) (Nat.zero_le L) h4 (show 1 ≤ 0 + r by omega) (show 0 + r ≤ 3 by omega) (fun k _ => ⟨Nat.zero_le _, fun q => absurd rfl q⟩) (fun i _ => rfl) (fun i hi => by rw [h5 i hi, nI_0])
      have A0 : ∀ e, bk_A m e (fun _ => 0) 6 = 0 := by
        intro e
        simp only [bk_A, nI_0, Int32.zero_mul, Int32.add_zero]
      rw [A0, A0, A0, A0, Int32.sub_self, show bk_tot (fun _ => 0) 6 = 0 from rfl, nI_0] at k
      obtain ⟨B1, g2', g3', c1, c2, c3, c4, c5, c6⟩ := k
      have e8 : f_X0_extend = f_X0_extend_n 8 := rfl
      rw [e8, c1, bd_s, nI_1]
      obtain ⟨B', g2'', g3'', d1, d2, d4, d5, d6⟩ := ih (r + 1) n B1 g2' g3' (by omega) (by omega) (by omega) c2 c3
      refine ⟨B', g2'', g3'', d1, d2, fun q => d4 (c4 q), ?_, ?_⟩
      · intro hp q v ht
        by_cases y : bk_cz w 6 = r
        · refine d4 (c5 hp ⟨fun i hi => absurd hi (Nat.not_lt_zero i), ?_⟩ v ht)
          rw [y]
          exact (Nat.zero_add r).symm
        · have y2 : r + 1 ≤ bk_cz w 6 := by
            have : r ≤ bk_cz w 6 := q
            omega
          refine d5 (c6 hp ?_) y2 v ht
          intro x hx vx
          have : bk_cz x 6 = 0 + r := hx.2
          exact hG3 x vx (by omega)
      · intro hp q
        refine d6 (c6 hp ?_) ?_
        · intro x hx
          have : bk_cz x 6 = 0 + r := hx.2
          exact q x (show r ≤ bk_cz x 6 by omega)
        · intro x hx
          exact q x (show r ≤ bk_cz x 6 from Nat.le_trans (Nat.le_succ r) hx)
