def cd5 (s : Nat → Nat) : Nat := ((((s 0 * 5 + s 1) * 5 + s 2) * 5 + s 3) * 5 + s 4) * 5 + s 5
theorem cd5_dg {s : Nat → Nat} (h : ∀ i, i < 6 → s i ≤ 4) : cd5 s < 15625 ∧ ∀ i, i < 6 → s i = dg5 (cd5 s) i := by
  have h0 := h 0 (by decide)
  have h1 := h 1 (by decide)
  have h2 := h 2 (by decide)
  have h3 := h 3 (by decide)
  have h4 := h 4 (by decide)
  have h5 := h 5 (by decide)
  refine ⟨by unfold cd5; omega, ?_⟩
  intro i hi
  unfold dg5 cd5
  match i, hi with
  | 0, _ =>
    show _ = _ / 3125 % 5
    omega
  | 1, _ =>
    show _ = _ / 625 % 5
    omega
  | 2, _ =>
    show _ = _ / 125 % 5
    omega
  | 3, _ =>
    show _ = _ / 25 % 5
    omega
  | 4, _ =>
    show _ = _ / 5 % 5
    omega
  | 5, _ =>
    show _ = _ / 1 % 5
    omega
theorem K_le {x y : Nat → Nat} (hx : ∀ i, i < 6 → x i ≤ 4) (hy : ∀ i, i < 6 → y i ≤ 4) (h : bk_K x ≤ bk_K y) : bk_tot x 6 ≤ bk_tot y 6 ∧ (bk_tot x 6 = bk_tot y 6 → bk_cz x 6 ≤ bk_cz y 6 ∧ (bk_cz x 6 = bk_cz y 6 → bk_lx x 6 ≤ bk_lx y 6)) := by
  obtain ⟨t1, c1, l1⟩ := bk_Kb hx
  obtain ⟨t2, c2, l2⟩ := bk_Kb hy
  unfold bk_K at h
  omega
theorem sim_basket (v1 : Int32) : ab_Sim Inv (f_X9_basket v1) (f_X10_basket v1) := by
  intro I F h
  have h0 := h
  obtain ⟨t, L, C, R, u, o, q, g, bb, hT, ⟨hL, hC, hR, e9, e10, e11, e22, e23, e24⟩, hPL, hQ, hV, hS, hD, hU, hM, hN⟩ := h
  obtain ⟨al, s, ha1, ea, ea2, hs1, es, -⟩ := SR_a hS
  have ha31 := pow31 hL ha1
  have one : ¬ (1 : Int32) = 0 := by decide
  have hh := PL_h hPL
  by_cases hv : v1 = -1 ∨ ∃ k, k < L ∧ v1 = nI k
  · have mid : ∃ r I1 F1 I2, f_X9_basket_j19 v1 I F = some (r, I1, F1) ∧ f_X10_basket_j16 v1 I1 F1 = some (r, I2, F1) ∧ Inv I2 F1 ∧ I1 22 = I 22 := by
      by_cases ex : ∃ x, x < 15625 ∧ bk_v (bk_al F al) (om F) (dg5 x)
      · obtain ⟨kap, ⟨w0, w1, w2, w3⟩, kmin⟩ := pk_least (fun kap => ∃ x, x < 15625 ∧ bk_v (bk_al F al) (om F) (dg5 x) ∧ bk_K (dg5 x) = kap) (by
          obtain ⟨x, x1, x2⟩ := ex
          exact ⟨_, x, x1, x2, rfl⟩)
        obtain ⟨w, ⟨hw, hwv, hwk⟩, wfst⟩ := pk_least (fun x => x < 15625 ∧ bk_v (bk_al F al) (om F) (dg5 x) ∧ bk_K (dg5 x) = kap) ⟨w0, w1, w2, w3⟩
        have hmin : ∀ x, x < 15625 → bk_v (bk_al F al) (om F) (dg5 x) → bk_K (dg5 w) ≤ bk_K (dg5 x) := by
          intro x x1 x2
          rw [hwk]
          exact Nat.le_of_not_lt (fun q => kmin _ q ⟨x, x1, x2, rfl⟩)
        have hfst : ∀ x, x < w → bk_v (bk_al F al) (om F) (dg5 x) → bk_K (dg5 w) < bk_K (dg5 x) := by
          intro x x1 x2
          refine Nat.lt_of_le_of_ne (hmin x (by omega) x2) (fun q => ?_)
          exact wfst x x1 ⟨by omega, x2, by rw [← q, hwk]⟩
        have w4 : ∀ i, i < 6 → dg5 w i ≤ 4 := fun i _ => Nat.le_of_lt_succ (dg5_lt w i)
        have tw := tot_le 6 w4
        have hT12 : bk_tot (dg5 w) 6 ≤ 12 := by
          have := hwv.2.1.2
          omega
        -- every basket, as a row, is one of the codes
        have G : ∀ x, bk_v (bk_al F al) (om F) x → bk_tot (dg5 w) 6 ≤ bk_tot x 6 ∧ (bk_tot (dg5 w) 6 = bk_tot x 6 → bk_cz (dg5 w) 6 ≤ bk_cz x 6 ∧ (bk_cz (dg5 w) 6 = bk_cz x 6 → bk_lx (dg5 w) 6 ≤ bk_lx x 6)) := by
          intro x hx
          obtain ⟨x1, x2⟩ := cd5_dg (fun i hi => (hx.1 i hi).1)
          have k := K_le w4 (fun i _ => Nat.le_of_lt_succ (dg5_lt (cd5 x) i)) (hmin (cd5 x) x1 (v_c x2 hx))
          rw [← tot_c 6 x2, ← cz_c 6 x2, ← lx_c 6 x2] at k
          exact k
        obtain ⟨x, y1, y2, y3, u', z, g', B, s1, s2, s3⟩ := bk_X (C := C) (T := bk_tot (dg5 w) 6) (w := dg5 w) (I := I) hL ea ha1 hh e9 hT12 (fun x hx => (G x hx).1) (by
          intro x hx c a
          have k := G x hx
          have := ah_lx a
          omega) (by
          intro x hx c
          have k := G x hx
          omega)
        obtain ⟨rB, rg⟩ := s3.2.1 (show bk_tot (dg5 w) 6 < 13 by omega) hwv.2.1.1 hwv rfl
        have fnd : f_X10_findBasket (va_up (va_up (va_up I 19 (nI L)) 18 x) 17 (nI B)) (bw (bz F y1 y2 y3 u') z g') = some (0, va_up (va_up (va_up (va_up I 19 (nI L)) 18 x) 17 (nI B)) 35 (nI w), bw (bz F y1 y2 y3 u') z g') := by
          unfold f_X10_findBasket
          rw [lt_e]
          have w1 : 1 ≤ w := by
            refine Nat.pos_of_ne_zero (fun q => ?_)
            have := hwv.2.1.1
            rw [q] at this
            exact absurd this (by decide)
          have := M_fb (I := va_up (va_up (va_up I 19 (nI L)) 18 x) 17 (nI B)) (F := bw (bz F y1 y2 y3 u') z g') (ko := fun _ I F => some (0, I, F)) hL e22 ea2 ha1 hPL hS hw hwv hmin hfst 15624 1 ab_fu (-1) rfl (by decide) (Or.inl ⟨w1, Or.inl rfl⟩)
          exact this
        have X : ∀ (v : Int32) (r : Int32) , (if ¬ v = (-1 : Int32) then (bif ab_vin v 6 then some ((g' v.toNatClampNeg), va_up (va_up (va_up I 19 (nI L)) 18 x) 17 (nI B), bw (bz F y1 y2 y3 u') z g') else none) else some (nI B, va_up (va_up (va_up I 19 (nI L)) 18 x) 17 (nI B), bw (bz F y1 y2 y3 u') z g')) = (some (r, va_up (va_up (va_up I 19 (nI L)) 18 x) 17 (nI B), bw (bz F y1 y2 y3 u') z g') : AQ) → f_X9_basket_j19 v I F = some (r, va_up (va_up (va_up I 19 (nI L)) 18 x) 17 (nI B), bw (bz F y1 y2 y3 u') z g') := by
          intro v r e
          unfold f_X9_basket_j19 f_X0_isFound
          rw [s1, bd_s, up_s, if_neg (show ¬ nI 13 ≤ nI B by rw [nle (by decide) (by omega)]; omega), bd_s, if_pos one]
          exact e
        rcases hv with rfl | ⟨j, hj, rfl⟩
        · refine ⟨nI (bk_tot (dg5 w) 6), _, _, va_up (va_up (va_up (va_up I 19 (nI L)) 18 x) 17 (nI B)) 35 (nI w), X _ (nI (bk_tot (dg5 w) 6)) ?_, ?_, ?_, ?_⟩
          · rw [if_neg (not_not_intro rfl), rB]
          · unfold f_X10_basket_j16
            rw [fnd, bd_s, up_s, if_pos (nI_pos' (by omega)), if_neg (not_not_intro rfl), M_tof (by omega), bd_s]
          · exact h0
          · rfl
        · have nj : ¬ nI j = -1 := by rw [nm1 (by omega)]; exact id
          refine ⟨nI (dg5 w j), _, _, va_up (va_up (va_up (va_up I 19 (nI L)) 18 x) 17 (nI B)) 35 (nI w), X _ (nI (dg5 w j)) ?_, ?_, ?_, ?_⟩
          · rw [if_pos nj, vin_t (show j < 6 by omega) (by decide), cond_true, nI_clamp (by omega), rg j hj]
          · unfold f_X10_basket_j16
            rw [fnd, bd_s, up_s, if_pos (nI_pos' (by omega)), if_pos nj, M_tim (by omega) (by omega), bd_s]
          · exact h0
          · rfl
      · have hno : ∀ x, x < 15625 → ¬ bk_v (bk_al F al) (om F) (dg5 x) := fun x x1 x2 => ex ⟨x, x1, x2⟩
        have hnos : ∀ x, ¬ bk_v (bk_al F al) (om F) x := by
          intro x hx
          obtain ⟨x1, x2⟩ := cd5_dg (fun i hi => (hx.1 i hi).1)
          exact hno _ x1 (v_c x2 hx)
        obtain ⟨x, y1, y2, y3, u', z, g', B, s1, s2, s3⟩ := bk_X (C := C) (T := 12) (w := fun _ => 0) (I := I) hL ea ha1 hh e9 (Nat.le_refl 12) (fun x hx => absurd hx (hnos x)) (fun x hx => absurd hx (hnos x)) (fun x hx => absurd hx (hnos x))
        have hB : 12 < B := s3.2.2 (show 12 < 13 by decide) (fun x _ hx => absurd hx (hnos x))
        have fnd : f_X10_findBasket (va_up (va_up (va_up I 19 (nI L)) 18 x) 17 (nI B)) (bw (bz F y1 y2 y3 u') z g') = some (0, va_up (va_up (va_up (va_up I 19 (nI L)) 18 x) 17 (nI B)) 35 (-1), bw (bz F y1 y2 y3 u') z g') := by
          unfold f_X10_findBasket
          rw [lt_e]
          have := M_fb0 (I := va_up (va_up (va_up (va_up I 19 (nI L)) 18 x) 17 (nI B)) 35 (-1)) (F := bw (bz F y1 y2 y3 u') z g') (ko := fun _ I F => some (0, I, F)) hL e22 ea2 ha1 hPL hS hno 15624 1 ab_fu rfl (by decide)
          exact this
        refine ⟨-1, va_up (va_up (va_up I 19 (nI L)) 18 x) 17 (nI B), bw (bz F y1 y2 y3 u') z g', va_up (va_up (va_up (va_up I 19 (nI L)) 18 x) 17 (nI B)) 35 (-1), ?_, ?_, h0, rfl⟩
        · unfold f_X9_basket_j19 f_X0_isFound
          rw [s1, bd_s, up_s, if_pos (show nI 13 ≤ nI B by rw [nle (by decide) (by omega)]; omega), bd_s, if_neg (by decide)]
        · unfold f_X10_basket_j16
          rw [fnd, bd_s, up_s, if_neg (by decide)]
    obtain ⟨r, I1, F1, I2, m1, m2, m3, m4⟩ := mid
    refine ⟨r, I1, F1, I2, F1, ?_, ?_, m3⟩
    · unfold f_X9_basket
      rcases hv with rfl | ⟨j, hj, rfl⟩
      · rw [if_pos rfl, m1]
      · rw [if_neg (by rw [nm1 (by omega)]; exact id), hasL_in hL e9 hj, bd_s, if_pos one, m1]
    · unfold f_X10_basket
      rcases hv with rfl | ⟨j, hj, rfl⟩
      · rw [if_pos rfl, m2]
      · rw [if_neg (by rw [nm1 (by omega)]; exact id), isL_in hL (m4.trans e22) hj, bd_s, if_pos one, m2]
  · rcases i_cs v1 (n := L) (by omega) with hk | hx
    · exact absurd (Or.inr hk) hv
    · refine ⟨-1000000001, I, F, I, F, ?_, ?_, h0⟩
      · unfold f_X9_basket
        rw [if_neg (fun q => hv (Or.inl q)), hasL_out hL e9 hx, bd_s, if_neg (by decide)]
      · unfold f_X10_basket
        rw [if_neg (fun q => hv (Or.inl q)), isL_out hL e22 hx, bd_s, if_neg (by decide)]
