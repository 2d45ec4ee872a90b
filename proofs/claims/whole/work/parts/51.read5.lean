theorem cl_heir {t p nl nc nr : Nat} {f : Nat → Int32} {I : AI} {F : AF} {I' : AI} {F' : AF} (hT : RT t f) (hp : p ≤ t) (h : CS t p f I F) (h' : MS t p f I' F') (hD : DR nl nc nr I F I' F') (hl : 1 ≤ nl) :
    CLF I F I' F' (f_X6_readHeir I F) (ab_bd (f_X10_takeHeir I' F') (fun r I F => f_X10_takeClause_j198 r I F)) ∨ CLG t p f I F I' F' (f_X6_readHeir I F) (ab_bd (f_X10_takeHeir I' F') (fun r I F => f_X10_takeClause_j198 r I F)) := by
  obtain ⟨⟨d1, d2, d3, e6, e31, e7, e32, e8, e33⟩, dL, dC, dR⟩ := hD
  unfold f_X6_readHeir f_X10_takeHeir
  rw [e6, e31]
  have j59k : ∀ {k : Nat} {v : Int32} {J : AI} {G : AF}, 1 ≤ k → k ≤ 4 → f_X10_takeHeir_j59 v (nI k) J G = some (nI k, J, G) := by
    intro k v J G q1 q2
    unfold f_X10_takeHeir_j59
    simp only [nk_eq q1 q2, not_false_eq_true, if_true]
  have j40k : ∀ {k : Nat} {v : Int32} {J : AI} {G : AF}, 1 ≤ k → k ≤ 4 → f_X10_takeHeir_j40 (nI k) v J G = some (nI k, J, G) := by
    intro k v J G q1 q2
    unfold f_X10_takeHeir_j40
    simp only [nk_le q1 q2, if_false, j59k q1 q2]
  rcases num_both (v1 := 0) (v := 0) (lo := 0) (hi := nI nl - 1) hT hp rfl (by decide) h h' with ⟨k, pl, I1, J1, r1, s1, k1, k2, k3, k4, k5, k6, k7, k8⟩ | ⟨x0, q0, p1, I1, J1, r1, s1, k1, k2, k3, k4, k5, k6, k7, k8, k9, k10, k11, k12, k13⟩
  · simp only [r1, s1, bd_s, nk_eq k1 k2, i00, not_false_eq_true, if_true, j40k k1 k2, j198_k k1 k2]
    exact Or.inl (CLF_of k1 k2 k3 k4 k5 k6 k7 (GX_r F) k8 (GM_r F'))
  · have u0 : x0 < nl := i_hi k7 hl (by omega) k6
    have v6 : ab_vin (nI x0) 6 = true := vin_t (by omega) (by decide)
    have c0 : (nI x0).toNatClampNeg = x0 := nI_clamp (by omega)
    have a6 : I1 6 = nI nl := (k12 6 (by decide) (by decide)).trans e6
    have a31 : J1 31 = nI nl := (k13 31 (by decide) (by decide) (by decide)).trans e31
    have w0 : (va_up F 11 (upd (F 11) 0 (nI x0))) 11 0 = nI x0 := rfl
    have w3 : (va_up F 11 (upd (F 11) 0 (nI x0))) 3 = F 3 := rfl
    obtain ⟨y1, y2⟩ := dL.2.2 x0 u0
    unfold f_X6_isWithoutHeir
    simp only [r1, s1, bd_s, i00, i10, not_true_eq_false, if_false, w0, w3, v6, c0, cond_true, k10, a6]
    by_cases z : F 3 x0 = -1
    · have z1 : (F 3 x0 = -1) = True := eq_true z
      have z2 : (F' 51 x0 < 0) = True := eq_true (by rw [y1, z]; decide)
      unfold f_X10_takeHeir_j40
      simp only [z1, z2, if_true, bd_s, i10, i0le, if_false, a31, a6]
      rcases num_both (v1 := 1) (v := 1) (lo := 0) (hi := nI nl - 1) hT k2 rfl (by decide) k3 k4 with ⟨k, pl, I2, J2, r2, s2, l1, l2, l3, l4, l5, l6, l7, l8⟩ | ⟨x1, q1, p2, I2, J2, r2, s2, l1, l2, l3, l4, l5, l6, l7, l8, l9, l10, l11, l12, l13⟩
      · simp only [r2, s2, bd_s, i00, if_true, j59k l1 l2, j198_k l1 l2]
        exact Or.inl (CLF_of l1 l2 l3 l4 l5 l6 (FX_t (NX_f k12) l7) (GX_u (by decide)) (FM_t (NM_f k13) l8) (GM_r F'))
      · have u1 : x1 < nl := i_hi l7 hl (by omega) l6
        have X1 : NX I I2 := NX_t k12 l12
        have M1 : NM I' J2 := NM_t k13 l13
        have w1 : (va_up (va_up F 11 (upd (F 11) 0 (nI x0))) 11 (upd ((va_up F 11 (upd (F 11) 0 (nI x0))) 11) 1 (nI x1))) 11 0 = nI x0 := rfl
        have w2 : (va_up (va_up F 11 (upd (F 11) 0 (nI x0))) 11 (upd ((va_up F 11 (upd (F 11) 0 (nI x0))) 11) 1 (nI x1))) 11 1 = nI x1 := rfl
        unfold f_X6_isUnlike f_X10_takeHeir_j59
        simp only [r2, s2, bd_s, i00, i10, not_true_eq_false, if_false, w1, w2, l10]
        by_cases y : x0 = x1
        · subst y
          unfold f_X6_fail f_X10_fails
          simp only [not_true_eq_false, if_false, bd_s, i00, if_true]
          rw [j198_k (by decide) (by decide)]
          refine Or.inl (CLF_of (pl := q1) (by decide) (by decide) l8 rfl (up_s.trans l9) (up_s.trans l11) ?_ (GX_t (GX_u (by decide)) (GX_u (by decide))) ?_ (GM_r F'))
          · exact FX_t (NX_f X1) (FX_t (FX_u (by decide)) (FX_u (by decide)))
          · exact FM_t (NM_f M1) (FM_u (by decide))
        · have y' : (nI x0 = nI x1) = False := eq_false (fun q => y ((nI_eq (by omega) (by omega)).mp q))
          have y'' : (nI x1 = nI x0) = False := eq_false (fun q => y ((nI_eq (by omega) (by omega)).mp q).symm)
          simp only [y', y'', not_false_eq_true, if_true, v6, c0, cond_true, bd_s, i10, if_false]
          have m2 : MS t p2 f J2 (va_up F' 51 (upd (F' 51) x0 (nI x1))) := ⟨l4.1, l4.2.1, l4.2.2⟩
          rcases close_both hT l2 l3 m2 with ⟨k, pl, I5, J5, r5, s5, o1, o2, o3, o4, o5, o6, o7, o8⟩ | ⟨p5, I5, J5, r5, s5, o1, o2, o3, o4, o5, o6⟩
          · simp only [r5, s5, bd_s, i00, if_true]
            exact Or.inl ⟨k, pl, I5, _, J5, _, rfl, rfl, o1, o2, o3, o4, o5, o6, FX_t (NX_f X1) o7, GX_t (GX_u (by decide)) (GX_u (by decide)), FM_t (NM_f M1) o8, GM_u (by decide)⟩
          · have X3 : NX I I5 := NX_t X1 o5
            have M3 : NM I' J5 := NM_t M1 o6
            unfold f_X5_addHeir
            simp only [r5, s5, bd_s, i00, i10, if_true, if_false, w1, w2, v6, c0, cond_true]
            refine Or.inr ⟨p5, nl, nc, nr, _, _, J5, _, rfl, rfl, by omega, o2, ⟨o3.1, o3.2.1, o3.2.2⟩, o4, ?_, ?_, ?_, ?_, ?_, ?_, ?_, ?_⟩
            · refine ⟨⟨d1, d2, d3, (X3 6 (by decide) (by decide)).trans e6, (M3 31 (by decide) (by decide) (by decide)).trans e31, (X3 7 (by decide) (by decide)).trans e7, (M3 32 (by decide) (by decide) (by decide)).trans e32, (X3 8 (by decide) (by decide)).trans e8, (M3 33 (by decide) (by decide) (by decide)).trans e33⟩, ⟨dL.1, dL.2.1, ?_⟩, dC, dR⟩
              show ∀ j, j < nl → upd (F' 51) x0 (nI x1) j = upd (F 3) x0 (nI x1) j ∧ (upd (F 3) x0 (nI x1) j = -1 ∨ ∃ i, i < nl ∧ ¬ i = j ∧ upd (F 3) x0 (nI x1) j = nI i)
              intro j hj
              by_cases w : j = x0
              · subst w
                rw [pk_us, pk_us]
                exact ⟨rfl, Or.inr ⟨x1, u1, fun q => y q.symm, rfl⟩⟩
              · rw [pk_un w, pk_un w]
                exact dL.2.2 j hj
            · exact X3 3 (by decide) (by decide)
            · exact X3 4 (by decide) (by decide)
            · exact M3 27 (by decide) (by decide) (by decide)
            · exact NX_f X3
            · exact GX_t (GX_u (by decide)) (GX_t (GX_u (by decide)) (GX_u (by decide)))
            · exact NM_f M3
            · exact GM_u (by decide)
    · have z1 : (F 3 x0 = -1) = False := eq_false z
      have z2 : (F' 51 x0 < 0) = False := by
        rcases y2 with y2 | ⟨i, i1, -, y2⟩
        · exact absurd y2 z
        · rw [y1, y2]
          exact n0lt (by omega)
      unfold f_X6_fail f_X10_fails
      simp only [z1, z2, if_false, bd_s, i00, if_true]
      rw [j198_k (by decide) (by decide)]
      exact Or.inl (CLF_of (pl := q0) (by decide) (by decide) k8 rfl (up_s.trans k9) (up_s.trans k11) (FX_t (NX_f k12) (FX_t (FX_u (by decide)) (FX_u (by decide)))) (GX_u (by decide)) (FM_t (NM_f k13) (FM_u (by decide))) (GM_r F'))
/-- a limb's four additions -/
theorem four {t nl : Nat} {f : Nat → Int32} {ko ko' : Int32 → Int32 → AI → AF → AQ} (hT : RT t f) (hnl : nl < 6) :
    ∀ (m j n n' p : Nat) (I : AI) (F : AF) (I' : AI) (F' : AF), j + m = 4 → m < n → m < n' → p ≤ t → CS t p f I F → MS t p f I' F' → (∀ i, i < j → F 11 (1 + i) = F' 50 (4 * nl + i) ∧ ∃ a, a ≤ 18 ∧ F 11 (1 + i) = nI a) →
      (∃ (k pl : Nat) (x y : Int32) (I1 : AI) (F1 : AF) (J1 : AI) (G1 : AF), f_X6_readLimb_12 ko n 1 (nI (j + 1)) I F = ko 0 x I1 F1 ∧ f_X10_takeLimb_38 (nI nl) ko' n' 0 (nI j) I' F' = ko' (nI k) y J1 G1 ∧ 1 ≤ k ∧ k ≤ 4 ∧ pl ≤ 250 ∧ I1 3 = nI k ∧ I1 4 = nI pl ∧ J1 27 = nI pl ∧ FX I I1 ∧ GX F F1 ∧ FM I' J1 ∧ GM F' G1) ∨
      (∃ (p2 : Nat) (x y : Int32) (I1 : AI) (F1 : AF) (J1 : AI) (G1 : AF), f_X6_readLimb_12 ko n 1 (nI (j + 1)) I F = ko 1 x I1 F1 ∧ f_X10_takeLimb_38 (nI nl) ko' n' 0 (nI j) I' F' = ko' 0 y J1 G1 ∧ p ≤ p2 ∧ p2 ≤ t ∧ CS t p2 f I1 F1 ∧ MS t p2 f J1 G1 ∧ (∀ i, i < 4 → F1 11 (1 + i) = G1 50 (4 * nl + i) ∧ ∃ a, a ≤ 18 ∧ F1 11 (1 + i) = nI a) ∧ F1 11 0 = F 11 0 ∧ (∀ b, ¬ b = 11 → F1 b = F b) ∧ (∀ b, ¬ b = 50 → G1 b = F' b) ∧ (∀ i, i < 4 * nl → G1 50 i = F' 50 i) ∧ NX I I1 ∧ NM I' J1) := by
  intro m
  induction m with
  | zero =>
    intro j n n' p I F I' F' h1 h2 h3 h4 h5 h6 h7
    match n, n', h2, h3 with
    | n + 1, n' + 1, _, _ =>
      have : j = 4 := by omega
      subst this
      refine Or.inr ⟨p, nI 5, nI 4, I, F, I', F', ?_, ?_, Nat.le_refl p, h4, h5, h6, h7, rfl, fun _ _ => rfl, fun _ _ => rfl, fun _ _ => rfl, fun _ _ _ => rfl, fun _ _ _ _ => rfl⟩
      · rw [f_X6_readLimb_12, if_pos (by decide)]
      · rw [f_X10_takeLimb_38, if_pos (by decide)]
  | succ m ih =>
    intro j n n' p I F I' F' h1 h2 h3 h4 h5 h6 h7
    match n, n', h2, h3 with
    | n + 1, n' + 1, h2, h3 =>
      have v24 : ab_vin (nI (4 * nl + j)) 24 = true := vin_t (by omega) (by decide)
      have c24 : (nI (4 * nl + j)).toNatClampNeg = 4 * nl + j := nI_clamp (by omega)
      rw [f_X6_readLimb_12, if_neg (show ¬ nI 4 < nI (j + 1) by rw [nlt (by decide) (by omega)]; omega), if_neg (show ¬ (1 : Int32) = 0 by decide), f_X10_takeLimb_38, if_neg (show ¬ nI 4 ≤ nI j by rw [nle (by decide) (by omega)]; omega), if_neg (not_not_intro rfl)]
      unfold f_X10_into_s8
      rcases num_both (v1 := nI (j + 1)) (v := j + 1) (lo := 0) (hi := nI 18) hT h4 rfl (by omega) h5 h6 with ⟨k, pl, I1, J1, r1, s1, k1, k2, k3, k4, k5, k6, k7, k8⟩ | ⟨x0, q0, p1, I1, J1, r1, s1, k1, k2, k3, k4, k5, k6, k7, k8, k9, k10, k11, k12, k13⟩
      · match n, n', h2, h3 with
        | n + 1, n' + 1, h2, h3 =>
          refine Or.inl ⟨k, pl, nI (j + 1) + 1, nI j + 1, I1, F, J1, va_up F' 50 (upd (F' 50) (4 * nl + j) (J1 29)), ?_, ?_, k1, k2, k3, k4, k5, k6, k7, GX_r F, k8, GM_u (by decide)⟩
          · rw [r1, bd_s, f_X6_readLimb_12, if_pos rfl, ite_self]
          · rw [pk_mul, nI_add, s1, bd_s, v24, cond_true, c24, bd_s, f_X10_takeLimb_38, if_pos (show ¬ nI k = 0 by rw [n0eq (by omega)]; omega), ite_self]
      · have y0 := (nI_leI (a := x0) (b := 18) (by omega) (by decide)).mp k6
        rw [r1, bd_s, pk_mul, nI_add, s1, bd_s, v24, cond_true, c24, bd_s, nI_1, nI_1, k10]
        have m1 : MS t p1 f J1 (va_up F' 50 (upd (F' 50) (4 * nl + j) (nI x0))) := ⟨k4.1, k4.2.1, k4.2.2⟩
        have g11 : ∀ g, (va_up F 11 g) 11 = g := fun _ => up_s
        have g50 : ∀ g, (va_up F' 50 g) 50 = g := fun _ => up_s
        rcases ih (j + 1) n n' p1 I1 _ J1 _ (by omega) (by omega) (by omega) k2 k3 m1 (by
          intro i hi
          rw [g11, g50]
          by_cases z : i = j
          · subst z
            rw [show 1 + i = i + 1 by omega, pk_us, pk_us]
            exact ⟨rfl, x0, y0, rfl⟩
          · rw [pk_un (show ¬ 1 + i = j + 1 by omega), pk_un (show ¬ 4 * nl + i = 4 * nl + j by omega)]
            exact h7 i (by omega)) with ⟨k, pl, x, y, I2, F2, J2, G2, l1, l2, l3, l4, l5, l6, l7, l8, l9, l10, l11, l12⟩ | ⟨p2, x, y, I2, F2, J2, G2, l1, l2, l3, l4, l5, l6, l7, l8, l9, l10, l11, l12, l13⟩
        · exact Or.inl ⟨k, pl, x, y, I2, F2, J2, G2, l1, l2, l3, l4, l5, l6, l7, l8, FX_t (NX_f k12) l9, GX_t (GX_u (by decide)) l10, FM_t (NM_f k13) l11, GM_t (GM_u (by decide)) l12⟩
        · refine Or.inr ⟨p2, x, y, I2, F2, J2, G2, l1, l2, by omega, l4, l5, l6, l7, ?_, ?_, ?_, ?_, NX_t k12 l12, NM_t k13 l13⟩
          · rw [l8, g11, pk_un (by omega)]
          · intro b hb
            rw [l9 b hb, up_n hb]
          · intro b hb
            rw [l10 b hb, up_n hb]
          · intro i hi
            rw [l11 i hi, g50, pk_un (by omega)]
theorem cl_limb {t p nl nc nr : Nat} {f : Nat → Int32} {I : AI} {F : AF} {I' : AI} {F' : AF} (hT : RT t f) (hp : p ≤ t) (h : CS t p f I F) (h' : MS t p f I' F') (hD : DR nl nc nr I F I' F') (hc : nl < 6) :
    CLF I F I' F' (f_X6_readLimb I F) (ab_bd (f_X10_takeLimb I' F') (fun r I F => f_X10_takeClause_j198 r I F)) ∨ CLG t p f I F I' F' (f_X6_readLimb I F) (ab_bd (f_X10_takeLimb I' F') (fun r I F => f_X10_takeClause_j198 r I F)) := by
  obtain ⟨⟨d1, d2, d3, e6, e31, e7, e32, e8, e33⟩, dL, dC, dR⟩ := hD
  have vc : ab_vin (nI nl) 6 = true := vin_t hc (by decide)
  have cl : (nI nl).toNatClampNeg = nl := nI_clamp (by omega)
  have fu1 : ab_fu = 99999 + 1 := rfl
  unfold f_X6_readLimb f_X10_takeLimb f_X10_into_s7
  rw [e31, vc, cond_true, lt_e, lt_e, nI_1, cl]
  have m0 : MS t p f (va_up I' 31 (nI (nl + 1))) (va_up F' 51 (upd (F' 51) nl (-1))) := ⟨h'.1, h'.2.1, h'.2.2⟩
  have fm0 : FM I' (va_up I' 31 (nI (nl + 1))) := FM_u (by decide)
  rcases num_both (v1 := 0) (v := 0) (lo := nI 20) (hi := nI 99) hT hp rfl (by decide) h m0 with ⟨k, pl, I1, J1, r1, s1, k1, k2, k3, k4, k5, k6, k7, k8⟩ | ⟨x0, q0, p1, I1, J1, r1, s1, k1, k2, k3, k4, k5, k6, k7, k8, k9, k10, k11, k12, k13⟩
  · rw [r1, bd_s, fu1, f_X6_readLimb_12, if_pos rfl, ite_self, s1, bd_s, cond_true, bd_s, f_X10_takeLimb_38, if_pos (show ¬ nI k = 0 by rw [n0eq (by omega)]; omega), ite_self, bd_s, j198_k k1 k2]
    unfold f_X6_readLimb_j36
    rw [if_pos rfl, if_pos rfl]
    exact Or.inl (CLF_of k1 k2 k3 k4 k5 k6 k7 (GX_r F) (FM_t fm0 k8) (GM_t (GM_u (by decide)) (GM_u (by decide))))
  · rw [r1, bd_s, s1, bd_s, cond_true, bd_s, k10]
    have y0 := (nI_leI (a := x0) (b := 99) (by omega) (by decide)).mp k6
    have y1 := (nI_leI (a := 20) (b := x0) (by decide) (by omega)).mp k5
    have m1 : MS t p1 f J1 (va_up (va_up F' 51 (upd (F' 51) nl (-1))) 49 (upd ((va_up F' 51 (upd (F' 51) nl (-1))) 49) nl (nI x0))) := ⟨k4.1, k4.2.1, k4.2.2⟩
    have k := four (nl := nl) (ko := fun v1 _ I F => f_X6_readLimb_j36 v1 I F) (ko' := fun v2 _ I F => some (v2, I, F)) hT hc 4 0 ab_fu ab_fu p1 I1 _ J1 _ rfl (by decide) (by decide) k2 k3 m1 (fun i q => absurd q (Nat.not_lt_zero i))
    rw [show nI (0 + 1) = 1 from rfl, nI_0] at k
    rcases k with ⟨k, pl, x, y, I2, F2, J2, G2, l1, l2, l3, l4, l5, l6, l7, l8, l9, l10, l11, l12⟩ | ⟨p2, x, y, I2, F2, J2, G2, l1, l2, l3, l4, l5, l6, l7, l8, l9, l10, l11, l12, l13⟩
    · rw [l1, l2, bd_s, j198_k l3 l4]
      unfold f_X6_readLimb_j36
      rw [if_pos rfl, if_pos rfl]
      exact Or.inl (CLF_of l3 l4 l5 l6 l7 l8 (FX_t (NX_f k12) l9) (GX_t (GX_u (by decide)) l10) (FM_t fm0 (FM_t (NM_f k13) l11)) (GM_t (GM_u (by decide)) (GM_t (GM_u (by decide)) l12)))
    · rw [l1, l2, bd_s]
      unfold f_X6_readLimb_j36
      rw [if_neg (show ¬ (1 : Int32) = 0 by decide)]
      have X1 : NX I I2 := NX_t k12 l12
      have M1 : NM (va_up I' 31 (nI (nl + 1))) J2 := NM_t k13 l13
      have GX1 : GX F F2 := fun b q => (l9 b (by omega)).trans (up_n (by omega))
      have GM1 : GM F' G2 := fun b q => (l10 b (by omega)).trans ((up_n (by omega)).trans (up_n (by omega)))
      rcases close_both hT l4 l5 l6 with ⟨k, pl, I5, J5, r5, s5, o1, o2, o3, o4, o5, o6, o7, o8⟩ | ⟨p5, I5, J5, r5, s5, o1, o2, o3, o4, o5, o6⟩
      · simp only [r5, s5, bd_s, i00, if_true]
        exact Or.inl ⟨k, pl, I5, _, J5, _, rfl, rfl, o1, o2, o3, o4, o5, o6, FX_t (NX_f X1) o7, GX1, FM_t fm0 (FM_t (NM_f M1) o8), GM1⟩
      · have X3 : NX I I5 := NX_t X1 o5
        have M3 : NM (va_up I' 31 (nI (nl + 1))) J5 := NM_t M1 o6
        have a6 : I5 6 = nI nl := (X3 6 (by decide) (by decide)).trans e6
        simp only [r5, s5, bd_s, i00, i10, if_true, if_false]
        unfold f_X5_addLimb
        rw [a6, if_neg (show ¬ nI 6 ≤ nI nl by rw [nle (by decide) (by omega)]; omega), vc, cond_true, pk_mul, show (1 : Int32) = nI 1 from rfl, cg_t (by decide) (show nl * 4 + 4 ≤ 24 by omega) (by decide) (by decide), cond_true, lt_e, cond_true, bd_s, cl, nI_clamp (show nl * 4 < 2 ^ 31 by omega), nI_add]
        have f11 : F2 11 0 = nI x0 := l8
        have gb : ∀ b, ¬ b = 11 → F2 b = F b := fun b q => (l9 b q).trans (up_n q)
        have e49 : G2 49 = upd (F' 49) nl (nI x0) := l10 49 (by decide)
        have e51 : G2 51 = upd (F' 51) nl (-1) := l10 51 (by decide)
        have e50 : ∀ i, i < 4 * nl → G2 50 i = F' 50 i := l11
        have cc : ∀ c, ¬ c = 49 → ¬ c = 50 → ¬ c = 51 → G2 c = F' c := fun c q1 q2 q3 => (l10 c q2).trans ((up_n q1).trans (up_n q3))
        refine Or.inr ⟨p5, nl + 1, nc, nr, _, _, J5, _, rfl, rfl, by omega, o2, ⟨o3.1, o3.2.1, o3.2.2⟩, o4, ?_, ?_, ?_, ?_, ?_, ?_, ?_, ?_⟩
        · refine ⟨⟨by omega, d2, d3, up_s, (M3 31 (by decide) (by decide) (by decide)).trans up_s, (up_n (by decide)).trans ((X3 7 (by decide) (by decide)).trans e7), (M3 32 (by decide) (by decide) (by decide)).trans ((up_n (by decide)).trans e32), (up_n (by decide)).trans ((X3 8 (by decide) (by decide)).trans e8), (M3 33 (by decide) (by decide) (by decide)).trans ((up_n (by decide)).trans e33)⟩, ?_, ?_, ?_⟩
          · show DL (nl + 1) (upd (F2 1) nl (F2 11 0)) (va_cpy (F2 11) (F2 2) 1 (nl * 4) 4) (upd (F2 3) nl (-1)) (G2 49) (G2 50) (G2 51)
            rw [f11, gb 1 (by decide), gb 2 (by decide), gb 3 (by decide), e49, e51]
            refine ⟨?_, ?_, ?_⟩
            · intro j hj
              by_cases z : j = nl
              · subst z
                rw [pk_us, pk_us]
                exact ⟨rfl, x0, y1, y0, rfl⟩
              · rw [pk_un z, pk_un z]
                exact dL.1 j (by omega)
            · intro j hj
              by_cases z : j < 4 * nl
              · rw [pk_cpy_out (Or.inl (by omega)), e50 j z]
                exact dL.2.1 j z
              · rw [pk_cpy_in (by omega) (by omega)]
                have := l7 (j - 4 * nl) (by omega)
                rw [show 1 + (j - nl * 4) = 1 + (j - 4 * nl) by omega]
                rw [show 4 * nl + (j - 4 * nl) = j by omega] at this
                exact ⟨this.1.symm, this.2⟩
            · intro j hj
              by_cases z : j = nl
              · subst z
                rw [pk_us, pk_us]
                exact ⟨rfl, Or.inl rfl⟩
              · rw [pk_un z, pk_un z]
                obtain ⟨b1, b2⟩ := dL.2.2 j (by omega)
                refine ⟨b1, ?_⟩
                rcases b2 with b2 | ⟨i, i1, i2, i3⟩
                · exact Or.inl b2
                · exact Or.inr ⟨i, by omega, i2, i3⟩
          · show PQ (nl + 1) nc (F2 4) (F2 5) (F2 6) (G2 52) (G2 53) (G2 54)
            rw [gb 4 (by decide), gb 5 (by decide), gb 6 (by decide), cc 52 (by decide) (by decide) (by decide), cc 53 (by decide) (by decide) (by decide), cc 54 (by decide) (by decide) (by decide)]
            intro c hcc
            obtain ⟨b1, b2, b3, b4, ⟨b, b5, b6⟩, b7⟩ := dC c hcc
            exact ⟨b1, b2, b3, b4, ⟨b, by omega, b6⟩, b7⟩
          · show PV (nl + 1) nr (F2 7) (F2 8) (F2 9) (F2 10) (G2 55) (G2 56) (G2 57) (G2 58)
            rw [gb 7 (by decide), gb 8 (by decide), gb 9 (by decide), gb 10 (by decide), cc 55 (by decide) (by decide) (by decide), cc 56 (by decide) (by decide) (by decide), cc 57 (by decide) (by decide) (by decide), cc 58 (by decide) (by decide) (by decide)]
            intro c hcc
            obtain ⟨b1, b2, b3, b4, ⟨b, b5, b6⟩, ⟨b', b7, b8⟩, b9⟩ := dR c hcc
            exact ⟨b1, b2, b3, b4, ⟨b, by omega, b6⟩, ⟨b', by omega, b8⟩, b9⟩
        · exact (up_n (by decide)).trans (X3 3 (by decide) (by decide))
        · exact (up_n (by decide)).trans (X3 4 (by decide) (by decide))
        · exact (M3 27 (by decide) (by decide) (by decide)).trans (up_n (by decide))
        · exact FX_t (NX_f X3) (FX_u (by decide))
        · exact GX_t GX1 (GX_t (GX_u (by decide)) (GX_t (GX_u (by decide)) (GX_u (by decide))))
        · exact FM_t fm0 (NM_f M3)
        · exact GM1
