def DL (nl : Nat) (f1 f2 f3 g1 g2 g3 : Nat → Int32) : Prop := (∀ j, j < nl → g1 j = f1 j ∧ ∃ a, 20 ≤ a ∧ a ≤ 99 ∧ f1 j = nI a) ∧ (∀ j, j < 4 * nl → g2 j = f2 j ∧ ∃ a, a ≤ 18 ∧ f2 j = nI a) ∧ (∀ j, j < nl → g3 j = f3 j ∧ (f3 j = -1 ∨ ∃ i, i < nl ∧ ¬ i = j ∧ f3 j = nI i))
def DR (nl nc nr : Nat) (I : AI) (F : AF) (I' : AI) (F' : AF) : Prop :=
  (nl ≤ 6 ∧ nc ≤ 6 ∧ nr ≤ 8 ∧ I 6 = nI nl ∧ I' 31 = nI nl ∧ I 7 = nI nc ∧ I' 32 = nI nc ∧ I 8 = nI nr ∧ I' 33 = nI nr) ∧ DL nl (F 1) (F 2) (F 3) (F' 49) (F' 50) (F' 51) ∧ PQ nl nc (F 4) (F 5) (F 6) (F' 52) (F' 53) (F' 54) ∧ PV nl nr (F 7) (F 8) (F 9) (F 10) (F' 55) (F' 56) (F' 57) (F' 58)
/-- a clause, both ways -/
def CLF (I : AI) (F : AF) (I' : AI) (F' : AF) (cls rf : AQ) : Prop := ∃ (k pl : Nat) (I1 : AI) (F1 : AF) (I1' : AI) (F1' : AF), cls = some (0, I1, F1) ∧ rf = some (nI k, I1', F1') ∧ 1 ≤ k ∧ k ≤ 4 ∧ pl ≤ 250 ∧ I1 3 = nI k ∧ I1 4 = nI pl ∧ I1' 27 = nI pl ∧ FX I I1 ∧ GX F F1 ∧ FM I' I1' ∧ GM F' F1'
def CLG (t p : Nat) (f : Nat → Int32) (I : AI) (F : AF) (I' : AI) (F' : AF) (cls rf : AQ) : Prop := ∃ (p2 nl nc nr : Nat) (I1 : AI) (F1 : AF) (I1' : AI) (F1' : AF), cls = some (1, I1, F1) ∧ rf = some (0, I1', F1') ∧ p < p2 ∧ p2 ≤ t ∧ CS t p2 f I1 F1 ∧ MS t p2 f I1' F1' ∧ DR nl nc nr I1 F1 I1' F1' ∧ I1 3 = I 3 ∧ I1 4 = I 4 ∧ I1' 27 = I' 27 ∧ FX I I1 ∧ GX F F1 ∧ FM I' I1' ∧ GM F' F1'
theorem j198_k {k : Nat} {I : AI} {F : AF} (h1 : 1 ≤ k) (h2 : k ≤ 4) : f_X10_takeClause_j198 (nI k) I F = some (nI k, va_up I 28 (I 28 + 1), F) := by
  rw [f_X10_takeClause_j198, if_pos (show ¬ nI k = 0 by rw [n0eq (by omega)]; omega)]
theorem nk_le {k : Nat} (h1 : 1 ≤ k) (h2 : k ≤ 4) : (nI k ≤ 0) = False := eq_false (by rw [nle0 (by omega)]; omega)
theorem nk_eq {k : Nat} (h1 : 1 ≤ k) (h2 : k ≤ 4) : (nI k = 0) = False := eq_false (by rw [n0eq (by omega)]; omega)
theorem i10 : ((1 : Int32) = 0) = False := eq_false (by decide)
theorem i00 : ((0 : Int32) = 0) = True := eq_true rfl
theorem i0le : ((0 : Int32) ≤ 0) = True := eq_true (by decide)
theorem i_hi {x n : Nat} (hx : x ≤ 999) (hn : 1 ≤ n) (hn8 : n ≤ 8) (h : nI x ≤ nI n - 1) : x < n := by
  rw [show nI n - 1 = nI (n - 1) from pk_sub (b := 1) hn] at h
  have := (nI_leI (by omega) (by omega)).mp h
  omega
theorem CLF_of {I : AI} {F : AF} {I' : AI} {F' : AF} {k pl : Nat} {I1 J1 : AI} {F1 G1 : AF} (h1 : 1 ≤ k) (h2 : k ≤ 4) (h3 : pl ≤ 250) (h4 : I1 3 = nI k) (h5 : I1 4 = nI pl) (h6 : J1 27 = nI pl) (h7 : FX I I1) (h8 : GX F F1) (h9 : FM I' J1) (h10 : GM F' G1) :
    CLF I F I' F' (some (0, I1, F1)) (some (nI k, va_up J1 28 (J1 28 + 1), G1)) := ⟨k, pl, I1, F1, _, G1, rfl, rfl, h1, h2, h3, h4, h5, (up_n (by decide)).trans h6, h7, h8, fun b q => (up_n (by omega)).trans (h9 b q), h10⟩
theorem cl_contract {t p nl nc nr : Nat} {f : Nat → Int32} {I : AI} {F : AF} {I' : AI} {F' : AF} (hT : RT t f) (hp : p ≤ t) (h : CS t p f I F) (h' : MS t p f I' F') (hD : DR nl nc nr I F I' F') (hl : 1 ≤ nl) (hc : nc < 6) :
    CLF I F I' F' (f_X6_readContract I F) (ab_bd (f_X10_takeContract I' F') (fun r I F => f_X10_takeClause_j198 r I F)) ∨ CLG t p f I F I' F' (f_X6_readContract I F) (ab_bd (f_X10_takeContract I' F') (fun r I F => f_X10_takeClause_j198 r I F)) := by
  obtain ⟨⟨d1, d2, d3, e6, e31, e7, e32, e8, e33⟩, dL, dC, dR⟩ := hD
  have vc : ab_vin (nI nc) 6 = true := vin_t hc (by decide)
  have cl : (nI nc).toNatClampNeg = nc := nI_clamp (by omega)
  unfold f_X6_readContract f_X10_takeContract f_X10_into_s4 f_X10_into_s5 f_X10_into_s6
  rw [lt_e, e32, nI_1]
  have m0 : MS t p f (va_up I' 32 (nI (nc + 1))) F' := ⟨h'.1, h'.2.1, h'.2.2⟩
  have fm0 : FM I' (va_up I' 32 (nI (nc + 1))) := FM_u (by decide)
  rcases num_both (v1 := 0) (v := 0) (lo := 0) (hi := nI 99) hT hp rfl (by decide) h m0 with ⟨k, pl, I1, J1, r1, s1, k1, k2, k3, k4, k5, k6, k7, k8⟩ | ⟨x0, q0, p1, I1, J1, r1, s1, k1, k2, k3, k4, k5, k6, k7, k8, k9, k10, k11, k12, k13⟩
  · simp only [r1, s1, bd_s, vc, cl, cond_true, nk_le k1 k2, nk_eq k1 k2, i00, if_true, if_false, j198_k k1 k2]
    exact Or.inl (CLF_of k1 k2 k3 k4 k5 k6 k7 (GX_r F) (FM_t fm0 k8) (GM_u (by decide)))
  · have a6 : I1 6 = nI nl := (k12 6 (by decide) (by decide)).trans e6
    have a31 : J1 31 = nI nl := (k13 31 (by decide) (by decide) (by decide)).trans ((up_n (by decide)).trans e31)
    simp only [r1, s1, bd_s, vc, cl, cond_true, i00, i10, i0le, if_true, if_false, a6, a31, k10]
    have m1 : MS t p1 f J1 (va_up F' 52 (upd (F' 52) nc (nI x0))) := ⟨k4.1, k4.2.1, k4.2.2⟩
    rcases num_both (v1 := 1) (v := 1) (lo := 0) (hi := nI nl - 1) hT k2 rfl (by decide) k3 m1 with ⟨k, pl, I2, J2, r2, s2, l1, l2, l3, l4, l5, l6, l7, l8⟩ | ⟨x1, q1, p2, I2, J2, r2, s2, l1, l2, l3, l4, l5, l6, l7, l8, l9, l10, l11, l12, l13⟩
    · simp only [r2, s2, bd_s, vc, cl, cond_true, nk_le l1 l2, nk_eq l1 l2, i00, if_true, if_false, j198_k l1 l2]
      exact Or.inl (CLF_of l1 l2 l3 l4 l5 l6 (FX_t (NX_f k12) l7) (GX_u (by decide)) (FM_t fm0 (FM_t (NM_f k13) l8)) (GM_t (GM_u (by decide)) (GM_u (by decide))))
    · simp only [r2, s2, bd_s, vc, cl, cond_true, i00, i10, i0le, if_true, if_false, l10]
      have m2 : MS t p2 f J2 (va_up (va_up F' 52 (upd (F' 52) nc (nI x0))) 53 (upd ((va_up F' 52 (upd (F' 52) nc (nI x0))) 53) nc (nI x1))) := ⟨l4.1, l4.2.1, l4.2.2⟩
      rcases num_both (v1 := nI 2) (v := 2) (lo := 1) (hi := nI 50) hT l2 rfl (by decide) l3 m2 with ⟨k, pl, I3, J3, r3, s3, n1, n2, n3, n4, n5, n6, n7, n8⟩ | ⟨x2, q2, p3, I3, J3, r3, s3, n1, n2, n3, n4, n5, n6, n7, n8, n9, n10, n11, n12, n13⟩
      · simp only [r3, s3, bd_s, vc, cl, cond_true, nk_le n1 n2, nk_eq n1 n2, i00, if_true, if_false, j198_k n1 n2]
        exact Or.inl (CLF_of n1 n2 n3 n4 n5 n6 (FX_t (NX_f k12) (FX_t (NX_f l12) n7)) (GX_t (GX_u (by decide)) (GX_u (by decide))) (FM_t fm0 (FM_t (NM_f k13) (FM_t (NM_f l13) n8))) (GM_t (GM_u (by decide)) (GM_t (GM_u (by decide)) (GM_u (by decide)))))
      · simp only [r3, s3, bd_s, vc, cl, cond_true, i00, i10, i0le, if_true, if_false, n10]
        have m3 : MS t p3 f J3 (va_up (va_up (va_up F' 52 (upd (F' 52) nc (nI x0))) 53 (upd ((va_up F' 52 (upd (F' 52) nc (nI x0))) 53) nc (nI x1))) 54 (upd ((va_up (va_up F' 52 (upd (F' 52) nc (nI x0))) 53 (upd ((va_up F' 52 (upd (F' 52) nc (nI x0))) 53) nc (nI x1))) 54) nc (nI x2))) := ⟨n4.1, n4.2.1, n4.2.2⟩
        have X1 : NX I I3 := NX_t k12 (NX_t l12 n12)
        have M1 : NM (va_up I' 32 (nI (nc + 1))) J3 := NM_t k13 (NM_t l13 n13)
        rcases close_both hT n2 n3 m3 with ⟨k, pl, I4, J4, r4, s4, o1, o2, o3, o4, o5, o6, o7, o8⟩ | ⟨p4, I4, J4, r4, s4, o1, o2, o3, o4, o5, o6⟩
        · simp only [r4, s4, bd_s, i00, if_true]
          exact Or.inl ⟨k, pl, I4, _, J4, _, rfl, rfl, o1, o2, o3, o4, o5, o6, FX_t (NX_f X1) o7, GX_t (GX_u (by decide)) (GX_t (GX_u (by decide)) (GX_u (by decide))), FM_t fm0 (FM_t (NM_f M1) o8), GM_t (GM_u (by decide)) (GM_t (GM_u (by decide)) (GM_u (by decide)))⟩
        · have X2 : NX I I4 := NX_t X1 o5
          have M2 : NM (va_up I' 32 (nI (nc + 1))) J4 := NM_t M1 o6
          have a7 : I4 7 = nI nc := (X2 7 (by decide) (by decide)).trans e7
          simp only [r4, s4, bd_s, i00, i10, if_true, if_false]
          unfold f_X5_addContract
          rw [a7, if_neg (show ¬ nI 6 ≤ nI nc by rw [nle (by decide) (by omega)]; omega), vc, cond_true, cond_true, cond_true, lt_e, bd_s, cl, nI_1]
          refine Or.inr ⟨p4, nl, nc + 1, nr, _, _, J4, _, rfl, rfl, by omega, o2, ⟨o3.1, o3.2.1, o3.2.2⟩, o4, ?_, ?_, ?_, ?_, ?_, ?_, ?_, ?_⟩
          · refine ⟨⟨d1, by omega, d3, (up_n (by decide)).trans ((X2 6 (by decide) (by decide)).trans e6), (M2 31 (by decide) (by decide) (by decide)).trans ((up_n (by decide)).trans e31), up_s, (M2 32 (by decide) (by decide) (by decide)).trans up_s, (up_n (by decide)).trans ((X2 8 (by decide) (by decide)).trans e8), (M2 33 (by decide) (by decide) (by decide)).trans ((up_n (by decide)).trans e33)⟩, dL, ?_, dR⟩
            show PQ nl (nc + 1) (upd (F 4) nc (nI x0)) (upd (F 5) nc (nI x1)) (upd (F 6) nc (nI x2)) (upd (F' 52) nc (nI x0)) (upd (F' 53) nc (nI x1)) (upd (F' 54) nc (nI x2))
            intro c hcc
            by_cases z : c = nc
            · subst z
              rw [pk_us, pk_us, pk_us, pk_us, pk_us, pk_us]
              have y0 := (nI_leI (a := x0) (b := 99) (by omega) (by decide)).mp k6
              have y2 := (nI_leI (a := x2) (b := 50) (by omega) (by decide)).mp n6
              have y3 := (nI_leI (a := 1) (b := x2) (by decide) (by omega)).mp n5
              exact ⟨rfl, rfl, rfl, ⟨x0, y0, rfl⟩, ⟨x1, i_hi l7 hl (by omega) l6, rfl⟩, x2, y3, y2, rfl⟩
            · rw [pk_un z, pk_un z, pk_un z, pk_un z, pk_un z, pk_un z]
              exact dC c (by omega)
          · exact (up_n (by decide)).trans (X2 3 (by decide) (by decide))
          · exact (up_n (by decide)).trans (X2 4 (by decide) (by decide))
          · exact (M2 27 (by decide) (by decide) (by decide)).trans (up_n (by decide))
          · exact FX_t (NX_f X2) (FX_u (by decide))
          · exact GX_t (GX_u (by decide)) (GX_t (GX_u (by decide)) (GX_t (GX_u (by decide)) (GX_t (GX_u (by decide)) (GX_t (GX_u (by decide)) (GX_u (by decide))))))
          · exact FM_t fm0 (NM_f M2)
          · exact GM_t (GM_u (by decide)) (GM_t (GM_u (by decide)) (GM_u (by decide)))
