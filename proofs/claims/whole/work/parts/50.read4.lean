theorem cl_rate {t p nl nc nr : Nat} {f : Nat → Int32} {I : AI} {F : AF} {I' : AI} {F' : AF} (hT : RT t f) (hp : p ≤ t) (h : CS t p f I F) (h' : MS t p f I' F') (hD : DR nl nc nr I F I' F') (hl : 1 ≤ nl) (hc : nr < 8) :
    CLF I F I' F' (f_X6_readRate I F) (ab_bd (f_X10_takeRate I' F') (fun r I F => f_X10_takeClause_j198 r I F)) ∨ CLG t p f I F I' F' (f_X6_readRate I F) (ab_bd (f_X10_takeRate I' F') (fun r I F => f_X10_takeClause_j198 r I F)) := by
  obtain ⟨⟨d1, d2, d3, e6, e31, e7, e32, e8, e33⟩, dL, dC, dR⟩ := hD
  have vc : ab_vin (nI nr) 8 = true := vin_t hc (by decide)
  have cl : (nI nr).toNatClampNeg = nr := nI_clamp (by omega)
  unfold f_X6_readRate f_X10_takeRate f_X10_into f_X10_into_s1
  rw [lt_e, e33, nI_1]
  have m0 : MS t p f (va_up I' 33 (nI (nr + 1))) F' := ⟨h'.1, h'.2.1, h'.2.2⟩
  have fm0 : FM I' (va_up I' 33 (nI (nr + 1))) := FM_u (by decide)
  rw [e6, e31]
  have j86k : ∀ {k : Nat} {J : AI} {G : AF}, 1 ≤ k → k ≤ 4 → f_X10_takeRate_j86 (nI nr) (nI k) J G = some (nI k, J, G) := by
    intro k J G q1 q2
    unfold f_X10_takeRate_j86
    simp only [nk_le q1 q2, if_false]
  have j56k : ∀ {k : Nat} {J : AI} {G : AF}, 1 ≤ k → k ≤ 4 → f_X10_takeRate_j56 (nI nr) (nI k) J G = some (nI k, J, G) := by
    intro k J G q1 q2
    unfold f_X10_takeRate_j56
    simp only [nk_eq q1 q2, not_false_eq_true, if_true, j86k q1 q2]
  rcases num_both (v1 := 0) (v := 0) (lo := 0) (hi := nI nl - 1) hT hp rfl (by decide) h m0 with ⟨k, pl, I1, J1, r1, s1, k1, k2, k3, k4, k5, k6, k7, k8⟩ | ⟨x0, q0, p1, I1, J1, r1, s1, k1, k2, k3, k4, k5, k6, k7, k8, k9, k10, k11, k12, k13⟩
  · simp only [r1, s1, bd_s, vc, cl, cond_true, nk_le k1 k2, nk_eq k1 k2, i00, if_true, if_false, j56k k1 k2, j198_k k1 k2]
    exact Or.inl (CLF_of k1 k2 k3 k4 k5 k6 k7 (GX_r F) (FM_t fm0 k8) (GM_u (by decide)))
  · have a6 : I1 6 = nI nl := (k12 6 (by decide) (by decide)).trans e6
    have a31 : J1 31 = nI nl := (k13 31 (by decide) (by decide) (by decide)).trans ((up_n (by decide)).trans e31)
    simp only [r1, s1, bd_s, vc, cl, cond_true, i00, i10, i0le, if_true, if_false, a6, a31, k10]
    have m1 : MS t p1 f J1 (va_up F' 55 (upd (F' 55) nr (nI x0))) := ⟨k4.1, k4.2.1, k4.2.2⟩
    rcases num_both (v1 := 1) (v := 1) (lo := 0) (hi := nI nl - 1) hT k2 rfl (by decide) k3 m1 with ⟨k, pl, I2, J2, r2, s2, l1, l2, l3, l4, l5, l6, l7, l8⟩ | ⟨x1, q1, p2, I2, J2, r2, s2, l1, l2, l3, l4, l5, l6, l7, l8, l9, l10, l11, l12, l13⟩
    · simp only [r2, s2, bd_s, vc, cl, cond_true, nk_le l1 l2, nk_eq l1 l2, i00, if_true, if_false, j56k l1 l2, j198_k l1 l2]
      exact Or.inl (CLF_of l1 l2 l3 l4 l5 l6 (FX_t (NX_f k12) l7) (GX_u (by decide)) (FM_t fm0 (FM_t (NM_f k13) l8)) (GM_t (GM_u (by decide)) (GM_u (by decide))))
    · simp only [r2, s2, bd_s, vc, cl, cond_true, i00, i10, i0le, if_true, if_false, l10]
      have X1 : NX I I2 := NX_t k12 l12
      have M1 : NM (va_up I' 33 (nI (nr + 1))) J2 := NM_t k13 l13
      have u0 : x0 < nl := i_hi k7 hl (by omega) k6
      have u1 : x1 < nl := i_hi l7 hl (by omega) l6
      have w1 : ∀ (g : Nat → Int32), (va_up (va_up F 11 (upd (F 11) 0 (nI x0))) 11 (upd ((va_up F 11 (upd (F 11) 0 (nI x0))) 11) 1 (nI x1))) 11 0 = nI x0 := fun _ => rfl
      have w2 : (va_up (va_up F 11 (upd (F 11) 0 (nI x0))) 11 (upd ((va_up F 11 (upd (F 11) 0 (nI x0))) 11) 1 (nI x1))) 11 1 = nI x1 := rfl
      have w3 : (va_up (va_up F' 55 (upd (F' 55) nr (nI x0))) 56 (upd ((va_up F' 55 (upd (F' 55) nr (nI x0))) 56) nr (nI x1))) 55 nr = nI x0 := pk_us
      have w4 : (va_up (va_up F' 55 (upd (F' 55) nr (nI x0))) 56 (upd ((va_up F' 55 (upd (F' 55) nr (nI x0))) 56) nr (nI x1))) 56 nr = nI x1 := pk_us
      unfold f_X6_isUnlike f_X10_takeRate_j56
      simp only [w1 (F 11), w2, w3, w4, vc, cl, cond_true, i00, not_true_eq_false, if_false]
      by_cases y : x0 = x1
      · subst y
        unfold f_X6_fail f_X10_fails
        simp only [not_true_eq_false, if_false, bd_s, i00, if_true]
        rw [j198_k (by decide) (by decide)]
        refine Or.inl (CLF_of (pl := q1) (by decide) (by decide) l8 rfl (up_s.trans l9) (up_s.trans l11) ?_ (GX_t (GX_u (by decide)) (GX_u (by decide))) ?_ (GM_t (GM_u (by decide)) (GM_u (by decide))))
        · exact FX_t (NX_f X1) (FX_t (FX_u (by decide)) (FX_u (by decide)))
        · exact FM_t fm0 (FM_t (NM_f M1) (FM_u (by decide)))
      · have y' : (nI x0 = nI x1) = False := eq_false (fun q => y ((nI_eq (by omega) (by omega)).mp q))
        unfold f_X10_takeRate_j86 f_X10_into_s2 f_X10_into_s3
        simp only [y', not_false_eq_true, if_true, bd_s, i00, i0le, i10, if_false]
        have m2 : MS t p2 f J2 (va_up (va_up F' 55 (upd (F' 55) nr (nI x0))) 56 (upd ((va_up F' 55 (upd (F' 55) nr (nI x0))) 56) nr (nI x1))) := ⟨l4.1, l4.2.1, l4.2.2⟩
        rcases num_both (v1 := nI 2) (v := 2) (lo := 1) (hi := nI 20) hT l2 rfl (by decide) l3 m2 with ⟨k, pl, I3, J3, r3, s3, n1, n2, n3, n4, n5, n6, n7, n8⟩ | ⟨x2, q2, p3, I3, J3, r3, s3, n1, n2, n3, n4, n5, n6, n7, n8, n9, n10, n11, n12, n13⟩
        · simp only [r3, s3, bd_s, vc, cl, cond_true, nk_le n1 n2, nk_eq n1 n2, i00, if_true, if_false, j198_k n1 n2]
          exact Or.inl (CLF_of n1 n2 n3 n4 n5 n6 (FX_t (NX_f X1) n7) (GX_t (GX_u (by decide)) (GX_u (by decide))) (FM_t fm0 (FM_t (NM_f M1) n8)) (GM_t (GM_u (by decide)) (GM_t (GM_u (by decide)) (GM_u (by decide)))))
        · simp only [r3, s3, bd_s, vc, cl, cond_true, i00, i10, i0le, if_true, if_false, n10]
          have m3 : MS t p3 f J3 (va_up (va_up (va_up F' 55 (upd (F' 55) nr (nI x0))) 56 (upd ((va_up F' 55 (upd (F' 55) nr (nI x0))) 56) nr (nI x1))) 57 (upd ((va_up (va_up F' 55 (upd (F' 55) nr (nI x0))) 56 (upd ((va_up F' 55 (upd (F' 55) nr (nI x0))) 56) nr (nI x1))) 57) nr (nI x2))) := ⟨n4.1, n4.2.1, n4.2.2⟩
          rcases num_both (v1 := nI 3) (v := 3) (lo := 1) (hi := nI 20) hT n2 rfl (by decide) n3 m3 with ⟨k, pl, I4, J4, r4, s4, b1, b2, b3, b4, b5, b6, b7, b8⟩ | ⟨x3, q3, p4, I4, J4, r4, s4, b1, b2, b3, b4, b5, b6, b7, b8, b9, b10, b11, b12, b13⟩
          · simp only [r4, s4, bd_s, vc, cl, cond_true, nk_le b1 b2, nk_eq b1 b2, i00, if_true, if_false, j198_k b1 b2]
            exact Or.inl (CLF_of b1 b2 b3 b4 b5 b6 (FX_t (NX_f X1) (FX_t (NX_f n12) b7)) (GX_t (GX_u (by decide)) (GX_t (GX_u (by decide)) (GX_u (by decide)))) (FM_t fm0 (FM_t (NM_f M1) (FM_t (NM_f n13) b8))) (GM_t (GM_u (by decide)) (GM_t (GM_u (by decide)) (GM_t (GM_u (by decide)) (GM_u (by decide))))))
          · simp only [r4, s4, bd_s, vc, cl, cond_true, i00, i10, i0le, if_true, if_false, b10]
            have X2 : NX I I4 := NX_t X1 (NX_t n12 b12)
            have M2 : NM (va_up I' 33 (nI (nr + 1))) J4 := NM_t M1 (NM_t n13 b13)
            have m4 : MS t p4 f J4 (va_up (va_up (va_up (va_up F' 55 (upd (F' 55) nr (nI x0))) 56 (upd ((va_up F' 55 (upd (F' 55) nr (nI x0))) 56) nr (nI x1))) 57 (upd ((va_up (va_up F' 55 (upd (F' 55) nr (nI x0))) 56 (upd ((va_up F' 55 (upd (F' 55) nr (nI x0))) 56) nr (nI x1))) 57) nr (nI x2))) 58 (upd ((va_up (va_up (va_up F' 55 (upd (F' 55) nr (nI x0))) 56 (upd ((va_up F' 55 (upd (F' 55) nr (nI x0))) 56) nr (nI x1))) 57 (upd ((va_up (va_up F' 55 (upd (F' 55) nr (nI x0))) 56 (upd ((va_up F' 55 (upd (F' 55) nr (nI x0))) 56) nr (nI x1))) 57) nr (nI x2))) 58) nr (nI x3))) := ⟨b4.1, b4.2.1, b4.2.2⟩
            rcases close_both hT b2 b3 m4 with ⟨k, pl, I5, J5, r5, s5, o1, o2, o3, o4, o5, o6, o7, o8⟩ | ⟨p5, I5, J5, r5, s5, o1, o2, o3, o4, o5, o6⟩
            · simp only [r5, s5, bd_s, i00, if_true]
              exact Or.inl ⟨k, pl, I5, _, J5, _, rfl, rfl, o1, o2, o3, o4, o5, o6, FX_t (NX_f X2) o7, GX_t (GX_u (by decide)) (GX_t (GX_u (by decide)) (GX_t (GX_u (by decide)) (GX_u (by decide)))), FM_t fm0 (FM_t (NM_f M2) o8), GM_t (GM_u (by decide)) (GM_t (GM_u (by decide)) (GM_t (GM_u (by decide)) (GM_u (by decide))))⟩
            · have X3 : NX I I5 := NX_t X2 o5
              have M3 : NM (va_up I' 33 (nI (nr + 1))) J5 := NM_t M2 o6
              have a8 : I5 8 = nI nr := (X3 8 (by decide) (by decide)).trans e8
              simp only [r5, s5, bd_s, i00, i10, if_true, if_false]
              unfold f_X5_addRate
              rw [a8, if_neg (show ¬ nI 8 ≤ nI nr by rw [nle (by decide) (by omega)]; omega), vc, cond_true, cond_true, cond_true, lt_e, cond_true, bd_s, cl, nI_1]
              refine Or.inr ⟨p5, nl, nc, nr + 1, _, _, J5, _, rfl, rfl, by omega, o2, ⟨o3.1, o3.2.1, o3.2.2⟩, o4, ?_, ?_, ?_, ?_, ?_, ?_, ?_, ?_⟩
              · refine ⟨⟨d1, d2, by omega, (up_n (by decide)).trans ((X3 6 (by decide) (by decide)).trans e6), (M3 31 (by decide) (by decide) (by decide)).trans ((up_n (by decide)).trans e31), (up_n (by decide)).trans ((X3 7 (by decide) (by decide)).trans e7), (M3 32 (by decide) (by decide) (by decide)).trans ((up_n (by decide)).trans e32), up_s, (M3 33 (by decide) (by decide) (by decide)).trans up_s⟩, dL, dC, ?_⟩
                show PV nl (nr + 1) (upd (F 7) nr (nI x0)) (upd (F 8) nr (nI x1)) (upd (F 9) nr (nI x2)) (upd (F 10) nr (nI x3)) (upd (F' 55) nr (nI x0)) (upd (F' 56) nr (nI x1)) (upd (F' 57) nr (nI x2)) (upd (F' 58) nr (nI x3))
                intro c hcc
                by_cases z : c = nr
                · subst z
                  rw [pk_us, pk_us, pk_us, pk_us, pk_us, pk_us, pk_us, pk_us]
                  have y2 := (nI_leI (a := x2) (b := 20) (by omega) (by decide)).mp n6
                  have y3 := (nI_leI (a := 1) (b := x2) (by decide) (by omega)).mp n5
                  have y4 := (nI_leI (a := x3) (b := 20) (by omega) (by decide)).mp b6
                  have y5 := (nI_leI (a := 1) (b := x3) (by decide) (by omega)).mp b5
                  exact ⟨rfl, rfl, rfl, rfl, ⟨x0, u0, rfl⟩, ⟨x1, u1, rfl⟩, ⟨x2, y3, y2, rfl⟩, ⟨x3, y5, y4, rfl⟩, fun q => y ((nI_eq (by omega) (by omega)).mp q)⟩
                · rw [pk_un z, pk_un z, pk_un z, pk_un z, pk_un z, pk_un z, pk_un z, pk_un z]
                  exact dR c (by omega)
              · exact (up_n (by decide)).trans (X3 3 (by decide) (by decide))
              · exact (up_n (by decide)).trans (X3 4 (by decide) (by decide))
              · exact (M3 27 (by decide) (by decide) (by decide)).trans (up_n (by decide))
              · exact FX_t (NX_f X3) (FX_u (by decide))
              · refine fun b q => ?_
                rw [up_n (by omega), up_n (by omega), up_n (by omega), up_n (by omega), up_n (by omega), up_n (by omega), up_n (by omega), up_n (by omega)]
              · exact FM_t fm0 (NM_f M3)
              · exact GM_t (GM_u (by decide)) (GM_t (GM_u (by decide)) (GM_t (GM_u (by decide)) (GM_u (by decide))))
