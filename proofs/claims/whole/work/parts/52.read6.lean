theorem cl_lift {t p : Nat} {f : Nat → Int32} {I Ia I' Ja : AI} {F F' : AF} {cls rf : AQ} (h : CLF Ia F Ja F' cls rf ∨ CLG t (p + 1) f Ia F Ja F' cls rf) (h1 : FX I Ia) (h2 : Ia 3 = I 3) (h3 : Ia 4 = I 4) (h4 : FM I' Ja) (h5 : Ja 27 = I' 27) :
    CLF I F I' F' (ab_bd cls (fun r I F => bif ab_bt r then some (r, I, F) else none)) rf ∨ CLG t p f I F I' F' (ab_bd cls (fun r I F => bif ab_bt r then some (r, I, F) else none)) rf := by
  have b0 : ab_bt 0 = true := rfl
  have b1 : ab_bt 1 = true := rfl
  rcases h with ⟨k, pl, I1, F1, J1, G1, r1, r2, r3, r4, r5, r6, r7, r8, r9, r10, r11, r12⟩ | ⟨p2, nl, nc, nr, I1, F1, J1, G1, r1, r2, r3, r4, r5, r6, r7, r8, r9, r10, r11, r12, r13, r14⟩
  · rw [r1, bd_s, b0, cond_true]
    exact Or.inl ⟨k, pl, I1, F1, J1, G1, rfl, r2, r3, r4, r5, r6, r7, r8, FX_t h1 r9, r10, FM_t h4 r11, r12⟩
  · rw [r1, bd_s, b1, cond_true]
    exact Or.inr ⟨p2, nl, nc, nr, I1, F1, J1, G1, rfl, r2, by omega, r4, r5, r6, r7, r8.trans h2, r9.trans h3, r10.trans h5, FX_t h1 r11, r12, FM_t h4 r13, r14⟩
theorem cl_bad {p k : Nat} {I I' J : AI} {F F' : AF} (hk : 1 ≤ k) (hk4 : k ≤ 4) (hp : p ≤ 250) (e1 : I 1 = nI p) (e28 : J 28 = nI p) (hJ : FM I' J) :
    CLF I F I' F' (ab_bd (f_X6_fail (nI k) (I 1) I F) (fun r I F => bif ab_bt r then some (r, I, F) else none)) (ab_bd (f_X10_fails (nI k) (J 28) J F') (fun r I F => some (r, I, F))) := by
  have b0 : ab_bt 0 = true := rfl
  unfold f_X6_fail f_X10_fails
  rw [bd_s, bd_s, b0, cond_true]
  exact ⟨k, p, _, F, _, F', rfl, rfl, hk, hk4, hp, (up_n (by decide)).trans up_s, up_s.trans e1, up_s.trans e28, FX_t (FX_u (by decide)) (FX_u (by decide)), GX_r F, FM_t hJ (FM_u (by decide)), GM_r F'⟩
theorem n_ne {a b : Nat} (h : ¬ a = b) (ha : a ≤ 255) (hb : b ≤ 255) : (nI a = nI b) = False := eq_false (fun q => h ((nI_eq (by omega) (by omega)).mp q))
theorem cl_both {t p nl nc nr : Nat} {f : Nat → Int32} {I : AI} {F : AF} {I' : AI} {F' : AF} (hT : RT t f) (hp : p < t) (hb : ¬ f p = nI 32) (h : CS t p f I F) (h' : MS t p f I' F') (hD : DR nl nc nr I F I' F') :
    CLF I F I' F' (f_X6_readClause I F) (f_X10_takeClause I' F') ∨ CLG t p f I F I' F' (f_X6_readClause I F) (f_X10_takeClause I' F') := by
  have ht := hT.1
  obtain ⟨J1, s1, s2, s3⟩ := M_here hT (Nat.le_of_lt hp) h'
  have ek : sk f (t - p) p = p := by
    rw [show t - p = (t - p - 1) + 1 by omega, sk, if_neg hb]
  rw [ek] at s1 s2
  obtain ⟨a, a1, a2⟩ := hT.2 p hp
  have ec : chr t f p = nI a := by rw [← a2]; exact if_pos hp
  obtain ⟨⟨d1, d2, d3, e6, e31, e7, e32, e8, e33⟩, dL, dC, dR⟩ := hD
  have fJ : FM I' J1 := fun b q => s3 b (by omega)
  have g31 : J1 31 = nI nl := (s3 31 (by decide)).trans e31
  have g32 : J1 32 = nI nc := (s3 32 (by decide)).trans e32
  have g33 : J1 33 = nI nr := (s3 33 (by decide)).trans e33
  have Ia5 : CS t (p + 1) f (va_up I 1 (I 1 + 1)) F := ⟨h.1, by rw [up_s, h.2.1, nI_1], h.2.2⟩
  have Ja5 : MS t (p + 1) f (va_up J1 28 (J1 28 + 1)) F' := ⟨s2.1, by rw [up_s, s2.2.1, nI_1], s2.2.2⟩
  have D5 : DR nl nc nr (va_up I 1 (I 1 + 1)) F (va_up J1 28 (J1 28 + 1)) F' := ⟨⟨d1, d2, d3, e6, g31, e7, g32, e8, g33⟩, dL, dC, dR⟩
  have lift := fun (cls rf : AQ) (q : CLF (va_up I 1 (I 1 + 1)) F (va_up J1 28 (J1 28 + 1)) F' cls rf ∨ CLG t (p + 1) f (va_up I 1 (I 1 + 1)) F (va_up J1 28 (J1 28 + 1)) F' cls rf) => cl_lift (I := I) (I' := I') q (FX_u (by decide)) rfl rfl (FM_t fJ (FM_u (by decide))) ((up_n (by decide)).trans (s3 27 (by decide)))
  have bad := fun (k : Nat) (k1 : 1 ≤ k) (k4 : k ≤ 4) => cl_bad (F := F) (F' := F') k1 k4 (show p ≤ 250 by omega) h.2.1 s2.2.1 fJ
  have bad1 := bad 1 (by decide) (by decide)
  rw [show nI 1 = 1 from rfl] at bad1
  have z6 : (nI nl ≤ 0) = (nl ≤ 0) := nle0 (by omega)
  have z31 : (nI nl = 0) = (nl = 0) := n0eq (by omega)
  have l6 : (nI nl < nI 6) = (nl < 6) := nlt (by omega) (by decide)
  have l7 : (nI nc < nI 6) = (nc < 6) := nlt (by omega) (by decide)
  have l8 : (nI nr < nI 8) = (nr < 8) := nlt (by omega) (by decide)
  have m6 : (nI nl = nI 6) = (nl = 6) := neq (by omega) (by decide)
  have m7 : (nI nc = nI 6) = (nc = 6) := neq (by omega) (by decide)
  have m8 : (nI nr = nI 8) = (nr = 8) := neq (by omega) (by decide)
  have i1m : ((-1 : Int32) < 0) = True := eq_true (by decide)
  have i20 : (nI 2 = 0) = False := eq_false (by decide)
  have i30 : (nI 3 = 0) = False := eq_false (by decide)
  have i21 : (nI 2 = 1) = False := eq_false (by decide)
  have i31 : (nI 3 = 1) = False := eq_false (by decide)
  have i32 : (nI 3 = nI 2) = False := eq_false (by decide)
  have i0l : ((0 : Int32) < 0) = False := eq_false (by decide)
  have i1l : ((1 : Int32) < 0) = False := eq_false (by decide)
  have i2l : (nI 2 < 0) = False := eq_false (by decide)
  have i3l : (nI 3 < 0) = False := eq_false (by decide)
  have i1e : ((1 : Int32) ≤ 0) = False := eq_false (by decide)
  have i2e : (nI 2 ≤ 0) = False := eq_false (by decide)
  have i3e : (nI 3 ≤ 0) = False := eq_false (by decide)
  unfold f_X6_readClause f_X10_takeClause
  rw [X_at hT (Nat.le_of_lt hp) h, bd_s, s1, bd_s, ec]
  unfold f_X6_mayStart f_X6_isOneTooMany f_X10_takeClause_j46 f_X10_takeClause_j72 f_X10_takeClause_j133 f_X10_takeClause_j134
  by_cases y1 : a = 108
  · subst y1
    have c1 : (nI 108 = nI 99) = False := n_ne (by decide) (by decide) (by decide)
    simp only [e6, e7, e8, g31, g32, g33, c1, i0l, i0le, i00, not_true_eq_false, if_false, if_true, bd_s, i10, not_false_eq_true, l6, m6]
    by_cases w : nl = 6
    · simp only [w, show (6 < 6) = False from eq_false (by decide), if_false, if_true, bd_s, i10, not_true_eq_false]
      exact Or.inl (bad 3 (by decide) (by decide))
    · have w' : nl < 6 := by omega
      simp only [w, w', if_false, if_true, bd_s, i00, not_false_eq_true, lt_e]
      exact lift _ _ (cl_limb hT hp Ia5 Ja5 D5 w')
  · have c1 := n_ne y1 a1 (show 108 ≤ 255 by decide)
    by_cases y0 : nl = 0
    · -- nothing but a limb may be first
      have z0 : (nl ≤ 0) = True := eq_true (by omega)
      have y0t : (nl = 0) = True := eq_true y0
      simp only [e6, e7, e8, g31, g32, g33, c1, z6, z0, z31, y0t, not_false_eq_true, not_true_eq_false, if_true, if_false, bd_s, i00, i1m, i1l, i2l, i3l, i1e, i2e, i3e, ite_self]
      exact Or.inl bad1
    · have z0 : (nl ≤ 0) = False := eq_false (by omega)
      have hl : 1 ≤ nl := by omega
      by_cases y2 : a = 99
      · subst y2
        simp only [e6, e7, e8, g31, g32, g33, c1, z6, z0, z31, y0, not_false_eq_true, not_true_eq_false, if_true, if_false, bd_s, i00, i10, i1l, i1e, l7, m7]
        by_cases w : nc = 6
        · simp only [w, show (6 < 6) = False from eq_false (by decide), if_false, if_true, bd_s, i10, not_true_eq_false]
          exact Or.inl (bad 3 (by decide) (by decide))
        · have w' : nc < 6 := by omega
          simp only [w, w', if_false, if_true, bd_s, i00, i10, not_false_eq_true, not_true_eq_false, lt_e]
          exact lift _ _ (cl_contract hT hp Ia5 Ja5 D5 hl w')
      · have c2 := n_ne y2 a1 (show 99 ≤ 255 by decide)
        by_cases y3 : a = 114
        · subst y3
          simp only [e6, e7, e8, g31, g32, g33, c1, c2, z6, z0, z31, y0, not_false_eq_true, not_true_eq_false, if_true, if_false, bd_s, i00, i10, i20, i21, i2l, i2e, l8, m8]
          by_cases w : nr = 8
          · simp only [w, show (8 < 8) = False from eq_false (by decide), if_false, if_true, bd_s, i10, not_true_eq_false]
            exact Or.inl (bad 3 (by decide) (by decide))
          · have w' : nr < 8 := by omega
            simp only [w, w', if_false, if_true, bd_s, i00, i20, i21, not_false_eq_true, not_true_eq_false, lt_e]
            exact lift _ _ (cl_rate hT hp Ia5 Ja5 D5 hl w')
        · have c3 := n_ne y3 a1 (show 114 ≤ 255 by decide)
          by_cases y4 : a = 104
          · subst y4
            simp only [e6, e7, e8, g31, g32, g33, c1, c2, c3, z6, z0, z31, y0, not_false_eq_true, not_true_eq_false, if_true, if_false, bd_s, i00, i10, i30, i31, i32, i3l, i3e, lt_e]
            exact lift _ _ (cl_heir hT hp Ia5 Ja5 D5 hl)
          · have c4 := n_ne y4 a1 (show 104 ≤ 255 by decide)
            simp only [e6, e7, e8, g31, g32, g33, c1, c2, c3, c4, z6, z0, not_false_eq_true, not_true_eq_false, if_true, if_false, bd_s, i00, i1m]
            exact Or.inl bad1
/-- the whole text -/
def TXF (I : AI) (F : AF) (I' : AI) (F' : AF) (If : AI) (Ff : AF) (J : AI) (G : AF) (k : Nat) : Prop := ∃ pl : Nat, 1 ≤ k ∧ k ≤ 4 ∧ pl ≤ 250 ∧ If 3 = nI k ∧ If 4 = nI pl ∧ J 27 = nI pl ∧ FX I If ∧ GX F Ff ∧ FM I' J ∧ GM F' G
def TXG (I : AI) (F : AF) (I' : AI) (F' : AF) (If : AI) (Ff : AF) (J : AI) (G : AF) : Prop := ∃ nl nc nr : Nat, DR nl nc nr If Ff J G ∧ If 3 = 0 ∧ If 4 = -1 ∧ J 27 = -1 ∧ FX I If ∧ GX F Ff ∧ FM I' J ∧ GM F' G
theorem text_l {t : Nat} {f : Nat → Int32} {ko' : Int32 → AI → AF → AQ} (hT : RT t f) :
    ∀ (d m p v2 n n' nl nc nr : Nat) (I : AI) (F : AF) (I' : AI) (F' : AF), m ≤ d → p + m = t → v2 + m ≤ 250 → m + 1 < n → m + 1 < n' → CS t p f I F → MS t p f I' F' → DR nl nc nr I F I' F' → I 3 = 0 → I 4 = -1 → I' 27 = -1 →
      ∃ (If : AI) (Ff : AF) (J : AI) (G : AF), f_X6_readText_26 (fun _ _ I F => some (0, I, F)) n 1 (nI v2) I F = some (0, If, Ff) ∧ ((∃ k, f_X10_port_27 ko' n' 0 I' F' = ko' (nI k) J G ∧ TXF I F I' F' If Ff J G k) ∨ (f_X10_port_27 ko' n' 0 I' F' = ko' 0 J G ∧ TXG I F I' F' If Ff J G)) := by
  have ht := hT.1
  intro d
  induction d with
  | zero =>
    intro m p v2 n n' nl nc nr I F I' F' h0 h1 h2 h3 h4 h5 h6 h7 h8 h9 h10
    have : m = 0 := by omega
    subst this
    match n, n', h3, h4 with
    | n + 2, n' + 1, _, _ =>
      obtain ⟨I1, r1, r2, r3⟩ := X_skip hT (by omega) h5
      obtain ⟨J1, s1, s2, s3⟩ := M_here hT (by omega) h6
      have kk := sk_le (f := f) (t - p) p
      have ec : chr t f (sk f (t - p) p) = -1 := if_neg (by omega)
      have M : f_X10_port_27 ko' (n' + 1) 0 I' F' = ko' 0 J1 F' := by
        rw [f_X10_port_27, if_neg (not_not_intro rfl), s1, bd_s, ec, if_pos (by decide)]
      obtain ⟨⟨d1, d2, d3, e6, e31, e7, e32, e8, e33⟩, dL, dC, dR⟩ := h7
      by_cases z : 250 ≤ v2
      · refine ⟨I, F, J1, F', ?_, Or.inr ⟨M, nl, nc, nr, ⟨⟨d1, d2, d3, e6, (s3 31 (by decide)).trans e31, e7, (s3 32 (by decide)).trans e32, e8, (s3 33 (by decide)).trans e33⟩, dL, dC, dR⟩, h8, h9, (s3 27 (by decide)).trans h10, fun _ _ => rfl, GX_r F, fun b q => s3 b (by omega), GM_r F'⟩⟩
        rw [f_X6_readText_26, if_pos ((nI_leI (by decide) (by omega)).mpr z)]
      · refine ⟨I1, F, J1, F', ?_, Or.inr ⟨M, nl, nc, nr, ⟨⟨d1, d2, d3, (r3 6 (by decide)).trans e6, (s3 31 (by decide)).trans e31, (r3 7 (by decide)).trans e7, (s3 32 (by decide)).trans e32, (r3 8 (by decide)).trans e8, (s3 33 (by decide)).trans e33⟩, dL, dC, dR⟩, (r3 3 (by decide)).trans h8, (r3 4 (by decide)).trans h9, (s3 27 (by decide)).trans h10, fun b q => r3 b (by omega), GX_r F, fun b q => s3 b (by omega), GM_r F'⟩⟩
        rw [f_X6_readText_26, if_neg (fun q => z ((nI_leI (by decide) (by omega)).mp q)), if_neg (show ¬ (1 : Int32) = 0 by decide), r1, bd_s, X_at hT (by omega) r2, bd_s, ec, if_pos rfl, f_X6_readText_26, if_pos rfl, ite_self]
  | succ d ih =>
    intro m p v2 n n' nl nc nr I F I' F' h0 h1 h2 h3 h4 h5 h6 h7 h8 h9 h10
    by_cases hm : m ≤ d
    · exact ih m p v2 n n' nl nc nr I F I' F' hm h1 h2 h3 h4 h5 h6 h7 h8 h9 h10
    · match n, n', h3, h4 with
      | n + 2, n' + 2, h3, h4 =>
        obtain ⟨I1, r1, r2, r3⟩ := X_skip hT (by omega) h5
        obtain ⟨J1, s1, s2, s3⟩ := M_here hT (by omega) h6
        have kk := sk_le (f := f) (t - p) p
        have ke := sk_end (f := f) (t - p) p
        generalize hq : sk f (t - p) p = p1 at *
        obtain ⟨⟨d1, d2, d3, e6, e31, e7, e32, e8, e33⟩, dL, dC, dR⟩ := h7
        have D1 : DR nl nc nr I1 F J1 F' := ⟨⟨d1, d2, d3, (r3 6 (by decide)).trans e6, (s3 31 (by decide)).trans e31, (r3 7 (by decide)).trans e7, (s3 32 (by decide)).trans e32, (r3 8 (by decide)).trans e8, (s3 33 (by decide)).trans e33⟩, dL, dC, dR⟩
        have fX : FX I I1 := fun b q => r3 b (by omega)
        have fM : FM I' J1 := fun b q => s3 b (by omega)
        have i3 : I1 3 = 0 := (r3 3 (by decide)).trans h8
        have i4 : I1 4 = -1 := (r3 4 (by decide)).trans h9
        have j27 : J1 27 = -1 := (s3 27 (by decide)).trans h10
        have X0 : ∀ q, f_X6_readText_26 (fun _ _ I F => some (0, I, F)) (n + 2) 1 (nI v2) I F = q ↔ (if chr t f p1 = -1 then f_X6_readText_26 (fun _ _ I F => some (0, I, F)) (n + 1) 0 (nI (v2 + 1)) I1 F else ab_bd (f_X6_readClause I1 F) (fun r333 I334 F335 => if r333 = 0 then f_X6_readText_26 (fun _ _ I F => some (0, I, F)) (n + 1) 0 (nI (v2 + 1)) I334 F335 else f_X6_readText_26 (fun _ _ I F => some (0, I, F)) (n + 1) 1 (nI (v2 + 1)) I334 F335)) = q := by
          intro q
          rw [f_X6_readText_26, if_neg (show ¬ nI 250 ≤ nI v2 by rw [nle (by decide) (by omega)]; omega), if_neg (show ¬ (1 : Int32) = 0 by decide), r1, bd_s, X_at hT (by omega) r2, bd_s, nI_1]
        have Y0 : ∀ (n : Nat) (v : Int32) (I : AI) (F : AF), f_X6_readText_26 (fun _ _ I F => some (0, I, F)) (n + 1) 0 v I F = some (0, I, F) := by
          intro n v I F
          rw [f_X6_readText_26, if_pos rfl, ite_self]
        have M0 : f_X10_port_27 ko' (n' + 2) 0 I' F' = (if chr t f p1 < 0 then ko' 0 J1 F' else ab_bd (f_X10_takeClause J1 F') (fun r1484 I1485 F1486 => f_X10_port_27 ko' (n' + 1) r1484 I1485 F1486)) := by
          rw [f_X10_port_27, if_neg (not_not_intro rfl), s1, bd_s]
        by_cases z : p1 < t
        · obtain ⟨a, a1, a2⟩ := hT.2 p1 z
          have ec : chr t f p1 = nI a := by rw [← a2]; exact if_pos z
          rw [M0, ec, if_neg (nI_pos (by omega))]
          rcases cl_both hT z (ke (by omega)) r2 s2 D1 with ⟨k, pl, I2, F2, J2, G2, l1, l2, l3, l4, l5, l6, l7, l8, l9, l10, l11, l12⟩ | ⟨p2, nl2, nc2, nr2, I2, F2, J2, G2, l1, l2, l3, l4, l5, l6, l7, l8, l9, l10, l11, l12, l13, l14⟩
          · refine ⟨I2, F2, J2, G2, ?_, Or.inl ⟨k, ?_, pl, l3, l4, l5, l6, l7, l8, FX_t fX l9, l10, FM_t fM l11, l12⟩⟩
            · rw [X0, ec, if_neg (by rw [nm1 (by omega)]; exact id), l1, bd_s, if_pos rfl, Y0]
            · rw [l2, bd_s, f_X10_port_27, if_pos (show ¬ nI k = 0 by rw [n0eq (by omega)]; omega)]
          · obtain ⟨If, Ff, J, G, o1, o2⟩ := ih (t - p2) p2 (v2 + 1) (n + 1) (n' + 1) nl2 nc2 nr2 I2 F2 J2 G2 (by omega) (by omega) (by omega) (by omega) (by omega) l5 l6 l7 (l8.trans i3) (l9.trans i4) (l10.trans j27)
            refine ⟨If, Ff, J, G, ?_, ?_⟩
            · rw [X0, ec, if_neg (by rw [nm1 (by omega)]; exact id), l1, bd_s, if_neg (show ¬ (1 : Int32) = 0 by decide)]
              exact o1
            · rw [l2, bd_s]
              rcases o2 with ⟨k, o2, pl, q1, q2, q3, q4, q5, q6, q7, q8, q9, q10⟩ | ⟨o2, nl3, nc3, nr3, q1, q2, q3, q4, q7, q8, q9, q10⟩
              · exact Or.inl ⟨k, o2, pl, q1, q2, q3, q4, q5, q6, FX_t fX (FX_t l11 q7), GX_t l12 q8, FM_t fM (FM_t l13 q9), GM_t l14 q10⟩
              · exact Or.inr ⟨o2, nl3, nc3, nr3, q1, q2, q3, q4, FX_t fX (FX_t l11 q7), GX_t l12 q8, FM_t fM (FM_t l13 q9), GM_t l14 q10⟩
        · have ec : chr t f p1 = -1 := if_neg z
          refine ⟨I1, F, J1, F', ?_, Or.inr ⟨?_, nl, nc, nr, D1, i3, i4, j27, fX, GX_r F, fM, GM_r F'⟩⟩
          · rw [X0, ec, if_pos rfl, Y0]
          · rw [M0, ec, if_pos (by decide)]
