/-- what the class's search from a row's beginning p of d figures answers -/
def rg_out (R : Nat) (fr tt gv gt : Nat → Nat) (m d k p : Nat) (g : Nat → Int32) (I : AI) (F : AF) (q : AQ) : Prop :=
  (∃ g', q = some (0, I, va_up F 34 g') ∧ (∀ j, j < d → g' j = g j) ∧ ∀ x, x / 8 ^ k = p → ¬ rg_good R fr tt gv gt m x) ∨
  ∃ g' x, q = some (1, I, va_up F 34 g') ∧ x / 8 ^ k = p ∧ rg_good R fr tt gv gt m x ∧ (∀ y, y < x → y / 8 ^ k = p → ¬ rg_good R fr tt gv gt m y) ∧ ∀ j, j < m → g' j = nI (rg_dg m x j)
theorem rg_loop {R m d k p n : Nat} {fr tt gv gt : Nat → Nat} {I : AI} {F : AF} (hV : RV R fr tt gv gt (F 18) (F 19) (F 20) (F 21)) (e20 : I 20 = nI m) (e11 : I 11 = nI R) (hm : d + (k + 1) = m) (hm4 : m ≤ 4) (hok : rg_ok R fr tt (rg_dg d p) d)
    (rc : 0 < k → ∀ p' g', (∀ j, j < d + 1 → g' j = nI (rg_dg (d + 1) p' j)) → rg_ok R fr tt (rg_dg (d + 1) p') (d + 1) → rg_out R fr tt gv gt m (d + 1) k p' g' I F (f_X7_extend_n n (nI (d + 1)) (nI (rg_mk fr (rg_dg (d + 1) p') (d + 1))) (nI (rg_pr gv (rg_dg (d + 1) p') (d + 1))) (nI (rg_pr gt (rg_dg (d + 1) p') (d + 1))) I (va_up F 34 g'))) :
    ∀ (t c fu : Nat) (g : Nat → Int32), c + t = R → t < fu → (∀ j, j < d → g j = nI (rg_dg d p j)) → (∀ x, x / 8 ^ (k + 1) = p → x / 8 ^ k < p * 8 + c → ¬ rg_good R fr tt gv gt m x) →
      rg_out R fr tt gv gt m d (k + 1) p g I F (f_X7_extend_10 (f_X7_extend_n n) (nI d) (nI (rg_mk fr (rg_dg d p) d)) (nI (rg_pr gv (rg_dg d p) d)) (nI (rg_pr gt (rg_dg d p) d)) (fun _ I F => some (0, I, F)) fu (nI c) I (va_up F 34 g)) := by
  obtain ⟨hR, hV⟩ := hV
  have hdd : ∀ x, x / 8 ^ (k + 1) = x / 8 ^ k / 8 := fun x => by rw [Nat.pow_succ, Nat.div_div_eq_div_mul]
  have hsl : ∀ j, j < d → rg_dg d p j < R := fun j q => (rg_ok_get hok q).1
  have hmk : rg_mk fr (rg_dg d p) d < 2 ^ 31 := Nat.lt_trans (rg_mk_lt d (fun j q => (hV _ (hsl j q)).1.2)) (by decide)
  have hpv : rg_pr gv (rg_dg d p) d ≤ 160000 := rg_pr_b (by omega) (fun j q => (hV _ (hsl j q)).2.2.1.2.2)
  have hpt : rg_pr gt (rg_dg d p) d ≤ 160000 := rg_pr_b (by omega) (fun j q => (hV _ (hsl j q)).2.2.2.2.2)
  intro t
  induction t with
  | zero =>
    intro c fu g h1 h2 h3 h4
    match fu, h2 with
    | fu + 1, _ =>
      have : c = R := by omega
      subst this
      rw [f_X7_extend_10, e11, if_pos (Int32.le_refl _)]
      refine Or.inl ⟨g, rfl, fun j _ => rfl, ?_⟩
      intro x hx hg
      by_cases z : x / 8 ^ k < p * 8 + c
      · exact h4 x hx z hg
      · have h5 := rg_good_p (d := d + 1) (k := k) (by omega) hg
        have e : x / 8 ^ k = p * 8 + x / 8 ^ k % 8 := by
          rw [hdd] at hx
          omega
        have l8 : x / 8 ^ k % 8 < 8 := Nat.mod_lt _ (by decide)
        rw [e, rg_ok_s l8] at h5
        omega
  | succ t ih =>
    intro c fu g h1 h2 h3 h4
    match fu, h2 with
    | fu + 1, h2 =>
      have hc : c < R := by omega
      have hc8 : c < 8 := by omega
      obtain ⟨⟨a1, a2⟩, ⟨b1, b2⟩, ⟨c1, c2, c3⟩, ⟨d1, d2, d3⟩⟩ := hV c hc
      have v8 : ab_vin (nI c) 8 = true := vin_t hc8 (by decide)
      have cl : (nI c).toNatClampNeg = c := nI_clamp (by omega)
      have E18 : (va_up F 34 g) 18 = F 18 := up_n (by decide)
      have E19 : (va_up F 34 g) 19 = F 19 := up_n (by decide)
      have E34 : (va_up F 34 g) 34 = g := up_s
      -- going on when nothing lies under this figure
      have go : ∀ g', (∀ j, j < d → g' j = g j) → (∀ x, x / 8 ^ k = p * 8 + c → ¬ rg_good R fr tt gv gt m x) → rg_out R fr tt gv gt m d (k + 1) p g I F (f_X7_extend_10 (f_X7_extend_n n) (nI d) (nI (rg_mk fr (rg_dg d p) d)) (nI (rg_pr gv (rg_dg d p) d)) (nI (rg_pr gt (rg_dg d p) d)) (fun _ I F => some (0, I, F)) fu (nI c + 1) I (va_up F 34 g')) := by
        intro g' q1 q2
        rw [nI_1]
        have := ih (c + 1) fu g' (by omega) (by omega) (fun j q => (q1 j q).trans (h3 j q)) (by
          intro x hx hx2
          by_cases z : x / 8 ^ k < p * 8 + c
          · exact h4 x hx z
          · exact q2 x (by omega))
        rcases this with ⟨g2, r1, r2, r3⟩ | ⟨g2, x, r1, r2⟩
        · exact Or.inl ⟨g2, r1, fun j q => (r2 j q).trans (q1 j q), r3⟩
        · exact Or.inr ⟨g2, x, r1, r2⟩
      have nok : ¬ rg_ok R fr tt (rg_dg (d + 1) (p * 8 + c)) (d + 1) → ∀ x, x / 8 ^ k = p * 8 + c → ¬ rg_good R fr tt gv gt m x := by
        intro q x hx hg
        have h5 := rg_good_p (d := d + 1) (k := k) (by omega) hg
        rw [hx] at h5
        exact q h5
      -- the link holds
      have link : (d = 0 ∨ fr c = tt (rg_dg d p (d - 1))) → rg_out R fr tt gv gt m d (k + 1) p g I F (f_X7_extend_j50_10 (f_X7_extend_n n) (f_X7_extend_10 (f_X7_extend_n n) (nI d) (nI (rg_mk fr (rg_dg d p) d)) (nI (rg_pr gv (rg_dg d p) d)) (nI (rg_pr gt (rg_dg d p) d)) (fun _ I F => some (0, I, F)) fu) (fun _ I F => some (0, I, F)) (nI d) (nI (rg_mk fr (rg_dg d p) d)) (nI (rg_pr gv (rg_dg d p) d)) (nI (rg_pr gt (rg_dg d p) d)) (nI c) (nI (fr c)) I (va_up F 34 g)) := by
        intro hl
        rw [f_X7_extend_j50_10, f_X7_extend_j55_10, if_neg (show ¬ (1 : Int32) = 0 by decide), bit_n hmk (by omega)]
        cases hb : (rg_mk fr (rg_dg d p) d).testBit (fr c) with
        | true =>
          rw [if_pos rfl, if_pos (show ¬ (1 : Int32) = 0 by decide)]
          refine go g (fun j _ => rfl) (nok ?_)
          rw [rg_ok_s hc8]
          intro q
          rw [hb] at q
          exact Bool.false_ne_true q.2.2.2.symm
        | false =>
          have hok2 : rg_ok R fr tt (rg_dg (d + 1) (p * 8 + c)) (d + 1) := (rg_ok_s hc8).mpr ⟨hok, hc, hl, hb⟩
          have hg1 : ∀ j, j < d + 1 → upd g d (nI c) j = nI (rg_dg (d + 1) (p * 8 + c) j) := by
            intro j hj
            by_cases z : j = d
            · rw [z, pk_us, rg_dg_e hc8]
            · rw [pk_un z, rg_dg_s (by omega) hc8, h3 j (by omega)]
          have hk1 : rg_mk fr (rg_dg (d + 1) (p * 8 + c)) (d + 1) = rg_mk fr (rg_dg d p) d ||| 2 ^ fr c := by
            rw [rg_mk, rg_dg_e hc8, rg_mk_c (t := rg_dg d p) d (fun j q => rg_dg_s q hc8)]
          have hk2 : rg_pr gv (rg_dg (d + 1) (p * 8 + c)) (d + 1) = rg_pr gv (rg_dg d p) d * gv c := by
            rw [rg_pr, rg_dg_e hc8, rg_pr_c (t := rg_dg d p) d (fun j q => rg_dg_s q hc8)]
          have hk3 : rg_pr gt (rg_dg (d + 1) (p * 8 + c)) (d + 1) = rg_pr gt (rg_dg d p) d * gt c := by
            rw [rg_pr, rg_dg_e hc8, rg_pr_c (t := rg_dg d p) d (fun j q => rg_dg_s q hc8)]
          have v4 : ab_vin (nI d) 4 = true := vin_t (by omega) (by decide)
          have cd : (nI d).toNatClampNeg = d := nI_clamp (by omega)
          have E20 : (va_up F 34 g) 20 = F 20 := up_n (by decide)
          have E20' : ∀ f, (va_up F 34 f) 20 = F 20 := fun f => up_n (by decide)
          have E21' : ∀ f, (va_up F 34 f) 21 = F 21 := fun f => up_n (by decide)
          have E18' : ∀ f, (va_up F 34 f) 18 = F 18 := fun f => up_n (by decide)
          have E19' : ∀ f, (va_up F 34 f) 19 = F 19 := fun f => up_n (by decide)
          have E34' : ∀ f, (va_up F 34 f) 34 = f := fun f => up_s
          rw [if_neg Bool.false_ne_true, if_neg (show ¬ ¬ (0 : Int32) = 0 by decide), v4, cond_true, v8, cond_true, lt_e, E20, cl, c1, pk_mul, lt_e, cond_true, cd, E34, up_uu, E21', d1, pk_mul, lt_e, nI_1, e20, sl_k (fr c) (by omega), n_or, ← hk1, ← hk2, ← hk3]
          by_cases z : d + 1 = m
          · have k0 : k = 0 := by omega
            subst k0
            have l0 : rg_dg (d + 1) (p * 8 + c) 0 < R := (rg_ok_get hok2 (Nat.succ_pos d)).1
            have hpv2 : rg_pr gv (rg_dg (d + 1) (p * 8 + c)) (d + 1) ≤ 160000 := rg_pr_b (by omega) (fun j q => (hV _ (rg_ok_get hok2 q).1).2.2.1.2.2)
            have hpt2 : rg_pr gt (rg_dg (d + 1) (p * 8 + c)) (d + 1) ≤ 160000 := rg_pr_b (by omega) (fun j q => (hV _ (rg_ok_get hok2 q).1).2.2.2.2.2)
            have hgd : ∀ x, x / 8 ^ 0 = p * 8 + c → (rg_good R fr tt gv gt m x ↔ (tt c = fr (rg_dg (d + 1) (p * 8 + c) 0)) ∧ rg_pr gv (rg_dg (d + 1) (p * 8 + c)) (d + 1) < rg_pr gt (rg_dg (d + 1) (p * 8 + c)) (d + 1)) := by
              intro x hx
              rw [Nat.pow_zero, Nat.div_one] at hx
              rw [hx, rg_good, ← z, Nat.add_sub_cancel, rg_dg_e hc8]
              exact ⟨fun q => ⟨q.1.2, q.2⟩, fun q => ⟨⟨hok2, q.1⟩, q.2⟩⟩
            rw [if_neg (not_not_intro (by rw [z])), E34', hg1 0 (Nat.succ_pos d), vin_t (show rg_dg (d + 1) (p * 8 + c) 0 < 8 by omega) (by decide), cond_true, cond_true, E19', E18', b1, nI_clamp (show rg_dg (d + 1) (p * 8 + c) 0 < 2 ^ 31 by omega), (hV _ l0).1.1]
            have gg : ∀ j, j < d → upd g d (nI c) j = g j := fun j q => pk_un (by omega)
            by_cases y1 : tt c = fr (rg_dg (d + 1) (p * 8 + c) 0)
            · rw [if_neg (not_not_intro (by rw [y1]))]
              by_cases y2 : rg_pr gt (rg_dg (d + 1) (p * 8 + c)) (d + 1) ≤ rg_pr gv (rg_dg (d + 1) (p * 8 + c)) (d + 1)
              · rw [if_pos ((nI_leI (by omega) (by omega)).mpr y2), if_pos rfl]
                refine go _ gg ?_
                intro x hx hg
                have := (hgd x hx).mp hg
                omega
              · rw [if_neg (fun q => y2 ((nI_leI (by omega) (by omega)).mp q)), if_neg (show ¬ (1 : Int32) = 0 by decide)]
                refine Or.inr ⟨_, p * 8 + c, rfl, by rw [hdd, Nat.pow_zero, Nat.div_one]; omega, (hgd _ (by rw [Nat.pow_zero, Nat.div_one])).mpr ⟨y1, by omega⟩, ?_, ?_⟩
                · intro y hy hy2
                  exact h4 y hy2 (by rw [Nat.pow_zero, Nat.div_one]; exact hy)
                · rw [← z]
                  exact hg1
            · rw [if_pos (fun q => y1 ((nI_eq (by omega) (by have := (hV _ l0).1.2; omega)).mp q)), if_pos rfl]
              refine go _ gg ?_
              intro x hx hg
              exact y1 ((hgd x hx).mp hg).1
          · rw [if_pos (fun q => z ((nI_eq (by omega) (by omega)).mp q))]
            rcases rc (by omega) (p * 8 + c) (upd g d (nI c)) hg1 hok2 with ⟨g2, r1, r2, r3⟩ | ⟨g2, x, r1, r2, r3, r4, r5⟩
            · rw [r1, bd_s, if_pos rfl]
              exact go g2 (fun j q => (r2 j (by omega)).trans (pk_un (by omega))) r3
            · rw [r1, bd_s, if_neg (show ¬ (1 : Int32) = 0 by decide)]
              refine Or.inr ⟨g2, x, rfl, by rw [hdd, r2]; omega, r3, ?_, r5⟩
              intro y hy hy2
              by_cases w : y / 8 ^ k < p * 8 + c
              · exact h4 y hy2 w
              · refine r4 y hy ?_
                have : y / 8 ^ k ≤ x / 8 ^ k := Nat.div_le_div_right (by omega)
                omega
      rw [f_X7_extend_10, e11, if_neg (show ¬ nI R ≤ nI c by rw [nle (by omega) (by omega)]; omega), v8, cond_true, E18, cl, a1]
      by_cases z : d = 0
      · subst z
        rw [if_pos nI_0]
        exact link (Or.inl rfl)
      · have l0 := hsl (d - 1) (by omega)
        rw [if_neg (show ¬ nI d = 0 by rw [n0eq (by omega)]; exact z), show nI d - 1 = nI (d - 1) from pk_sub (b := 1) (by omega), vin_t (show d - 1 < 4 by omega) (by decide), cond_true, E34, nI_clamp (show d - 1 < 2 ^ 31 by omega), h3 (d - 1) (by omega), vin_t (show rg_dg d p (d - 1) < 8 by omega) (by decide), cond_true, E19, nI_clamp (show rg_dg d p (d - 1) < 2 ^ 31 by omega), (hV _ l0).2.1.1]
        by_cases y : fr c = tt (rg_dg d p (d - 1))
        · rw [if_neg (not_not_intro (by rw [y]))]
          exact link (Or.inr y)
        · rw [if_pos (fun q => y ((nI_eq (by omega) (by have := (hV _ l0).2.1.2; omega)).mp q)), f_X7_extend_j55_10, if_pos rfl]
          refine go g (fun j _ => rfl) (nok ?_)
          rw [rg_ok_s hc8]
          intro q
          rcases q.2.2.1 with q | q
          · exact z q
          · exact y q
theorem rg_ext {R m : Nat} {fr tt gv gt : Nat → Nat} {I : AI} {F : AF} (hV : RV R fr tt gv gt (F 18) (F 19) (F 20) (F 21)) (e20 : I 20 = nI m) (e11 : I 11 = nI R) (hm4 : m ≤ 4) :
    ∀ (k n d p : Nat) (g : Nat → Int32), d + (k + 1) = m → k < n → (∀ j, j < d → g j = nI (rg_dg d p j)) → rg_ok R fr tt (rg_dg d p) d →
      rg_out R fr tt gv gt m d (k + 1) p g I F (f_X7_extend_n n (nI d) (nI (rg_mk fr (rg_dg d p) d)) (nI (rg_pr gv (rg_dg d p) d)) (nI (rg_pr gt (rg_dg d p) d)) I (va_up F 34 g)) := by
  intro k
  induction k with
  | zero =>
    intro n d p g h1 h2 h3 h4
    match n, h2 with
    | n + 1, _ =>
      rw [f_X7_extend_n, f_X7_extend_b, if_pos (show nI d < nI 4 by rw [nlt (by omega) (by decide)]; omega), ← nI_0]
      exact rg_loop hV e20 e11 h1 hm4 h4 (fun q => absurd q (Nat.lt_irrefl 0)) R 0 ab_fu g (by omega) (Nat.lt_of_le_of_lt hV.1 (by decide)) h3 (fun x q1 q2 => by
        rw [Nat.pow_succ, ← Nat.div_div_eq_div_mul] at q1
        omega)
  | succ k ih =>
    intro n d p g h1 h2 h3 h4
    match n, h2 with
    | n + 1, h2 =>
      rw [f_X7_extend_n, f_X7_extend_b, if_pos (show nI d < nI 4 by rw [nlt (by omega) (by decide)]; omega), ← nI_0]
      exact rg_loop hV e20 e11 h1 hm4 h4 (fun _ p' g' q1 q2 => ih n (d + 1) p' g' (by omega) (by omega) q1 q2) R 0 ab_fu g (by omega) (Nat.lt_of_le_of_lt hV.1 (by decide)) h3 (fun x q1 q2 => by
        rw [Nat.pow_succ, ← Nat.div_div_eq_div_mul] at q1
        omega)
