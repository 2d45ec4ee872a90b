/-! season, drift -/
theorem ref_ok {L s : Nat} {x : Int32} {I : AI} {F : AF} (hL : L ≤ 6) (e9 : I 9 = nI L) (es : F 22 19 = nI s) (hs : s ≤ 9040) : f_X9_refusalOfSeasons x I F = some ((if (1 : Int32) ≤ x ∧ x ≤ nI 40 then (if L = 0 then -1000000003 else if s ≤ 9000 then 0 else -1000000004) else -1000000002), I, F) := by
  unfold f_X9_refusalOfSeasons f_X8_seasons
  rw [e9, es]
  simp (disch := omega) only [bd_s, n0eq, nle]
  by_cases h : (1 : Int32) ≤ x ∧ x ≤ nI 40
  · rw [if_pos h, if_neg (Int32.not_lt.mpr h.1), if_pos h.2]
    by_cases h2 : L = 0
    · rw [if_pos h2, if_neg (not_not_intro h2)]
    · rw [if_neg h2, if_pos h2]
      by_cases h3 : s ≤ 9000
      · rw [if_pos h3, if_pos h3]
      · rw [if_neg h3, if_neg h3]
  · rw [if_neg h]
    by_cases q1 : x < 1
    · rw [if_pos q1]
    · rw [if_neg q1, if_neg (fun z => h ⟨Int32.not_lt.mp q1, z⟩)]
theorem mref_ok {L s : Nat} {x : Int32} {I : AI} {F : AF} (hL : L ≤ 6) (e22 : I 22 = nI L) (es : F 47 19 = nI s) (hs : s ≤ 9040) : f_X10_seasonsRefused x I F = some ((if (1 : Int32) ≤ x ∧ x ≤ nI 40 then (if L = 0 then -1000000003 else if s ≤ 9000 then 0 else -1000000004) else -1000000002), I, F) := by
  unfold f_X10_seasonsRefused
  rw [in_c (w2 := 1) (w4 := 40) (b := 1) (c := nI 40) rfl rfl]
  simp only [bd_s]
  rw [e22, es]
  simp (disch := omega) only [n0eq, nle]
  by_cases h : (1 : Int32) ≤ x ∧ x ≤ nI 40
  · rw [if_pos h, if_pos h, if_pos (show ¬ (1 : Int32) = 0 by decide)]
    by_cases h2 : L = 0
    · rw [if_pos h2, if_neg (not_not_intro h2)]
    · rw [if_neg h2, if_pos h2]
      by_cases h3 : s ≤ 9000
      · rw [if_pos h3, if_pos h3]
      · rw [if_neg h3, if_neg h3]
  · rw [if_neg h, if_neg h, if_neg (by decide)]
theorem season_l {L C p : Nat} {I J : AI} {F H : AF} {kx km : Int32 → AI → AF → AQ} (hL : L ≤ 6) (hC : C ≤ 6) (hp : p ≤ 40) (e10 : I 10 = nI C) (e23 : J 23 = nI C) (hP : PL L (F 13) (F 14) (H 38) (H 39)) (hQ : PQ L C (F 15) (F 16) (F 17) (H 40) (H 41) (H 42)) :
    ∀ (m i n n' s : Nat) (r w : Nat → Int32), i + m = p → m < n → m < n' → s + m ≤ 9040 → r 19 = nI s → SR L C (F 15) r w →
    ∃ r' w', f_X9_season_25 (nI p) kx n (nI i) I (va_up F 22 r) = kx (nI p) I (va_up F 22 r') ∧ f_X10_season_18 (nI p) km n' (nI i) J (va_up H 47 w) = km (nI p) J (va_up H 47 w') ∧ r' 19 = nI (s + m) ∧ r' 20 = r 20 ∧ SR L C (F 15) r' w' := by
  intro m
  induction m with
  | zero =>
    intro i n n' s r w h1 h2 h3 h4 hr hS
    match n, n', h2, h3 with
    | n + 1, n' + 1, _, _ =>
      rw [f_X9_season_25, f_X10_season_18]
      have : i = p := by omega
      subst this
      simp (disch := omega) only [nle, if_pos (Nat.le_refl i)]
      exact ⟨r, w, rfl, rfl, hr, rfl, hS⟩
  | succ m ih =>
    intro i n n' s r w h1 h2 h3 h4 hr hS
    match n, n', h2, h3 with
    | n + 1, n' + 1, h2, h3 =>
      obtain ⟨r1, w1, k1, k2, k3, k4, k5⟩ := pass_b (I := I) (J := J) hL hC e10 e23 hP hQ (show s ≤ 9039 by omega) hr hS
      obtain ⟨r', w', l1, l2, l3, l4, l5⟩ := ih (i + 1) n n' (s + 1) r1 w1 (by omega) (by omega) (by omega) (by omega) k3 k5
      rw [f_X9_season_25, f_X10_season_18]
      simp (disch := omega) only [nle, if_neg (show ¬ p ≤ i by omega), k1, k2, bd_s, nI_1]
      exact ⟨r', w', l1, l2, by rw [l3]; congr 1; omega, l4.trans k4, l5⟩
theorem sim_season (a : Int32) : ab_Sim Inv (f_X9_season a) (f_X10_season a) := by
  intro I F h
  have h0 := h
  obtain ⟨t, L, C, R, u, o, q, g, bb, hT, ⟨hL, hC, hR, e9, e10, e11, e22, e23, e24⟩, hPL, hQ, hV, hS, hD, hU, hM, hN⟩ := h
  obtain ⟨al, s, ha1, ea, ea2, hs1, es, es2⟩ := SR_a hS
  by_cases hok : ((1 : Int32) ≤ a ∧ a ≤ nI 40) ∧ ¬ L = 0 ∧ s ≤ 9000
  · obtain ⟨hr, hz, hs⟩ := hok
    obtain ⟨p, hp, rfl⟩ := nI_of2 (M := nI 40) (n := 40) rfl (Int32.not_lt.mpr (Int32.le_trans (show (0 : Int32) ≤ 1 by decide) hr.1)) hr.2
    obtain ⟨u', o', i12, i13, i34, f23, f59, r1, r2, hU'⟩ := rem_both hL hC hU hS
    have key := fun (H : AF) (J : AI) (e23' : J 23 = nI C) (hP' : PL L (F 13) (F 14) (H 38) (H 39)) (hQ' : PQ L C (F 15) (F 16) (F 17) (H 40) (H 41) (H 42)) => season_l (I := va_up (va_up I 12 i12) 13 i13) (J := J) (F := va_up F 23 f23) (H := H) (kx := fun v3_573 I574 F575 =>
          ab_bd (f_X8_seasons I574 F575) (fun r576 I577 F578 =>
            some (r576, I577, F578))) (km := fun v3_1714 I1715 F1716 =>
          some (((F1716 47) 19), I1715, F1716)) hL hC hp e10 e23' hP' hQ' p 0 ab_fu ab_fu s (F 22) (F 47) (by omega) (by unfold ab_fu; omega) (by unfold ab_fu; omega) (by omega) es hS
    obtain ⟨ra, -, ka, -, -, -, -⟩ := key F I e23 hPL hQ
    obtain ⟨rb, wb, kb1, kb2, kb3, kb4, kb5⟩ := key (va_up (va_up (va_up F 23 f23) 22 ra) 59 f59) (va_up (va_up (va_up I 12 i12) 13 i13) 34 i34) e23 hPL hQ
    have hab : va_up (va_up F 23 f23) 22 ra = va_up (va_up F 23 f23) 22 rb := by
      have := ka.symm.trans kb1
      simp only [f_X8_seasons, bd_s] at this
      exact congrArg (fun z => z.2.2) (Option.some.inj this)
    have e1 : f_X9_season (nI p) I F = some (nI (s + p), va_up (va_up I 12 i12) 13 i13, va_up (va_up F 23 f23) 22 rb) := by
      unfold f_X9_season
      rw [ref_ok hL e9 es hs1, if_pos hr, if_neg hz, if_pos hs, bd_s, if_pos rfl, r1, bd_s]
      rw [show va_up (va_up F 23 f23) 22 (F 22) = va_up F 23 f23 from up_id (va_up F 23 f23) 22, nI_0] at kb1
      rw [kb1]
      simp only [f_X8_seasons, bd_s, up_s]
      rw [kb3]
    have e2 := r2 (va_up (va_up I 12 i12) 13 i13) (va_up (va_up F 23 f23) 22 rb) rfl rfl rfl
    have e3 : f_X10_season (nI p) (va_up (va_up I 12 i12) 13 i13) (va_up (va_up F 23 f23) 22 rb) = some (nI (s + p), va_up (va_up (va_up I 12 i12) 13 i13) 34 i34, va_up (va_up (va_up (va_up F 23 f23) 22 rb) 59 f59) 47 wb) := by
      unfold f_X10_season
      rw [mref_ok hL (show va_up (va_up I 12 i12) 13 i13 22 = nI L from e22) (show va_up (va_up F 23 f23) 22 rb 47 19 = nI s from es2) hs1, if_pos hr, if_neg hz, if_pos hs, bd_s, if_pos rfl, e2, bd_s]
      rw [hab, show va_up (va_up (va_up (va_up F 23 f23) 22 rb) 59 f59) 47 (F 47) = va_up (va_up (va_up F 23 f23) 22 rb) 59 f59 from up_id (va_up (va_up (va_up F 23 f23) 22 rb) 59 f59) 47, nI_0] at kb2
      rw [kb2]
      simp only [up_s]
      rw [kb5.2.2.2.2.2.2.2.2.1, kb3]
    refine ⟨_, _, _, _, _, e1, e3, t, L, C, R, u', o', q, g, bb, hT, ⟨hL, hC, hR, e9, e10, e11, e22, e23, e24⟩, hPL, hQ, hV, kb5, ?_, hU', hM, hN⟩
    refine ⟨?_, ?_⟩
    · show I 25 = rb 20
      rw [kb4]; exact hD.1
    · show ∃ a, a < 2 ^ 31 ∧ rb 20 = nI a
      rw [kb4]; exact hD.2
  · have hne : ∃ x : Int32, (if (1 : Int32) ≤ a ∧ a ≤ nI 40 then (if L = 0 then (-1000000003 : Int32) else if s ≤ 9000 then 0 else -1000000004) else -1000000002) = x ∧ ¬ x = 0 := by
      refine ⟨_, rfl, ?_⟩
      by_cases z1 : (1 : Int32) ≤ a ∧ a ≤ nI 40
      · rw [if_pos z1]
        by_cases z2 : L = 0
        · rw [if_pos z2]; decide
        · rw [if_neg z2, if_neg (fun z3 => hok ⟨z1, z2, z3⟩)]; decide
      · rw [if_neg z1]; decide
    obtain ⟨x, hx, hx0⟩ := hne
    refine ⟨x, I, F, I, F, ?_, ?_, h0⟩
    · unfold f_X9_season
      rw [ref_ok hL e9 es hs1, hx, bd_s, if_neg hx0]
    · unfold f_X10_season
      rw [mref_ok hL e22 es2 hs1, hx, bd_s, if_neg hx0]
