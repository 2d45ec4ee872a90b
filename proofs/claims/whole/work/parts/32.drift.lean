/-! drift -/
theorem fa_tw (f : Nat → Int32) (i : Nat) (x y : Int32) : upd (upd f i x) i y = upd f i y := by
  funext j
  unfold upd
  by_cases h : j = i
  · rw [if_pos h, if_pos h]
  · rw [if_neg h, if_neg h, if_neg h]
def dr (a : Nat) : Nat := (a * 1103515245 + 12345) % 2 ^ 31
theorem l_and {n : Nat} (hn : n < 2 ^ 63) : lN n &&& (2147483647 : Int64) = lN (n % 2 ^ 31) := by
  apply Int64.toBitVec_inj.mp
  show (lN n).toBitVec &&& (2147483647 : Int64).toBitVec = (lN (n % 2 ^ 31)).toBitVec
  apply BitVec.eq_of_toNat_eq
  rw [BitVec.toNat_and]
  have h : ∀ m, (lN m).toBitVec.toNat = m % 2 ^ 64 := fun m => rfl
  rw [h, h, show (2147483647 : Int64).toBitVec.toNat = 2 ^ 31 - 1 from rfl, Nat.and_two_pow_sub_one_eq_mod]
  omega
theorem sd_n {a : Nat} (ha : a < 2 ^ 31) : (nI a).toInt64 * (1103515245 : Int64) + (12345 : Int64) = lN (a * 1103515245 + 12345) := by
  rw [nI_l ha, show (1103515245 : Int64) = lN 1103515245 from rfl, show (12345 : Int64) = lN 12345 from rfl, lN_mul, lN_add]
theorem X_draw {n a : Nat} {I : AI} {F : AF} {r : Nat → Int32} (hn : 1 ≤ n) (hn2 : n ≤ 20) (ha : a < 2 ^ 31) (er : r 20 = nI a) : f_X8_nextDraw (nI n) I (va_up F 22 r) = some (nI (dr a / 65536 % n), I, va_up F 22 (upd r 20 (nI (dr a)))) := by
  have hd : dr a < 2 ^ 31 := Nat.mod_lt _ (by decide)
  unfold f_X8_nextDraw
  rw [up_s, er, sd_n ha, l_and (by omega), lN_i, lt_e, up_uu, up_s, pk_us]
  show (if nI n ≤ 0 then _ else bif ab_nz (nI n) then some (nI (dr a) / nI 65536 - nI (dr a) / nI 65536 / nI n * nI n, I, va_up F 22 (upd r 20 (nI (dr a)))) else none) = _
  rw [pk_div (a := dr a) (d := 65536) (by omega) (by decide) (by decide), pk_rem (a := dr a / 65536) (d := n) (by omega) (by omega) (by omega)]
  have h0 : ¬ nI n = 0 := nI_ne0 (by omega) (by omega)
  have h1 : ab_nz (nI n) = true := by simp [ab_nz, h0]
  rw [h1, cond_true, if_neg (by rw [nle0 (by omega)]; omega)]
theorem M_draw {n a : Nat} {J : AI} {H : AF} (hn : 1 ≤ n) (hn2 : n ≤ 20) (ha : a < 2 ^ 31) (er : J 25 = nI a) : f_X10_draw (nI n) J H = some (nI (dr a / 65536 % n), va_up J 25 (nI (dr a)), H) := by
  have hd : dr a < 2 ^ 31 := Nat.mod_lt _ (by decide)
  unfold f_X10_draw
  have h0 : ¬ nI n = 0 := nI_ne0 (by omega) (by omega)
  have h1 : ab_nz (nI n) = true := by simp [ab_nz, h0]
  rw [h1, cond_true, er, sd_n ha, show (2147483648 : Int64) = lN 2147483648 from rfl, pk_lRem (by omega) (by decide) (by decide), lN_i]
  show some (nI (dr a) / nI 65536 - nI (dr a) / nI 65536 / nI n * nI n, _, _) = _
  rw [pk_div (a := dr a) (d := 65536) (by omega) (by decide) (by decide), pk_rem (a := dr a / 65536) (d := n) (by omega) (by omega) (by omega)]
  rfl
theorem suf_b {L C a al : Nat} {I J : AI} {F H : AF} {r w : Nat → Int32} (hL : L ≤ 6) (hC : C ≤ 6) (hL1 : 1 ≤ L) (e9 : I 9 = nI L) (e22 : J 22 = nI L) (ha : a < 2 ^ 31) (er : r 20 = nI a) (ej : J 25 = nI a) (el : r 18 = nI al) (hal : al < 2 ^ L) (hS : SR L C (F 15) r w) :
    ∃ r' w' a', f_X8_sufferByDraws I (va_up F 22 r) = some (0, I, va_up F 22 r') ∧ f_X10_drawn J (va_up H 47 w) = some (0, va_up J 25 (nI a'), va_up H 47 w') ∧ a' < 2 ^ 31 ∧ r' 20 = nI a' ∧ r' 19 = r 19 ∧ SR L C (F 15) r' w' := by
  have d1 : dr a < 2 ^ 31 := Nat.mod_lt _ (by decide)
  have hal31 := pow31 hL hal
  have x1 := X_draw (I := I) (F := F) (n := 6) (by decide) (by decide) ha er
  have m1 := M_draw (H := va_up H 47 w) (n := 6) (by decide) (by decide) ha ej
  generalize dr a = b1 at d1 x1 m1
  have d2 : dr b1 < 2 ^ 31 := Nat.mod_lt _ (by decide)
  have x2 := X_draw (I := I) (F := F) (n := L) (r := upd r 20 (nI b1)) hL1 (by omega) d1 pk_us
  have m2 := M_draw (J := va_up J 25 (nI b1)) (H := va_up H 47 w) (n := L) hL1 (by omega) d1 rfl
  generalize dr b1 = b2 at d2 x2 m2
  have d3 : dr b2 < 2 ^ 31 := Nat.mod_lt _ (by decide)
  have x3 := X_draw (I := I) (F := F) (n := 20) (r := upd (upd r 20 (nI b1)) 20 (nI b2)) (by decide) (by decide) d2 pk_us
  have m3 := M_draw (J := va_up (va_up J 25 (nI b1)) 25 (nI b2)) (H := va_up H 47 w) (n := 20) (by decide) (by decide) d2 rfl
  generalize dr b2 = b3 at d3 x3 m3
  rw [fa_tw] at x2
  rw [fa_tw, fa_tw] at x3
  rw [up_uu] at m2
  rw [up_uu, up_uu] at m3
  have hS1 : ∀ z, SR L C (F 15) (upd r 20 (nI z)) w := fun z => SR_20 hL hC hS
  generalize hk : b2 / 65536 % L = k at x2 m2
  have hk1 : k < L := by rw [← hk]; exact Nat.mod_lt _ (by omega)
  have k9 : k < 9 := by omega
  have w18 : w 18 = nI al := hS.2.2.2.2.2.2.1.trans el
  obtain ⟨wk, l, hl1, hl2, elk⟩ := hS.1 k hk1
  generalize hf : b1 / 65536 % 6 = f at x1 m1
  have hf6 : f < 6 := by rw [← hf]; exact Nat.mod_lt _ (by decide)
  have g0 : nI f = 0 ↔ f = 0 := by rw [n0eq (by omega)]
  have g1 : nI f = 1 ↔ f = 1 := nI_eq (a := f) (b := 1) (by omega) (by omega)
  have gl : nI f ≤ 1 ↔ f ≤ 1 := nI_leI (a := f) (b := 1) (by omega) (by omega)
  have e22' : va_up J 25 (nI b1) 22 = nI L := e22
  have one : ¬ (1 : Int32) = 0 := by decide
  have xl : ∀ z, f_X8_lives (nI k) I (va_up F 22 (upd r 20 (nI z))) = some ((if al.testBit k then 1 else 0), I, va_up F 22 (upd r 20 (nI z))) := fun z => X_lives (F := va_up F 22 (upd r 20 (nI z))) (show va_up F 22 (upd r 20 (nI z)) 22 18 = nI al by rw [up_s, pk_un (by decide)]; exact el) hal31 k9
  have ml : ∀ z, f_X10_lives (nI k) (va_up J 25 (nI z)) (va_up H 47 w) = some ((if al.testBit k then 1 else 0), va_up J 25 (nI z), va_up H 47 w) := fun z => M_lives (F := va_up H 47 w) w18 hal31 k9
  by_cases f0 : f = 0
  · have hv1 : b3 / 65536 % 20 + 1 ≤ 20 := by
      have := Nat.mod_lt (b3 / 65536) (show 0 < 20 by decide)
      omega
    generalize b3 / 65536 % 20 = v at x3 m3 hv1
    cases hb : al.testBit k with
    | false =>
      rw [hb] at xl ml
      refine ⟨upd r 20 (nI b3), w, b3, ?_, ?_, d3, pk_us, pk_un (by decide), hS1 _⟩
      · unfold f_X8_sufferByDraws
        rw [x1, bd_s, if_neg (not_not_intro (g0.mpr f0)), e9, x2, bd_s, x3, bd_s, xl, bd_s, if_pos (if_neg Bool.false_ne_true)]
      · unfold f_X10_drawn f_X10_drawn_j38
        rw [m1, bd_s, if_pos (gl.mpr (by omega)), e22', m2, bd_s, if_neg (not_not_intro (g0.mpr f0)), m3, bd_s, ml, bd_s, if_pos (if_neg Bool.false_ne_true), ml, bd_s, if_pos (if_neg Bool.false_ne_true)]
    | true =>
      rw [hb] at xl ml
      refine ⟨upd (upd r 20 (nI b3)) k (nI (if l + (v + 1) < 140 then l + (v + 1) else 140)), upd w k (nI (if l + (v + 1) < 140 then l + (v + 1) else 140)), b3, ?_, ?_, d3, ?_, ?_, SR_len hL (hS1 _) hk1 (by split <;> omega) (by split <;> omega)⟩
      · unfold f_X8_sufferByDraws
        rw [x1, bd_s, if_neg (not_not_intro (g0.mpr f0)), e9, x2, bd_s, x3, bd_s, xl, bd_s, if_pos rfl, if_neg one, nI_1, X_swell (F := va_up F 22 (upd r 20 (nI b3))) hL hk1 (show va_up F 22 (upd r 20 (nI b3)) 22 k = nI l by rw [up_s, pk_un (by omega)]; exact elk) hl2 hv1, bd_s, up_s, up_uu]
      · unfold f_X10_drawn f_X10_drawn_j38
        rw [m1, bd_s, if_pos (gl.mpr (by omega)), e22', m2, bd_s, if_neg (not_not_intro (g0.mpr f0)), m3, bd_s, ml, bd_s, if_pos rfl, if_neg one, if_neg (not_not_intro (g0.mpr f0)), nI_1, M_swell (F := va_up H 47 w) hL hk1 (show va_up H 47 w 47 k = nI l by rw [up_s]; exact wk.trans elk) hl2 hv1, bd_s, up_s, up_uu]
      · rw [pk_un (by omega), pk_us]
      · rw [pk_un (by omega), pk_un (by decide)]
  · by_cases f1 : f = 1
    · cases hb : al.testBit k with
      | false =>
        rw [hb] at xl ml
        refine ⟨upd r 20 (nI b2), w, b2, ?_, ?_, d2, pk_us, pk_un (by decide), hS1 _⟩
        · unfold f_X8_sufferByDraws
          rw [x1, bd_s, if_pos (fun z => f0 (g0.mp z)), if_neg (not_not_intro (g1.mpr f1)), e9, x2, bd_s, xl, bd_s, if_pos (if_neg Bool.false_ne_true)]
        · unfold f_X10_drawn f_X10_drawn_j38
          rw [m1, bd_s, if_pos (gl.mpr (by omega)), e22', m2, bd_s, if_pos (fun z => f0 (g0.mp z)), ml, bd_s, if_pos (if_neg Bool.false_ne_true), ml, bd_s, if_pos (if_neg Bool.false_ne_true)]
      | true =>
        rw [hb] at xl ml
        refine ⟨upd (upd r 20 (nI b2)) k (nI (if l ≤ 4 then 1 else l - 3)), upd w k (nI (if l ≤ 4 then 1 else l - 3)), b2, ?_, ?_, d2, ?_, ?_, SR_len hL (hS1 _) hk1 (by split <;> omega) (by split <;> omega)⟩
        · unfold f_X8_sufferByDraws
          rw [x1, bd_s, if_pos (fun z => f0 (g0.mp z)), if_neg (not_not_intro (g1.mpr f1)), e9, x2, bd_s, xl, bd_s, if_pos rfl, if_neg one, X_short (F := va_up F 22 (upd r 20 (nI b2))) hL hk1 (show va_up F 22 (upd r 20 (nI b2)) 22 k = nI l by rw [up_s, pk_un (by omega)]; exact elk) hl2, bd_s, up_s, up_uu]
        · unfold f_X10_drawn f_X10_drawn_j38
          rw [m1, bd_s, if_pos (gl.mpr (by omega)), e22', m2, bd_s, if_pos (fun z => f0 (g0.mp z)), ml, bd_s, if_pos rfl, if_neg one, if_pos (fun z => f0 (g0.mp z)), ml, bd_s, if_pos rfl, if_neg one, M_short (F := va_up H 47 w) hL hk1 (show va_up H 47 w 47 k = nI l by rw [up_s]; exact wk.trans elk) hl2, bd_s, up_s, up_uu]
        · rw [pk_un (by omega), pk_us]
        · rw [pk_un (by omega), pk_un (by decide)]
    · refine ⟨upd r 20 (nI b1), w, b1, ?_, ?_, d1, pk_us, pk_un (by decide), hS1 _⟩
      · unfold f_X8_sufferByDraws
        rw [x1, bd_s, if_pos (fun z => f0 (g0.mp z)), if_pos (fun z => f1 (g1.mp z))]
      · unfold f_X10_drawn
        rw [m1, bd_s, if_neg (fun z => by have := gl.mp z; omega)]
theorem drift_l {L C p : Nat} {I J : AI} {F H : AF} {kx km : Int32 → AI → AF → AQ} (hL : L ≤ 6) (hC : C ≤ 6) (hL1 : 1 ≤ L) (hp : p ≤ 40) (e9 : I 9 = nI L) (e22 : J 22 = nI L) (e10 : I 10 = nI C) (e23 : J 23 = nI C) (hP : PL L (F 13) (F 14) (H 38) (H 39)) (hQ : PQ L C (F 15) (F 16) (F 17) (H 40) (H 41) (H 42)) :
    ∀ (m i n n' s a : Nat) (r w : Nat → Int32), i + m = p → m < n → m < n' → s + m ≤ 9040 → r 19 = nI s → a < 2 ^ 31 → r 20 = nI a → SR L C (F 15) r w →
    ∃ r' w' a', f_X9_drift_25 (nI p) kx n (nI i) I (va_up F 22 r) = kx (nI p) I (va_up F 22 r') ∧ f_X10_drift_18 (nI p) km n' (nI i) (va_up J 25 (nI a)) (va_up H 47 w) = km (nI p) (va_up J 25 (nI a')) (va_up H 47 w') ∧ r' 19 = nI (s + m) ∧ a' < 2 ^ 31 ∧ r' 20 = nI a' ∧ SR L C (F 15) r' w' := by
  intro m
  induction m with
  | zero =>
    intro i n n' s a r w h1 h2 h3 h4 hr ha hr2 hS
    match n, n', h2, h3 with
    | n + 1, n' + 1, _, _ =>
      rw [f_X9_drift_25, f_X10_drift_18]
      have : i = p := by omega
      subst this
      simp (disch := omega) only [nle, if_pos (Nat.le_refl i)]
      exact ⟨r, w, a, rfl, rfl, hr, ha, hr2, hS⟩
  | succ m ih =>
    intro i n n' s a r w h1 h2 h3 h4 hr ha hr2 hS
    match n, n', h2, h3 with
    | n + 1, n' + 1, h2, h3 =>
      obtain ⟨al, s0, hal, el, -, -, es0, -⟩ := SR_a hS
      obtain ⟨r0, w0, a0, q1, q2, q3, q4, q5, q6⟩ := suf_b (I := I) (J := va_up J 25 (nI a)) (F := F) (H := H) hL hC hL1 e9 e22 ha hr2 rfl el hal hS
      rw [up_uu] at q2
      obtain ⟨r1, w1, k1, k2, k3, k4, k5⟩ := pass_b (I := I) (J := va_up J 25 (nI a0)) hL hC e10 e23 hP hQ (show s ≤ 9039 by omega) (q5.trans hr) q6
      obtain ⟨r', w', a', l1, l2, l3, l4, l5, l6⟩ := ih (i + 1) n n' (s + 1) a0 r1 w1 (by omega) (by omega) (by omega) (by omega) k3 q3 (k4.trans q4) k5
      rw [f_X9_drift_25, f_X10_drift_18]
      simp (disch := omega) only [nle, if_neg (show ¬ p ≤ i by omega), q1, q2, k1, k2, bd_s, nI_1]
      exact ⟨r', w', a', l1, l2, by rw [l3]; congr 1; omega, l4, l5, l6⟩
theorem sim_drift (a : Int32) : ab_Sim Inv (f_X9_drift a) (f_X10_drift a) := by
  intro I F h
  have h0 := h
  obtain ⟨t, L, C, R, u, o, q, g, bb, hT, ⟨hL, hC, hR, e9, e10, e11, e22, e23, e24⟩, hPL, hQ, hV, hS, ⟨hD1, sd, hsd, esd⟩, hU, hM, hN⟩ := h
  obtain ⟨al, s, ha1, ea, ea2, hs1, es, es2⟩ := SR_a hS
  by_cases hok : ((1 : Int32) ≤ a ∧ a ≤ nI 40) ∧ ¬ L = 0 ∧ s ≤ 9000
  · obtain ⟨hr, hz, hs⟩ := hok
    obtain ⟨p, hp, rfl⟩ := nI_of2 (M := nI 40) (n := 40) rfl (Int32.not_lt.mpr (Int32.le_trans (show (0 : Int32) ≤ 1 by decide) hr.1)) hr.2
    obtain ⟨u', o', i12, i13, i34, f23, f59, r1, r2, hU'⟩ := rem_both hL hC hU hS
    have key := fun (H : AF) (J : AI) (e22' : J 22 = nI L) (e23' : J 23 = nI C) (hP' : PL L (F 13) (F 14) (H 38) (H 39)) (hQ' : PQ L C (F 15) (F 16) (F 17) (H 40) (H 41) (H 42)) => drift_l (I := va_up (va_up I 12 i12) 13 i13) (J := J) (F := va_up F 23 f23) (H := H) (kx := fun v3_698 I699 F700 =>
          ab_bd (f_X8_seasons I699 F700) (fun r701 I702 F703 =>
            some (r701, I702, F703))) (km := fun v3_1840 I1841 F1842 =>
          some (((F1842 47) 19), I1841, F1842)) hL hC (show 1 ≤ L by omega) hp e9 e22' e10 e23' hP' hQ' p 0 ab_fu ab_fu s sd (F 22) (F 47) (by omega) (by unfold ab_fu; omega) (by unfold ab_fu; omega) (by omega) es hsd esd hS
    obtain ⟨ra, -, -, ka, -⟩ := key F I e22 e23 hPL hQ
    obtain ⟨rb, wb, sb, kb1, kb2, kb3, kb4, kb5, kb6⟩ := key (va_up (va_up (va_up F 23 f23) 22 ra) 59 f59) (va_up (va_up (va_up I 12 i12) 13 i13) 34 i34) e22 e23 hPL hQ
    have hab : va_up (va_up F 23 f23) 22 ra = va_up (va_up F 23 f23) 22 rb := by
      have := ka.symm.trans kb1
      simp only [f_X8_seasons, bd_s] at this
      exact congrArg (fun z => z.2.2) (Option.some.inj this)
    have e1 : f_X9_drift (nI p) I F = some (nI (s + p), va_up (va_up I 12 i12) 13 i13, va_up (va_up F 23 f23) 22 rb) := by
      unfold f_X9_drift
      rw [ref_ok hL e9 es hs1, if_pos hr, if_neg hz, if_pos hs, bd_s, if_pos rfl, r1, bd_s]
      rw [show va_up (va_up F 23 f23) 22 (F 22) = va_up F 23 f23 from up_id (va_up F 23 f23) 22, nI_0] at kb1
      rw [kb1]
      simp only [f_X8_seasons, bd_s, up_s]
      rw [kb3]
    have e2 := r2 (va_up (va_up I 12 i12) 13 i13) (va_up (va_up F 23 f23) 22 rb) rfl rfl rfl
    have e3 : f_X10_drift (nI p) (va_up (va_up I 12 i12) 13 i13) (va_up (va_up F 23 f23) 22 rb) = some (nI (s + p), va_up (va_up (va_up (va_up I 12 i12) 13 i13) 34 i34) 25 (nI sb), va_up (va_up (va_up (va_up F 23 f23) 22 rb) 59 f59) 47 wb) := by
      unfold f_X10_drift
      rw [mref_ok hL (show va_up (va_up I 12 i12) 13 i13 22 = nI L from e22) (show va_up (va_up F 23 f23) 22 rb 47 19 = nI s from es2) hs1, if_pos hr, if_neg hz, if_pos hs, bd_s, if_pos rfl, e2, bd_s]
      have ej : va_up (va_up (va_up (va_up I 12 i12) 13 i13) 34 i34) 25 (nI sd) = va_up (va_up (va_up I 12 i12) 13 i13) 34 i34 := by
        have := up_id (va_up (va_up (va_up I 12 i12) 13 i13) 34 i34) 25
        rw [show va_up (va_up (va_up I 12 i12) 13 i13) 34 i34 25 = nI sd from hD1.trans esd] at this
        exact this
      rw [hab, show va_up (va_up (va_up (va_up F 23 f23) 22 rb) 59 f59) 47 (F 47) = va_up (va_up (va_up F 23 f23) 22 rb) 59 f59 from up_id (va_up (va_up (va_up F 23 f23) 22 rb) 59 f59) 47, nI_0, ej] at kb2
      rw [kb2]
      simp only [up_s]
      rw [kb6.2.2.2.2.2.2.2.2.1, kb3]
    refine ⟨_, _, _, _, _, e1, e3, t, L, C, R, u', o', q, g, bb, hT, ⟨hL, hC, hR, e9, e10, e11, e22, e23, e24⟩, hPL, hQ, hV, kb6, ⟨?_, sb, kb4, kb5⟩, hU', hM, hN⟩
    show nI sb = rb 20
    exact kb5.symm
  · have hne : ∃ x : Int32, (if (1 : Int32) ≤ a ∧ a ≤ nI 40 then (if L = 0 then (-1000000003 : Int32) else if s ≤ 9000 then 0 else -1000000004) else -1000000002) = x ∧ ¬ x = 0 := by
      refine ⟨_, rfl, ?_⟩
      by_cases z1 : (1 : Int32) ≤ a ∧ a ≤ nI 40
      · rw [if_pos z1]
        by_cases z2 : L = 0
        · rw [if_pos z2]; decide
        · rw [if_neg z2, if_neg (fun z3 => hok ⟨z1, z2, z3⟩)]; decide
      · rw [if_neg z1]; decide
    obtain ⟨x, hx, hx0⟩ := hne
    refine ⟨x, I, F, I, F, ?_, ?_, h0⟩
    · unfold f_X9_drift
      rw [ref_ok hL e9 es hs1, hx, bd_s, if_neg hx0]
    · unfold f_X10_drift
      rw [mref_ok hL e22 es2 hs1, hx, bd_s, if_neg hx0]
