/-! what is remembered: remember, undo, keep, goBack -/
theorem cpy_0 {f g : Nat → Int32} (sp dp : Nat) : va_cpy f g sp dp 0 = g := by
  funext k
  unfold va_cpy
  rw [if_neg (by omega)]
theorem cpy_s {f g : Nat → Int32} (sp dp n : Nat) : upd (va_cpy f g sp dp n) (dp + n) (f (sp + n)) = va_cpy f g sp dp (n + 1) := by
  funext k
  unfold upd va_cpy
  by_cases h : k = dp + n
  · subst h
    rw [if_pos rfl, if_pos (by omega), show dp + n - dp = n by omega]
  · rw [if_neg h]
    by_cases h2 : dp ≤ k ∧ k < dp + n
    · rw [if_pos h2, if_pos (by omega)]
    · rw [if_neg h2, if_neg (by omega)]
theorem up_id {α : Type} (f : Nat → α) (k : Nat) : va_up f k (f k) = f := by
  funext j
  unfold va_up
  by_cases h : j = k
  · rw [if_pos h, h]
  · rw [if_neg h]
theorem up_uu {α : Type} (f : Nat → α) (k : Nat) (v w : α) : va_up (va_up f k v) k w = va_up f k w := bx_uu f k v w
theorem rem52 {I : AI} {F : AF} {u : Nat} {ko : Int32 → AI → AF → AQ} (hu : u < 20) (e34 : I 34 = nI u) : ∀ (m i n : Nat) (g : Nat → Int32), i + m = 22 → m < n → f_X10_remember_52 ko n (nI i) I (va_up F 59 (va_cpy (F 47) g 0 (22 * u) i)) = ko (nI 22) I (va_up F 59 (va_cpy (F 47) g 0 (22 * u) 22)) := by
  intro m
  induction m with
  | zero =>
    intro i n g h1 h2
    match n, h2 with
    | n + 1, _ =>
      have : i = 22 := by omega
      subst this
      rw [f_X10_remember_52, if_pos (by decide)]
  | succ m ih =>
    intro i n g h1 h2
    match n, h2 with
    | n + 1, h2 =>
      have := ih (i + 1) n g (by omega) (by omega)
      rw [f_X10_remember_52, e34, pk_mul, nI_add]
      simp (disch := omega) only [nle, if_neg (show ¬ 22 ≤ i by omega), vin_t, cond_true, nI_clamp, lt_e, nI_1, up_uu, up_s]
      rw [show va_up F 59 (va_cpy (F 47) g 0 (22 * u) i) 47 i = F 47 (0 + i) by rw [up_n (by decide), Nat.zero_add], cpy_s]
      exact this
theorem rem12 {I : AI} {F : AF} {ko : Int32 → AI → AF → AQ} : ∀ (m i n : Nat), i + m = 418 → m < n → f_X10_remember_12 ko n (nI (22 + i)) I (va_up F 59 (va_cpy (F 59) (F 59) 22 0 i)) = ko (nI 440) I (va_up F 59 (va_cpy (F 59) (F 59) 22 0 418)) := by
  intro m
  induction m with
  | zero =>
    intro i n h1 h2
    match n, h2 with
    | n + 1, _ =>
      have : i = 418 := by omega
      subst this
      rw [f_X10_remember_12, if_pos (by decide)]
  | succ m ih =>
    intro i n h1 h2
    match n, h2 with
    | n + 1, h2 =>
      have := ih (i + 1) n (by omega) (by omega)
      rw [f_X10_remember_12, pk_sub (show 22 ≤ 22 + i by omega)]
      simp (disch := omega) only [nle, if_neg (show ¬ 440 ≤ 22 + i by omega), vin_t, cond_true, nI_clamp, lt_e, nI_1, up_uu, up_s]
      rw [show va_cpy (F 59) (F 59) 22 0 i (22 + i) = F 59 (22 + i) from if_neg (by omega), show 22 + i - 22 = 0 + i by omega, cpy_s]
      exact this
theorem M_rem {I : AI} {F : AF} {u : Nat} (hu : u < 20) (e34 : I 34 = nI u) : f_X10_remember I F = some (0, va_up I 34 (nI (u + 1)), va_up F 59 (va_cpy (F 47) (F 59) 0 (22 * u) 22)) := by
  unfold f_X10_remember
  have hne : ¬ u = 20 := by omega
  have := rem52 (F := F) (ko := fun _ I F => some (0, va_up I 34 (I 34 + 1), F)) hu e34 22 0 ab_fu (F 59) rfl (by decide)
  rw [cpy_0, up_id, nI_0, e34, nI_1] at this
  rw [e34]
  simp (disch := omega) only [neq, if_pos hne, nI_1]
  exact this
theorem M_rem20 {I : AI} {F : AF} (e34 : I 34 = nI 20) : f_X10_remember I F = some (0, va_up I 34 (nI 20), va_up F 59 (va_cpy (F 47) (va_cpy (F 59) (F 59) 22 0 418) 0 418 22)) := by
  unfold f_X10_remember
  rw [if_neg (by rw [e34]; decide)]
  have := rem12 (I := I) (F := F) (ko := fun v1 I1684 F1685 =>
      ab_lt (va_up I1684 34 ((I1684 34) - (1 : Int32))) (fun I1686 =>
        f_X10_remember_52 (fun v1_1687 I1688 F1689 =>
          some (0, (va_up I1688 34 ((I1688 34) + (1 : Int32))), F1689)) ab_fu (0 : Int32) I1686 F1685)) 418 0 ab_fu rfl (by decide)
  rw [cpy_0, up_id] at this
  refine this.trans ?_
  rw [lt_e, e34, show nI 20 - 1 = nI 19 from rfl]
  have h2 := rem52 (I := va_up I 34 (nI 19)) (F := F) (ko := fun v1_1687 I1688 F1689 =>
          some (0, (va_up I1688 34 ((I1688 34) + (1 : Int32))), F1689)) (u := 19) (by decide) rfl 22 0 ab_fu (va_cpy (F 59) (F 59) 22 0 418) rfl (by decide)
  rw [cpy_0, nI_0] at h2
  rw [h2, up_uu, up_s]
  rfl
theorem lp_n {I : AI} {F : AF} {o u : Nat} (ho : o < 20) (hu : u ≤ 20) (hu1 : 1 ≤ u) (e12 : I 12 = nI o) (e13 : I 13 = nI u) : f_X4_latestPlace I F = some (nI ((o + (u - 1)) % 20 * 20), I, F) := by
  unfold f_X4_latestPlace
  rw [e12, e13, nI_add, show nI (o + u) - 1 = nI (o + u) - nI 1 from rfl, pk_sub (show 1 ≤ o + u by omega), pk_rem (a := o + u - 1) (d := 20) (by omega) (by decide) (by decide), pk_mul, show o + u - 1 = o + (u - 1) by omega]
theorem cg_t {sp dp n n0 n1 : Nat} (h1 : sp + n ≤ n0) (h2 : dp + n ≤ n1) (h3 : n0 < 2 ^ 30) (h4 : n1 < 2 ^ 30) : ab_cg (nI sp) (nI dp) (nI n) n0 n1 = true := by
  have a1 : ¬ nI sp < 0 := nI_pos (by omega)
  have a2 : ¬ nI dp < 0 := nI_pos (by omega)
  have a3 : ¬ nI n < 0 := nI_pos (by omega)
  have b1 : (nI sp).toNatClampNeg = sp := nI_clamp (by omega)
  have b2 : (nI dp).toNatClampNeg = dp := nI_clamp (by omega)
  have b3 : (nI n).toNatClampNeg = n := nI_clamp (by omega)
  simp only [ab_cg, b1, b2, b3, a1, a2, a3, decide_false, Bool.not_false, Bool.true_and, Bool.and_eq_true, decide_eq_true_eq]
  exact ⟨h1, h2⟩
theorem X_rem {I : AI} {F : AF} {o u : Nat} (ho : o < 20) (hu : u < 20) (e12 : I 12 = nI o) (e13 : I 13 = nI u) : f_X4_remember I F = some (0, va_up I 13 (nI (u + 1)), va_up F 23 (va_cpy (F 22) (F 23) 0 ((o + u) % 20 * 20) 20)) := by
  unfold f_X4_remember
  have hne : ¬ u = 20 := by omega
  have hm : (o + u) % 20 < 20 := Nat.mod_lt _ (by decide)
  rw [e13]
  simp (disch := omega) only [neq, if_pos hne, nI_1, lt_e]
  rw [lp_n (I := va_up I 13 (nI (u + 1))) ho (show u + 1 ≤ 20 by omega) (by omega) e12 rfl, bd_s, ← nI_0, show u + 1 - 1 = u by omega, cg_t (by omega) (by omega) (by decide) (by decide), cond_true, nI_clamp (by omega), nI_0]
theorem X_rem20 {I : AI} {F : AF} {o : Nat} (ho : o < 20) (e12 : I 12 = nI o) (e13 : I 13 = nI 20) : f_X4_remember I F = some (0, va_up I 12 (nI ((o + 1) % 20)), va_up F 23 (va_cpy (F 22) (F 23) 0 (o * 20) 20)) := by
  unfold f_X4_remember
  have hm : (o + 1) % 20 < 20 := Nat.mod_lt _ (by decide)
  rw [if_neg (by rw [e13]; decide), e12, nI_1, pk_rem (a := o + 1) (d := 20) (by omega) (by decide) (by decide), lt_e]
  rw [lp_n (I := va_up I 12 (nI ((o + 1) % 20))) hm (show 20 ≤ 20 by omega) (by omega) rfl e13, bd_s, ← nI_0, show ((o + 1) % 20 + (20 - 1)) % 20 = o by omega, cg_t (by omega) (by omega) (by decide) (by decide), cond_true, nI_clamp (by omega), nI_0]
theorem cpy_in {f g : Nat → Int32} {sp dp n k : Nat} (h1 : dp ≤ k) (h2 : k < dp + n) : va_cpy f g sp dp n k = f (sp + (k - dp)) := if_pos ⟨h1, h2⟩
theorem cpy_out {f g : Nat → Int32} {sp dp n k : Nat} (h : k < dp ∨ dp + n ≤ k) : va_cpy f g sp dp n k = g k := if_neg (by omega)
/-- both remember: what stands then -/
theorem rem_both {L C u o : Nat} {I : AI} {F : AF} (hL : L ≤ 6) (hC : C ≤ 6) (hU : UN L C u o (I 12) (I 13) (I 34) (F 15) (F 23) (F 59)) (hS : SR L C (F 15) (F 22) (F 47)) :
    ∃ u' o' i12 i13 i34 f23 f59, f_X4_remember I F = some (0, va_up (va_up I 12 i12) 13 i13, va_up F 23 f23) ∧ (∀ (I' : AI) (F' : AF), I' 34 = I 34 → F' 47 = F 47 → F' 59 = F 59 → f_X10_remember I' F' = some (0, va_up I' 34 i34, va_up F' 59 f59)) ∧ UN L C u' o' i12 i13 i34 (F 15) f23 f59 := by
  obtain ⟨hu, ho, e12, e13, e34, hE⟩ := hU
  by_cases hf : u < 20
  · refine ⟨u + 1, o, nI o, nI (u + 1), nI (u + 1), va_cpy (F 22) (F 23) 0 ((o + u) % 20 * 20) 20, va_cpy (F 47) (F 59) 0 (22 * u) 22, ?_, ?_, ⟨by omega, ho, rfl, rfl, rfl, ?_⟩⟩
    · rw [X_rem ho hf e12 e13, ← e12, up_id]
    · intro I' F' a1 a2 a3
      rw [M_rem hf (a1.trans e34), a2, a3]
    · intro j hj
      have hm : ∀ x, x % 20 < 20 := fun x => Nat.mod_lt _ (by decide)
      rcases Nat.lt_or_ge j u with z | z
      · refine SR_cong hL hC (hE j z) ?_ ?_
        · intro i hi
          have hne : (o + j) % 20 ≠ (o + u) % 20 := by omega
          show va_cpy (F 22) (F 23) 0 ((o + u) % 20 * 20) 20 ((o + j) % 20 * 20 + i) = _
          rw [cpy_out]
          rcases Nat.lt_or_ge ((o + j) % 20) ((o + u) % 20) with w | w
          · left; omega
          · right; omega
        · intro i hi
          show va_cpy (F 47) (F 59) 0 (22 * u) 22 (22 * j + i) = _
          rw [cpy_out]
          left; omega
      · have : j = u := by omega
        subst this
        refine SR_cong hL hC hS ?_ ?_
        · intro i hi
          show va_cpy (F 22) (F 23) 0 ((o + j) % 20 * 20) 20 ((o + j) % 20 * 20 + i) = _
          rw [cpy_in (by omega) (by omega), show 0 + ((o + j) % 20 * 20 + i - (o + j) % 20 * 20) = i by omega]
        · intro i hi
          show va_cpy (F 47) (F 59) 0 (22 * j) 22 (22 * j + i) = _
          rw [cpy_in (by omega) (by omega), show 0 + (22 * j + i - 22 * j) = i by omega]
  · have : u = 20 := by omega
    subst this
    refine ⟨20, (o + 1) % 20, nI ((o + 1) % 20), nI 20, nI 20, va_cpy (F 22) (F 23) 0 (o * 20) 20, va_cpy (F 47) (va_cpy (F 59) (F 59) 22 0 418) 0 418 22, ?_, ?_, ⟨by omega, Nat.mod_lt _ (by decide), rfl, rfl, rfl, ?_⟩⟩
    · rw [X_rem20 ho e12 e13, show va_up (va_up I 12 (nI ((o + 1) % 20))) 13 (nI 20) = va_up I 12 (nI ((o + 1) % 20)) by rw [← e13]; exact up_id (va_up I 12 (nI ((o + 1) % 20))) 13]
    · intro I' F' a1 a2 a3
      rw [M_rem20 (a1.trans e34), a2, a3]
    · intro j hj
      rcases Nat.lt_or_ge j 19 with z | z
      · refine SR_cong hL hC (hE (j + 1) (by omega)) ?_ ?_
        · intro i hi
          show va_cpy (F 22) (F 23) 0 (o * 20) 20 (((o + 1) % 20 + j) % 20 * 20 + i) = F 23 ((o + (j + 1)) % 20 * 20 + i)
          have e : ((o + 1) % 20 + j) % 20 = (o + (j + 1)) % 20 := by omega
          have hne : (o + (j + 1)) % 20 ≠ o := by omega
          rw [e, cpy_out]
          rcases Nat.lt_or_ge ((o + (j + 1)) % 20) o with w | w
          · left; omega
          · right; omega
        · intro i hi
          show va_cpy (F 47) (va_cpy (F 59) (F 59) 22 0 418) 0 418 22 (22 * j + i) = F 59 (22 * (j + 1) + i)
          rw [cpy_out (by left; omega), cpy_in (by omega) (by omega)]
          congr 1
          omega
      · have : j = 19 := by omega
        subst this
        refine SR_cong hL hC hS ?_ ?_
        · intro i hi
          show va_cpy (F 22) (F 23) 0 (o * 20) 20 (((o + 1) % 20 + 19) % 20 * 20 + i) = _
          rw [show ((o + 1) % 20 + 19) % 20 = o by omega, cpy_in (by omega) (by omega), show 0 + (o * 20 + i - o * 20) = i by omega]
        · intro i hi
          show va_cpy (F 47) (va_cpy (F 59) (F 59) 22 0 418) 0 418 22 (22 * 19 + i) = _
          rw [cpy_in (by omega) (by omega), show 0 + (22 * 19 + i - 418) = i by omega]
theorem und22 {I : AI} {F : AF} {u : Nat} {ko : Int32 → AI → AF → AQ} (hu : u < 20) (e34 : I 34 = nI u) : ∀ (m i n : Nat), i + m = 22 → m < n → f_X10_undo_22 ko n (nI i) I (va_up F 47 (va_cpy (F 59) (F 47) (22 * u) 0 i)) = ko (nI 22) I (va_up F 47 (va_cpy (F 59) (F 47) (22 * u) 0 22)) := by
  intro m
  induction m with
  | zero =>
    intro i n h1 h2
    match n, h2 with
    | n + 1, _ =>
      have : i = 22 := by omega
      subst this
      rw [f_X10_undo_22, if_pos (by decide)]
  | succ m ih =>
    intro i n h1 h2
    match n, h2 with
    | n + 1, h2 =>
      have := ih (i + 1) n (by omega) (by omega)
      rw [f_X10_undo_22, e34, pk_mul, nI_add]
      simp (disch := omega) only [nle, if_neg (show ¬ 22 ≤ i by omega), vin_t, cond_true, nI_clamp, lt_e, nI_1, up_uu, up_s]
      rw [show va_up F 47 (va_cpy (F 59) (F 47) (22 * u) 0 i) 59 (22 * u + i) = F 59 (22 * u + i) by rw [up_n (by decide)]]
      have e := cpy_s (f := F 59) (g := F 47) (22 * u) 0 i
      rw [Nat.zero_add] at e
      rw [e]
      exact this
theorem sim_undo : ab_Sim Inv f_X9_undo f_X10_undo := by
  intro I F h
  have h0 := h
  obtain ⟨t, L, C, R, u, o, q, g, bb, hT, ⟨hL, hC, hR, e9, e10, e11, e22, e23, e24⟩, hPL, hQ, hV, hS, hD, ⟨hu, ho, e12, e13, e34, hE⟩, hM, hN⟩ := h
  by_cases hz : u = 0
  · subst hz
    refine ⟨-1000000003, I, F, I, F, ?_, ?_, h0⟩
    · unfold f_X9_undo
      rw [if_neg (by rw [e13]; decide)]
    · unfold f_X10_undo
      rw [if_neg (by rw [e34]; decide)]
  · have hm : (o + (u - 1)) % 20 < 20 := Nat.mod_lt _ (by decide)
    have e1 : f_X9_undo I F = some (nI (u - 1), va_up I 13 (nI (u - 1)), va_up F 22 (va_cpy (F 23) (F 22) ((o + (u - 1)) % 20 * 20) 0 20)) := by
      unfold f_X9_undo f_X4_restoreLatest
      rw [e13]
      simp (disch := omega) only [n0eq, if_pos hz, nle0, if_neg (show ¬ u ≤ 0 by omega), lp_n ho hu (show 1 ≤ u by omega) e12 e13, bd_s]
      rw [← nI_0, cg_t (by omega) (by omega) (by decide) (by decide), cond_true, nI_clamp (by omega), e13, show nI u - 1 = nI u - nI 1 from rfl, pk_sub (by omega), bd_s]
      rfl
    have e2 : f_X10_undo (va_up I 13 (nI (u - 1))) (va_up F 22 (va_cpy (F 23) (F 22) ((o + (u - 1)) % 20 * 20) 0 20)) = some (nI (u - 1), va_up (va_up I 13 (nI (u - 1))) 34 (nI (u - 1)), va_up (va_up F 22 (va_cpy (F 23) (F 22) ((o + (u - 1)) % 20 * 20) 0 20)) 47 (va_cpy (F 59) (F 47) (22 * (u - 1)) 0 22)) := by
      unfold f_X10_undo
      have e : va_up I 13 (nI (u - 1)) 34 = nI u := e34
      rw [e]
      simp (disch := omega) only [n0eq, if_pos hz, lt_e]
      rw [show nI u - 1 = nI u - nI 1 from rfl, pk_sub (by omega)]
      have := und22 (I := va_up (va_up I 13 (nI (u - 1))) 34 (nI (u - 1))) (F := va_up F 22 (va_cpy (F 23) (F 22) ((o + (u - 1)) % 20 * 20) 0 20)) (ko := fun _ I F => some (I 34, I, F)) (u := u - 1) (by omega) rfl 22 0 ab_fu rfl (by decide)
      rw [cpy_0, up_id, nI_0] at this
      exact this
    have hj := hE (u - 1) (by omega)
    refine ⟨_, _, _, _, _, e1, e2, t, L, C, R, u - 1, o, q, g, bb, hT, ⟨hL, hC, hR, e9, e10, e11, e22, e23, e24⟩, hPL, hQ, hV, ?_, ?_, ⟨by omega, ho, e12, rfl, rfl, fun j hj => hE j (by omega)⟩, hM, hN⟩
    · refine SR_cong hL hC hj ?_ ?_
      · intro i hi
        show va_cpy (F 23) (F 22) ((o + (u - 1)) % 20 * 20) 0 20 i = _
        rw [cpy_in (by omega) (by omega), Nat.sub_zero]
      · intro i hi
        show va_cpy (F 59) (F 47) (22 * (u - 1)) 0 22 i = _
        rw [cpy_in (by omega) (by omega), Nat.sub_zero]
    · have e20 : va_cpy (F 23) (F 22) ((o + (u - 1)) % 20 * 20) 0 20 20 = F 22 20 := cpy_out (by omega)
      refine ⟨?_, ?_⟩
      · show I 25 = va_cpy (F 23) (F 22) ((o + (u - 1)) % 20 * 20) 0 20 20
        rw [e20]; exact hD.1
      · show ∃ a, a < 2 ^ 31 ∧ va_cpy (F 23) (F 22) ((o + (u - 1)) % 20 * 20) 0 20 20 = nI a
        rw [e20]; exact hD.2
