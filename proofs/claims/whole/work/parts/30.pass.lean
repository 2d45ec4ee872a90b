/-! seasons -/
theorem SR_T {L C : Nat} {T r w : Nat → Int32} (h : SR L C T r w) : SR L C (fun _ => -1) r w := by
  obtain ⟨a1, a2, a3, a4, a5, a6, a7, ⟨s, hs, es⟩, a9, b1, b2⟩ := h
  refine ⟨a1, a2, a3, ?_, a5, a6, a7, ⟨s, hs, es⟩, a9, b1, b2⟩
  intro c hc
  obtain ⟨c1, c2⟩ := a4 c hc
  refine ⟨c1, c2.imp id fun ⟨a, h1, h2, _⟩ => ⟨a, h1, h2, ?_⟩⟩
  rw [es]
  exact Int32.lt_of_lt_of_le (show (-1 : Int32) < 0 by decide) (nI_pos' (by omega))
theorem SR_T' {L C : Nat} {T r w : Nat → Int32} (h : SR L C (fun _ => -1) r w) (hT : ∀ c, c < C → r (12 + c) = -1 ∨ T c < r 19) : SR L C T r w := by
  obtain ⟨a1, a2, a3, a4, a5, a6, a7, a8, a9, b1, b2⟩ := h
  refine ⟨a1, a2, a3, ?_, a5, a6, a7, a8, a9, b1, b2⟩
  intro c hc
  obtain ⟨c1, c2⟩ := a4 c hc
  refine ⟨c1, ?_⟩
  rcases hT c hc with q | q
  · exact Or.inl q
  · exact c2.imp id fun ⟨a, h1, h2, _⟩ => ⟨a, h1, h2, q⟩
theorem pt_up {r : Nat → Int32} {c : Nat} {x : Int32} (h : r (12 + c) = -1) : ∀ n, pt (upd r (12 + c) x) n = if c < n then pt r n + (if 0 < x then x else 0) else pt r n
  | 0 => rfl
  | n + 1 => by
    rw [pt, pt, pt_up h n]
    by_cases h1 : c < n
    · rw [if_pos h1, if_pos (show c < n + 1 by omega), pk_un (show ¬ 12 + n = 12 + c by omega), Int32.add_assoc, Int32.add_comm (if 0 < x then x else 0), ← Int32.add_assoc]
    · by_cases h2 : c = n
      · subst h2
        rw [if_neg h1, if_pos (show c < c + 1 by omega), pk_us, h, if_neg (show ¬ (0 : Int32) < -1 by decide), Int32.add_zero]
      · rw [if_neg h1, if_neg (show ¬ c < n + 1 by omega), pk_un (show ¬ 12 + n = 12 + c by omega)]
theorem nt_up {r : Nat → Int32} {c : Nat} {x : Int32} (h : r (12 + c) = -1) : ∀ n, nt (upd r (12 + c) x) n = if c < n ∧ x = 0 then nt r n ||| ((1 : Int32) <<< (nI c &&& 31)) else nt r n
  | 0 => by
    rw [if_neg (show ¬ (c < 0 ∧ x = 0) by omega)]
    rfl
  | n + 1 => by
    rw [nt, nt, nt_up h n]
    by_cases h2 : n = c
    · subst h2
      rw [pk_us, h, if_pos (show ¬ (-1 : Int32) = 0 by decide), if_neg (show ¬ (n < n ∧ x = 0) by omega)]
      by_cases hx : x = 0
      · rw [if_neg (not_not_intro hx), if_pos ⟨by omega, hx⟩]
      · rw [if_pos hx, if_neg (fun z => hx z.2)]
    · rw [pk_un (show ¬ 12 + n = 12 + c by omega)]
      by_cases q : c < n ∧ x = 0
      · rw [if_pos q, if_pos (show c < n + 1 ∧ x = 0 from ⟨by omega, q.2⟩)]
        by_cases z : r (12 + n) = 0
        · rw [if_neg (not_not_intro z), if_neg (not_not_intro z), Int32.or_assoc, Int32.or_comm ((1 : Int32) <<< (nI c &&& 31)), ← Int32.or_assoc]
        · rw [if_pos z, if_pos z]
      · rw [if_neg q, if_neg (show ¬ (c < n + 1 ∧ x = 0) from fun z => q ⟨by omega, z.2⟩)]
theorem SR_pay {L C c v : Nat} {r w : Nat → Int32} (hL : L ≤ 6) (hC : C ≤ 6) (h : SR L C (fun _ => -1) r w) (hc : c < C) (hr : r (12 + c) = -1) (hv : v ≤ 7450) :
    SR L C (fun _ => -1) (upd r (12 + c) (nI v)) (upd (upd (upd w (12 + c) (nI v)) 20 (w 20 + nI v)) 21 (w 21 ||| (if ¬ nI v = 0 then 0 else ((1 : Int32) <<< (nI c &&& 31))))) := by
  obtain ⟨a1, a2, a3, a4, a5, a6, a7, ⟨s, hs, es⟩, a9, b1, b2⟩ := h
  have z : ∀ j, ¬ j = 12 + c → upd r (12 + c) (nI v) j = r j := fun j hj => pk_un hj
  have y : ∀ j, ¬ j = 12 + c → ¬ j = 20 → ¬ j = 21 → upd (upd (upd w (12 + c) (nI v)) 20 (w 20 + nI v)) 21 (w 21 ||| (if ¬ nI v = 0 then 0 else ((1 : Int32) <<< (nI c &&& 31)))) j = w j := fun j h1 h2 h3 => by rw [pk_un h3, pk_un h2, pk_un h1]
  refine ⟨?_, ?_, ?_, ?_, ?_, ?_, ?_, ?_, ?_, ?_, ?_⟩
  · intro j hj
    rw [z _ (by omega), y _ (by omega) (by omega) (by omega)]; exact a1 j hj
  · intro j hj
    rw [z _ (by omega), y _ (by omega) (by omega) (by omega)]; exact a2 j hj
  · intro j q1 q2
    rw [z _ (by omega)]; exact a3 j q1 q2
  · intro j hj
    rw [z 19 (by omega)]
    by_cases e : j = c
    · subst e
      rw [pk_us, pk_un (by omega), pk_un (by omega), pk_us]
      refine ⟨rfl, Or.inr ⟨v, hv, rfl, ?_⟩⟩
      rw [es]
      exact Int32.lt_of_lt_of_le (show (-1 : Int32) < 0 by decide) (nI_pos' (by omega))
    · rw [z _ (by omega), y _ (by omega) (by omega) (by omega)]; exact a4 j hj
  · intro j q1 q2
    rw [z _ (by omega)]; exact a5 j q1 q2
  · rw [z _ (by omega)]; exact a6
  · rw [z _ (by omega), y _ (by omega) (by omega) (by omega)]; exact a7
  · rw [z _ (by omega)]; exact ⟨s, hs, es⟩
  · rw [z _ (by omega), y _ (by omega) (by omega) (by omega)]; exact a9
  · rw [pk_un (by decide), pk_us, b1, pt_up hr, if_pos (by omega)]
    congr 1
    simp (disch := omega) only [n0gt]
    by_cases q : 0 < v
    · rw [if_pos q]
    · rw [if_neg q, show v = 0 by omega]
      rfl
  · rw [pk_us, b2, nt_up hr]
    by_cases q : nI v = 0
    · rw [if_neg (not_not_intro q), if_pos ⟨by omega, q⟩]
    · rw [if_pos q, if_neg (fun x => q x.2), Int32.or_zero]
theorem SR_tick {L C s : Nat} {r w : Nat → Int32} (hL : L ≤ 6) (hC : C ≤ 6) (h : SR L C (fun _ => -1) r w) (es : r 19 = nI s) (hs : s ≤ 9039) : SR L C (fun _ => -1) (upd r 19 (nI (s + 1))) (upd w 19 (nI (s + 1))) := by
  obtain ⟨a1, a2, a3, a4, a5, a6, a7, a8, a9, b1, b2⟩ := h
  have z : ∀ (f : Nat → Int32) j, ¬ j = 19 → upd f 19 (nI (s + 1)) j = f j := fun f j hj => pk_un hj
  refine ⟨?_, ?_, ?_, ?_, ?_, ?_, ?_, ?_, ?_, ?_, ?_⟩
  · intro j hj
    rw [z _ _ (by omega), z _ _ (by omega)]; exact a1 j hj
  · intro j hj
    rw [z _ _ (by omega), z _ _ (by omega)]; exact a2 j hj
  · intro j q1 q2
    rw [z _ _ (by omega)]; exact a3 j q1 q2
  · intro j hj
    rw [z _ (12 + j) (by omega), z _ (12 + j) (by omega), pk_us]
    obtain ⟨c1, c2⟩ := a4 j hj
    exact ⟨c1, c2.imp id fun ⟨a, h1, h2, _⟩ => ⟨a, h1, h2, Int32.lt_of_lt_of_le (show (-1 : Int32) < 0 by decide) (nI_pos' (by omega))⟩⟩
  · intro j q1 q2
    rw [z _ _ (by omega)]; exact a5 j q1 q2
  · rw [z _ _ (by omega)]; exact a6
  · rw [z _ _ (by omega), z _ _ (by omega)]; exact a7
  · rw [pk_us]; exact ⟨s + 1, by omega, rfl⟩
  · rw [pk_us, pk_us]
  · rw [z _ _ (by omega), b1]; exact (pt_cong 6 (fun c _ => z _ _ (by omega))).symm
  · rw [z _ _ (by omega), b2]; exact (nt_cong 6 (fun c _ => z _ _ (by omega))).symm
theorem mz_cong {L : Nat} {F G : AF} (hL : L ≤ 6) (a s : Nat) (h13 : G 13 = F 13) (h14 : G 14 = F 14) (h : ∀ j, j < 12 → G 22 j = F 22 j) (hh : ∀ k, k < L → F 14 k = -1 ∨ ∃ j, j < L ∧ F 14 k = nI j) : ∀ (m : Nat) (x : Int32), (x = -1 ∨ ∃ k, k < L ∧ x = nI k) → mz G a s m x = mz F a s m x
  | 0, _, _ => rfl
  | m + 1, x, hx => by
    rw [mz, mz]
    rcases hx with hx | ⟨k, hk, hx⟩
    · rw [if_pos hx, if_pos hx]
    · subst hx
      simp (disch := omega) only [nI_clamp]
      rw [h (6 + k) (by omega), h14, mz_cong hL a s h13 h14 h hh m (F 14 k) (hh k hk)]
      have e : om G k s = om F k s := by
        unfold om
        rw [h k (by omega), h13]
      rw [e]
theorem ms_cong {L k : Nat} {F G : AF} (hL : L ≤ 6) (hk : k < L) (a s : Nat) (h13 : G 13 = F 13) (h14 : G 14 = F 14) (h : ∀ j, j < 12 → G 22 j = F 22 j) (hh : ∀ k, k < L → F 14 k = -1 ∨ ∃ j, j < L ∧ F 14 k = nI j) : ms G a k s = ms F a k s := mz_cong hL a s h13 h14 h hh 7 (nI k) (Or.inr ⟨k, hk, rfl⟩)
/-- one season: the class at F, the reference at H -/
theorem pass_l {L C a s : Nat} {I J : AI} {F H : AF} {kx km : Int32 → AI → AF → AQ} (hL : L ≤ 6) (hC : C ≤ 6) (e10 : I 10 = nI C) (e23 : J 23 = nI C) (hP : PL L (F 13) (F 14) (H 38) (H 39)) (hQ : PQ L C (F 15) (F 16) (F 17) (H 40) (H 41) (H 42)) (ha : a < 2 ^ L) (hs : s ≤ 9040) :
    ∀ (m i n n' : Nat) (r w : Nat → Int32), i + m = C → m < n → m < n' → r 18 = nI a → r 19 = nI s → SR L C (fun _ => -1) r w → (∀ c, c < C → r (12 + c) = -1 ∨ F 15 c < nI s ∨ (c < i ∧ F 15 c = nI s)) →
    ∃ r' w', f_X8_passSeason_2 kx n (nI i) I (va_up F 22 r) = kx (nI C) I (va_up F 22 r') ∧ f_X10_pass_2 km n' (nI i) J (va_up H 47 w) = km (nI C) J (va_up H 47 w') ∧ r' 18 = nI a ∧ r' 19 = nI s ∧ r' 20 = r 20 ∧ SR L C (fun _ => -1) r' w' ∧ (∀ c, c < C → r' (12 + c) = -1 ∨ F 15 c < nI (s + 1)) := by
  intro m
  induction m with
  | zero =>
    intro i n n' r w h1 h2 h3 hr18 hr19 hS hT
    match n, n', h2, h3 with
    | n + 1, n' + 1, _, _ =>
      rw [f_X8_passSeason_2, f_X10_pass_2]
      have : i = C := by omega
      subst this
      simp (disch := omega) only [e10, e23, nle, if_pos (Nat.le_refl i)]
      refine ⟨r, w, rfl, rfl, hr18, hr19, rfl, hS, fun c hc => ?_⟩
      obtain ⟨-, -, -, ⟨t, ht, et⟩, -⟩ := hQ c hc
      rcases hT c hc with q | q | ⟨-, q⟩
      · exact Or.inl q
      · right
        rw [et, nlt (by omega) (by omega)] at q ⊢
        omega
      · right
        rw [et, neq (by omega) (by omega)] at q
        rw [et, nlt (by omega) (by omega)]
        omega
  | succ m ih =>
    intro i n n' r w h1 h2 h3 hr18 hr19 hS hT
    match n, n', h2, h3 with
    | n + 1, n' + 1, h2, h3 =>
      have hi : i < C := by omega
      obtain ⟨v1, v2, v3, ⟨t, ht, et⟩, ⟨k, hk, ek⟩, ⟨tm, ht1, ht2, etm⟩⟩ := hQ i hi
      have v1' := v1.trans et
      have v2' := v2.trans ek
      have v3' := v3.trans etm
      have w19 : w 19 = nI s := hS.2.2.2.2.2.2.2.2.1.trans hr19
      rw [f_X8_passSeason_2, f_X10_pass_2]
      rw [show va_up F 22 r 15 = F 15 from rfl, show va_up H 47 w 40 = H 40 from rfl, up_s, up_s, show va_up H 47 w 41 = H 41 from rfl, show va_up H 47 w 42 = H 42 from rfl]
      simp (disch := omega) only [e10, e23, nle, if_neg (show ¬ C ≤ i by omega), vin_t, cond_true, nI_clamp, et, v1', v2', v3', hr19, w19, neq, nI_1]
      by_cases q : t = s
      · rw [if_neg (not_not_intro q), if_neg (not_not_intro q)]
        have hrm : r (12 + i) = -1 := by
          rcases hT i hi with z | z | ⟨z, -⟩
          · exact z
          · rw [et, nlt (by omega) (by omega)] at z
            omega
          · omega
        have hSg : SR L C (va_up (va_up F 22 r) 15 (fun _ => -1) 15) (va_up (va_up F 22 r) 15 (fun _ => -1) 22) (va_up H 47 w 47) := hS
        have hPg : PL L (va_up (va_up F 22 r) 15 (fun _ => -1) 13) (va_up (va_up F 22 r) 15 (fun _ => -1) 14) (va_up H 47 w 38) (va_up H 47 w 39) := hP
        have hms : ms (va_up (va_up F 22 r) 15 (fun _ => -1)) a k s = ms (va_up F 22 r) a k s := ms_cong hL hk a s rfl rfl (fun _ _ => rfl) (PL_h hP)
        obtain ⟨p, hp, ep⟩ := ms_bd (a := a) s hL hPg hSg hk
        have hx := X_pay (I := I) (F := va_up F 22 r) (c := i) hL hC hr18 ha (show s < 2 ^ 30 by omega) (PL_h hP) hk ek hi
        have hm := M_now (I := J) (F := va_up H 47 w) hL (show va_up (va_up F 22 r) 15 (fun _ => -1) 22 18 = nI a from hr18) ha (show va_up (va_up F 22 r) 15 (fun _ => -1) 22 19 = nI s from hr19) hs hPg hSg hk
        rw [← hms, ep, show va_up F 22 r 17 i = nI tm from etm, pk_mul] at hx
        rw [ep] at hm
        have hmul : tm * p ≤ 50 * 149 := Nat.mul_le_mul ht2 hp
        rw [hx, hm]
        simp only [bd_s, lt_e]
        rw [pk_mul, nI_add]
        simp (disch := omega) only [vin_t, cond_true, nI_clamp, up_s, up_uu, lt_e]
        have hS' := SR_pay hL hC hS hi hrm (show tm * p ≤ 7450 by omega)
        have g1 : upd w (12 + i) (nI (tm * p)) 20 = w 20 := pk_un (by omega)
        have g2 : upd (upd w (12 + i) (nI (tm * p))) 20 (w 20 + nI (tm * p)) 21 = w 21 := by rw [pk_un (by decide), pk_un (by omega)]
        rw [g1, g2]
        have hih := ih (i + 1) n n' (upd r (12 + i) (nI (tm * p))) (upd (upd (upd w (12 + i) (nI (tm * p))) 20 (w 20 + nI (tm * p))) 21 (w 21 ||| (if ¬ nI (tm * p) = 0 then 0 else ((1 : Int32) <<< (nI i &&& 31))))) (by omega) (by omega) (by omega) (by rw [pk_un (by omega)]; exact hr18) (by rw [pk_un (by omega)]; exact hr19) hS' (by
          intro c hc
          by_cases e : c = i
          · subst e
            right; right
            exact ⟨by omega, by rw [et, q]⟩
          · rw [pk_un (by omega)]
            rcases hT c hc with z | z | ⟨z1, z2⟩
            · exact Or.inl z
            · exact Or.inr (Or.inl z)
            · exact Or.inr (Or.inr ⟨by omega, z2⟩))
        obtain ⟨r', w', k1, k2, k3, k4, k5, k6, k7⟩ := hih
        refine ⟨r', w', k1, ?_, k3, k4, ?_, k6, k7⟩
        · by_cases z : nI (tm * p) = 0
          · rw [if_neg (not_not_intro z)]
            rw [if_neg (not_not_intro z)] at k2
            exact k2
          · rw [if_pos z]
            rw [if_pos z] at k2
            exact k2
        · rw [k5, pk_un (by omega)]
      · rw [if_pos q, if_pos q]
        exact ih (i + 1) n n' r w (by omega) (by omega) (by omega) hr18 hr19 hS (fun c hc => by
          rcases hT c hc with z | z | ⟨z1, z2⟩
          · exact Or.inl z
          · exact Or.inr (Or.inl z)
          · exact Or.inr (Or.inr ⟨by omega, z2⟩))
theorem pass_b {L C s : Nat} {I J : AI} {F H : AF} {r w : Nat → Int32} (hL : L ≤ 6) (hC : C ≤ 6) (e10 : I 10 = nI C) (e23 : J 23 = nI C) (hP : PL L (F 13) (F 14) (H 38) (H 39)) (hQ : PQ L C (F 15) (F 16) (F 17) (H 40) (H 41) (H 42)) (hs : s ≤ 9039) (hr19 : r 19 = nI s) (hS : SR L C (F 15) r w) :
    ∃ r' w', f_X8_passSeason I (va_up F 22 r) = some (0, I, va_up F 22 r') ∧ f_X10_pass J (va_up H 47 w) = some (0, J, va_up H 47 w') ∧ r' 19 = nI (s + 1) ∧ r' 20 = r 20 ∧ SR L C (F 15) r' w' := by
  obtain ⟨a, s2, ha, ea, -, -, es, -⟩ := SR_a hS
  have hT : ∀ c, c < C → r (12 + c) = -1 ∨ F 15 c < nI s ∨ (c < 0 ∧ F 15 c = nI s) := fun c hc => by
    rcases (hS.2.2.2.1 c hc).2 with z | ⟨_, _, _, z⟩
    · exact Or.inl z
    · rw [hr19] at z
      exact Or.inr (Or.inl z)
  obtain ⟨r', w', k1, k2, k3, k4, k5, k6, k7⟩ := pass_l (I := I) (J := J) (kx := fun v2_567 I568 F569 =>
    some (0, I568, (va_up F569 22 (upd (F569 22) 19 (((F569 22) 19) + (1 : Int32)))))) (km := fun v1_1708 I1709 F1710 =>
    some (0, I1709, (va_up F1710 47 (upd (F1710 47) 19 (((F1710 47) 19) + (1 : Int32)))))) hL hC e10 e23 hP hQ ha (show s ≤ 9040 by omega) C 0 ab_fu ab_fu r w (by omega) (by unfold ab_fu; omega) (by unfold ab_fu; omega) ea hr19 (SR_T hS) hT
  have k19 : w' 19 = nI s := k6.2.2.2.2.2.2.2.2.1.trans k4
  rw [up_s, up_uu, k4, nI_1] at k1
  rw [up_s, up_uu, k19, nI_1] at k2
  refine ⟨_, _, k1, k2, pk_us, ?_, ?_⟩
  · rw [pk_un (by decide), k5]
  · refine SR_T' (SR_tick hL hC k6 k4 hs) ?_
    intro c hc
    rw [pk_un (by omega), pk_us]
    exact k7 c hc
