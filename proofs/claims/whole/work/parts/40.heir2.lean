/-- the class's scratch arrays of the heirs -/
def hw (F : AF) (x y z : Nat → Int32) : AF := va_up (va_up (va_up F 35 x) 36 y) 37 z
theorem hw_35 {F : AF} {x y z w : Nat → Int32} : va_up (hw F x y z) 35 w = hw F w y z := by
  funext j
  unfold hw va_up
  by_cases h : j = 35
  · subst h
    rfl
  · rw [if_neg h, if_neg h, if_neg h]
theorem hw_36 {F : AF} {x y z w : Nat → Int32} : va_up (hw F x y z) 36 w = hw F x w z := by
  funext j
  unfold hw va_up
  by_cases h : j = 36
  · subst h
    rfl
  · rw [if_neg h, if_neg h, if_neg h]
theorem hw_37 {F : AF} {x y z w : Nat → Int32} : va_up (hw F x y z) 37 w = hw F x y w := by
  funext j
  unfold hw va_up
  by_cases h : j = 37
  · subst h
    rfl
  · rw [if_neg h, if_neg h, if_neg h]
theorem hw_r5 {F : AF} {x y z : Nat → Int32} : hw F x y z 35 = x := rfl
theorem hw_r6 {F : AF} {x y z : Nat → Int32} : hw F x y z 36 = y := rfl
theorem hw_r7 {F : AF} {x y z : Nat → Int32} : hw F x y z 37 = z := rfl
theorem hw_22 {F : AF} {x y z : Nat → Int32} : hw F x y z 22 = F 22 := rfl
theorem hw_id (F : AF) : hw F (F 35) (F 36) (F 37) = F := by
  unfold hw
  rw [up_id, show F 36 = (va_up F 35 (F 35)) 36 from rfl, up_id, up_id, up_id]
theorem pcn6 (a : Nat) (j : Nat) (h : j ≤ 6) : pcn a j ≤ 6 := Nat.le_trans (pcn_le a j) h
theorem hr_s7 {a : Nat} {I : AI} {F : AF} {g5 : Nat → Int32} {ko : Int32 → AI → AF → AQ} (ea : F 22 18 = nI a) (ha : a < 2 ^ 31) :
    ∀ (t j n : Nat) (g6 g7 : Nat → Int32), j + t = 6 → t < n → (∀ i, i < j → g6 i = -1) → (∀ i, i < j → a.testBit i = true → g7 (pcn a i) = nI i) →
      ∃ g6' g7', f_X1_search_7 ko n (nI j) (va_up I 21 (nI (pcn a j))) (hw F g5 g6 g7) = ko (nI 6) (va_up I 21 (nI (pcn a 6))) (hw F g5 g6' g7') ∧ (∀ i, i < 6 → g6' i = -1) ∧ ∀ i, i < 6 → a.testBit i = true → g7' (pcn a i) = nI i := by
  intro t
  induction t with
  | zero =>
    intro j n g6 g7 h1 h2 h3 h4
    match n, h2 with
    | n + 1, _ =>
      have : j = 6 := by omega
      subst this
      exact ⟨g6, g7, by rw [f_X1_search_7, if_pos (by decide)], h3, h4⟩
  | succ t ih =>
    intro j n g6 g7 h1 h2 h3 h4
    match n, h2 with
    | n + 1, h2 =>
      have hj : j < 6 := by omega
      have p6 := pcn6 a j (by omega)
      have pj := pcn_le a j
      have h3' : ∀ i, i < j + 1 → upd g6 j (-1) i = -1 := by
        intro i hi
        by_cases z : i = j
        · rw [z, pk_us]
        · rw [pk_un z, h3 i (by omega)]
      rw [f_X1_search_7, if_neg (show ¬ nI 6 ≤ nI j by rw [nle (by decide) (by omega)]; omega), vin_t hj (by decide), cond_true, lt_e, nI_clamp (show j < 2 ^ 31 by omega), hw_r6, hw_36, X_lives (F := hw F g5 (upd g6 j (-1)) g7) ea ha (show j < 9 by omega), bd_s]
      cases hb : a.testBit j with
      | false =>
        rw [if_neg Bool.false_ne_true, if_pos rfl, nI_1]
        have := ih (j + 1) n (upd g6 j (-1)) g7 (by omega) (by omega) h3' (by
          intro i hi q
          by_cases z : i = j
          · rw [z, hb] at q
            exact absurd q Bool.false_ne_true
          · exact h4 i (by omega) q)
        rw [pcn, hb, if_neg Bool.false_ne_true] at this
        exact this
      | true =>
        rw [if_pos rfl, if_neg (show ¬ (1 : Int32) = 0 by decide), up_s, vin_t (show pcn a j < 6 by omega) (by decide), cond_true, lt_e, lt_e, up_uu, hw_r7, hw_37, nI_clamp (show pcn a j < 2 ^ 31 by omega), nI_1, nI_1]
        have := ih (j + 1) n (upd g6 j (-1)) (upd g7 (pcn a j) (nI j)) (by omega) (by omega) h3' (by
          intro i hi q
          by_cases z : i = j
          · rw [z, pk_us]
          · have := pcn_lt (a := a) (show i < j by omega) q
            rw [pk_un (by omega), h4 i (by omega) q])
        rw [pcn, hb, if_pos rfl] at this
        exact this
/-- what the class's tables hold -/
def HT (a : Nat) (l : Nat → Nat) (I : AI) (F : AF) : Prop := a < 64 ∧ I 21 = nI (pcn a 6) ∧ (∀ i, i < 6 → a.testBit i = true → F 37 (pcn a i) = nI i ∧ F 22 i = nI (l i) ∧ l i ≤ 140)
theorem X_free {a m i j : Nat} {l : Nat → Nat} {I : AI} {F : AF} (h : HT a l I F) (hm : m < 64) (hi : i < 6) (hj : j < 6) (bi : a.testBit i = true) (bj : a.testBit j = true) : f_X1_isFree (nI m) (nI (pcn a j)) (nI (pcn a i)) I F = some ((if hr_fr a m j i then 1 else 0), I, F) := by
  obtain ⟨ha, e21, ht⟩ := h
  have p1 := pcn6 a i (by omega)
  have p2 := pcn6 a j (by omega)
  have p3 := pcn_lt (show i < 6 from hi) bi
  have p4 := pcn6 a 6 (by omega)
  unfold f_X1_isFree hr_fr
  by_cases z : i = j
  · subst z
    rw [if_pos rfl]
    simp
  · have : ¬ pcn a i = pcn a j := by
      intro q
      rcases Nat.lt_or_gt_of_ne z with w | w
      · have := pcn_lt (a := a) w bi
        omega
      · have := pcn_lt (a := a) w bj
        omega
    rw [if_neg (fun q => this ((nI_eq (by omega) (by omega)).mp q)), vin_t (show pcn a i < 6 by omega) (by decide), cond_true, nI_clamp (by omega), (ht i hi bi).1, bit_n (by omega) (by omega), bi]
    cases m.testBit i <;> simp [z]
theorem X_aby {a m i j x : Nat} {l : Nat → Nat} {I : AI} {F : AF} (h : HT a l I F) (hm : m < 64) (hi : i < 6) (hj : j < 6) (bi : a.testBit i = true) (bj : a.testBit j = true) (hf : m.testBit i = false) (hx : x < 2 ^ 30) (e35 : F 35 (m ||| 2 ^ i) = nI x) : f_X1_apartBy (nI m) (nI (pcn a j)) (nI (pcn a i)) I F = some (nI (dn (l j) (l i) + x), I, F) := by
  obtain ⟨ha, e21, ht⟩ := h
  have p1 := pcn6 a i (by omega)
  have p2 := pcn6 a j (by omega)
  have p3 := pcn_lt (show i < 6 from hi) bi
  have p5 := pcn_lt (show j < 6 from hj) bj
  have p4 := pcn6 a 6 (by omega)
  obtain ⟨i1, i2, i3⟩ := ht i hi bi
  obtain ⟨j1, j2, j3⟩ := ht j hj bj
  have b64 := (bits64 m hm i hi hf).2.2
  unfold f_X1_apartBy
  rw [vin_t (show pcn a j < 6 by omega) (by decide), cond_true, nI_clamp (show pcn a j < 2 ^ 31 by omega), j1, X_len (Nat.le_refl 6) hj, bd_s, vin_t (show pcn a i < 6 by omega) (by decide), cond_true, nI_clamp (show pcn a i < 2 ^ 31 by omega), i1, X_len (Nat.le_refl 6) hi, bd_s, i2, j2, X_abs (by omega) (by omega), lt_e, cond_true, i1, sl_k i (by omega), n_or, vin_t b64 (by decide), cond_true, nI_clamp (show m ||| 2 ^ i < 2 ^ 31 by omega), e35, nI_add]
theorem fr_bits {a m j c : Nat} (h : hr_fr a m j c = true) : a.testBit c = true ∧ m.testBit c = false := by
  unfold hr_fr at h
  simp only [Bool.and_eq_true, Bool.not_eq_true'] at h
  exact ⟨h.1.2, h.2⟩
theorem hr_lf {a m j : Nat} {l : Nat → Nat} {I : AI} {F : AF} {ko : Int32 → Int32 → AI → AF → AQ} (h : HT a l I F) (hm : m < 64) (hj : j < 6) (bj : a.testBit j = true)
    (e35 : ∀ c, c < 6 → hr_fr a m j c = true → F 35 (m ||| 2 ^ c) = nI (hr_W a l (5 - j) (m ||| 2 ^ c))) :
    ∀ (t i n : Nat), i + t = 6 → t < n → f_X1_leastFrom_22 (nI m) (nI (pcn a j)) ko n (nI (hr_mn (hr_fr a m j) (fun c => dn (l j) (l c) + hr_W a l (5 - j) (m ||| 2 ^ c)) i)) (nI (pcn a i)) I F = ko (nI (hr_mn (hr_fr a m j) (fun c => dn (l j) (l c) + hr_W a l (5 - j) (m ||| 2 ^ c)) 6)) (nI (pcn a 6)) I F := by
  have p4 := pcn6 a 6 (by omega)
  intro t
  induction t with
  | zero =>
    intro i n h1 h2
    match n, h2 with
    | n + 1, _ =>
      have : i = 6 := by omega
      subst this
      rw [f_X1_leastFrom_22, h.2.1, if_pos (Int32.le_refl _)]
  | succ t ih =>
    intro i n h1 h2
    have hi : i < 6 := by omega
    cases bi : a.testBit i with
    | false =>
      have := ih (i + 1) n (by omega) (by omega)
      have nf : ¬ hr_fr a m j i = true := fun q => by
        rw [(fr_bits q).1] at bi
        exact Bool.false_ne_true bi.symm
      rw [hr_mn, if_neg nf, pcn, bi, if_neg Bool.false_ne_true] at this
      exact this
    | true =>
      match n, h2 with
      | n + 1, h2 =>
        have p3 := pcn_lt (show i < 6 from hi) bi
        have := ih (i + 1) n (by omega) (by omega)
        rw [hr_mn, pcn, bi, if_pos rfl] at this
        rw [f_X1_leastFrom_22, h.2.1, if_neg (show ¬ nI (pcn a 6) ≤ nI (pcn a i) by rw [nle (by omega) (by omega)]; omega), X_free h hm hi hj bi bj, bd_s, nI_1]
        by_cases z : hr_fr a m j i = true
        · have wb := W_bd a l (5 - j) (m ||| 2 ^ i)
          have mb := mn_bd (f := hr_fr a m j) (v := fun c => dn (l j) (l c) + hr_W a l (5 - j) (m ||| 2 ^ c)) i
          have db := dn_ln (h.2.2 j hj bj).2.2 (h.2.2 i hi bi).2.2
          rw [if_pos z] at this
          rw [if_pos z, if_neg (show ¬ (1 : Int32) = 0 by decide), X_aby h hm hi hj bi bj (fr_bits z).2 (by omega) (e35 i hi z), bd_s]
          by_cases w : dn (l j) (l i) + hr_W a l (5 - j) (m ||| 2 ^ i) < hr_mn (hr_fr a m j) (fun c => dn (l j) (l c) + hr_W a l (5 - j) (m ||| 2 ^ c)) i
          · rw [if_pos w] at this
            rw [if_pos ((nI_ltI (by omega) (by omega)).mpr w), lt_e]
            exact this
          · rw [if_neg w] at this
            rw [if_neg (fun q => w ((nI_ltI (by omega) (by omega)).mp q)), lt_e]
            exact this
        · rw [if_neg z] at this
          rw [if_neg z, if_pos rfl]
          exact this
/-- the class's table of the least, whole -/
def HD (a : Nat) (l : Nat → Nat) (g : Nat → Int32) (m : Nat) : Prop := m &&& a = m → ∀ j, j ≤ 6 → pcn a j = pcn m 6 → g m = nI (hr_W a l (6 - j) m)
theorem hr_from {a m : Nat} {l : Nat → Nat} {I : AI} {F : AF} (h : HT a l I F) (hm : m < 64) (hs : m &&& a = m) (hD : ∀ m', m < m' → m' < 64 → HD a l (F 35) m') : ∃ x, f_X1_leastFrom (nI m) I F = some (nI x, I, F) ∧ ∀ j, j ≤ 6 → pcn a j = pcn m 6 → x = hr_W a l (6 - j) m := by
  have p4 := pcn6 a 6 (by omega)
  have p5 := pcn6 m 6 (by omega)
  unfold f_X1_leastFrom
  rw [X_bc hm, bd_s, h.2.1]
  by_cases z : pcn m 6 < pcn a 6
  · obtain ⟨j, j1, j2, j3⟩ := pcn_ex z
    have k := hr_lf (ko := fun r _ I F => some (r, I, F)) h hm j1 j2 (by
      intro c c1 c2
      obtain ⟨f1, f2⟩ := fr_bits c2
      obtain ⟨b1, b2, b3⟩ := bits64 m hm c c1 f2
      have := hD (m ||| 2 ^ c) b2 b3 (sub_s hs f1) (j + 1) (by omega) (by rw [pcn, if_pos j2, j3, b1])
      rw [this, show 6 - (j + 1) = 5 - j by omega]) 6 0 ab_fu rfl (by decide)
    rw [if_pos ((nI_ltI (by omega) (by omega)).mpr z), ← j3]
    refine ⟨_, k, ?_⟩
    intro i i1 i2
    have : i ≤ j := by
      refine Nat.le_of_not_lt (fun q => ?_)
      have := pcn_lt (a := a) q j2
      omega
    rw [W_skip this (by omega) i2, show 6 - j = (5 - j) + 1 by omega, hr_W, show 5 - (5 - j) = j by omega, if_pos j2]
  · rw [if_neg (fun q => z ((nI_ltI (by omega) (by omega)).mp q))]
    refine ⟨0, rfl, ?_⟩
    intro i i1 i2
    have := pcn_mono a i1
    rw [W_skip i1 (Nat.le_refl 6) (by omega)]
    rfl
theorem hr_57 {a : Nat} {l : Nat → Nat} {I : AI} {F : AF} {g6 g7 : Nat → Int32} {ko : Int32 → AI → AF → AQ} (h : ∀ g5, HT a l I (hw F g5 g6 g7)) (ea : F 22 18 = nI a) :
    ∀ (v n : Nat) (g5 : Nat → Int32), v < 64 → v + 1 < n → (∀ m, v < m → m < 64 → HD a l g5 m) → ∃ g5', f_X1_search_57 ko n (nI v) I (hw F g5 g6 g7) = ko (-1) I (hw F g5' g6 g7) ∧ ∀ m, m < 64 → HD a l g5' m := by
  have step : ∀ (v n : Nat) (g5 : Nat → Int32), v < 64 → (∀ m, v < m → m < 64 → HD a l g5 m) → ∃ g5', f_X1_search_57 ko (n + 1) (nI v) I (hw F g5 g6 g7) = f_X1_search_57 ko n (nI v + (-1)) I (hw F g5' g6 g7) ∧ ∀ m, v ≤ m → m < 64 → HD a l g5' m := by
    intro v n g5 hv hD
    have ha := (h g5).1
    rw [f_X1_search_57, if_neg (nI_pos (by omega))]
    unfold f_X8_living
    rw [bd_s, hw_22, ea]
    by_cases z : v &&& a = v
    · rw [if_neg (not_not_intro ((sub64 v hv a ha).mpr z))]
      obtain ⟨x, x1, x2⟩ := hr_from (h g5) hv z hD
      rw [x1, bd_s, vin_t hv (by decide), cond_true, lt_e, nI_clamp (show v < 2 ^ 31 by omega), hw_r5, hw_35]
      refine ⟨_, rfl, ?_⟩
      intro m m1 m2
      by_cases w : m = v
      · subst w
        intro _ j j1 j2
        rw [pk_us, x2 j j1 j2]
      · intro q j j1 j2
        rw [pk_un w]
        exact hD m (by omega) m2 q j j1 j2
    · rw [if_pos (fun q => z ((sub64 v hv a ha).mp q))]
      refine ⟨g5, rfl, ?_⟩
      intro m m1 m2
      by_cases w : m = v
      · subst w
        intro q
        exact absurd q z
      · exact hD m (by omega) m2
  intro v
  induction v with
  | zero =>
    intro n g5 h1 h2 h3
    match n, h2 with
    | n + 2, _ =>
      obtain ⟨g, e1, e2⟩ := step 0 (n + 1) g5 h1 h3
      refine ⟨g, ?_, fun m q => e2 m (Nat.zero_le m) q⟩
      rw [e1, nI_0, Int32.zero_add, f_X1_search_57, if_pos (by decide)]
  | succ v ih =>
    intro n g5 h1 h2 h3
    match n, h2 with
    | n + 1, h2 =>
      obtain ⟨g, e1, e2⟩ := step (v + 1) n g5 h1 h3
      rw [e1, pk_m1]
      exact ih n g (by omega) (by omega) (fun m m1 m2 => e2 m (by omega) m2)
theorem hr_18 {a m j c : Nat} {l : Nat → Nat} {I : AI} {F : AF} {ko : Int32 → Int32 → Int32 → AI → AF → AQ} (h : HT a l I F) (hm : m < 64) (hj : j < 6) (bj : a.testBit j = true)
    (e35 : ∀ c, c < 6 → hr_fr a m j c = true → F 35 (m ||| 2 ^ c) = nI (hr_W a l (5 - j) (m ||| 2 ^ c))) (em : F 35 m = nI (hr_W a l (6 - j) m)) (hc : c < 6) (hf : hr_fr a m j c = true) (he : dn (l j) (l c) + hr_W a l (5 - j) (m ||| 2 ^ c) = hr_W a l (6 - j) m)
    (hn : ∀ d, d < c → hr_fr a m j d = true → ¬ dn (l j) (l d) + hr_W a l (5 - j) (m ||| 2 ^ d) = hr_W a l (6 - j) m) :
    ∀ (t i n : Nat), i + t = c → t + 1 < n → ∃ v, f_X1_chooseAll_18 (nI (pcn a j)) ko n (nI m) 0 (nI (pcn a i)) I F = ko (nI (m ||| 2 ^ c)) 1 v I (va_up F 36 (upd (F 36) j (nI c))) := by
  have p4 := pcn6 a 6 (by omega)
  have pj := pcn_lt (show j < 6 from hj) bj
  have wm := W_bd a l (6 - j) m
  intro t
  induction t with
  | zero =>
    intro i n h1 h2
    have : i = c := by omega
    subst this
    obtain ⟨bi, fi⟩ := fr_bits hf
    match n, h2 with
    | n + 2, _ =>
      have p3 := pcn_lt (show i < 6 from hc) bi
      have wb := W_bd a l (5 - j) (m ||| 2 ^ i)
      refine ⟨nI (pcn a i) + 1, ?_⟩
      rw [f_X1_chooseAll_18, h.2.1, if_neg (show ¬ nI (pcn a 6) ≤ nI (pcn a i) by rw [nle (by omega) (by omega)]; omega), if_neg (show ¬ ¬ (0 : Int32) = 0 by decide), X_free h hm hc hj bi bj, if_pos hf, bd_s, if_neg (show ¬ (1 : Int32) = 0 by decide), X_aby h hm hc hj bi bj fi (by omega) (e35 i hc hf), bd_s, vin_t hm (by decide), cond_true, nI_clamp (show m < 2 ^ 31 by omega), em, he, if_neg (not_not_intro rfl), vin_t (show pcn a j < 6 by omega) (by decide), cond_true, vin_t (show pcn a i < 6 by omega) (by decide), cond_true, nI_clamp (show pcn a j < 2 ^ 31 by omega), nI_clamp (show pcn a i < 2 ^ 31 by omega), (h.2.2 j hj bj).1, (h.2.2 i hc bi).1, vin_t hj (by decide), cond_true, cond_true, lt_e, lt_e, nI_clamp (show j < 2 ^ 31 by omega), sl_k i (by omega), n_or, f_X1_chooseAll_18, if_pos (show ¬ (1 : Int32) = 0 by decide), ite_self]
  | succ t ih =>
    intro i n h1 h2
    have hi : i < 6 := by omega
    cases bi : a.testBit i with
    | false =>
      have := ih (i + 1) n (by omega) (by omega)
      rw [pcn, bi, if_neg Bool.false_ne_true] at this
      exact this
    | true =>
      match n, h2 with
      | n + 1, h2 =>
        have p3 := pcn_lt (show i < 6 from hi) bi
        have := ih (i + 1) n (by omega) (by omega)
        rw [pcn, bi, if_pos rfl] at this
        rw [f_X1_chooseAll_18, h.2.1, if_neg (show ¬ nI (pcn a 6) ≤ nI (pcn a i) by rw [nle (by omega) (by omega)]; omega), if_neg (show ¬ ¬ (0 : Int32) = 0 by decide), X_free h hm hi hj bi bj, bd_s, nI_1]
        by_cases z : hr_fr a m j i = true
        · have wb := W_bd a l (5 - j) (m ||| 2 ^ i)
          have db := dn_ln (h.2.2 j hj bj).2.2 (h.2.2 i hi bi).2.2
          have hn2 := hn i (by omega) z
          rw [if_pos z, if_neg (show ¬ (1 : Int32) = 0 by decide), X_aby h hm hi hj bi bj (fr_bits z).2 (by omega) (e35 i hi z), bd_s, vin_t hm (by decide), cond_true, nI_clamp (show m < 2 ^ 31 by omega), em, if_pos (fun q => hn2 ((nI_eq (by omega) (by omega)).mp q))]
          exact this
        · rw [if_neg z, if_pos rfl]
          exact this
theorem dig_low {c k y e : Nat} (h : e < k) : (c * 6 ^ k + y) / 6 ^ e % 6 = y / 6 ^ e % 6 := by
  obtain ⟨d, rfl⟩ : ∃ d, k = e + (d + 1) := ⟨k - e - 1, by omega⟩
  rw [Nat.pow_add, show c * (6 ^ e * 6 ^ (d + 1)) = 6 ^ e * (c * 6 ^ (d + 1)) from by rw [Nat.mul_left_comm], Nat.mul_add_div (Nat.pow_pos (by decide)), Nat.pow_succ, ← Nat.mul_assoc, Nat.mul_comm _ 6, Nat.mul_add_mod]
theorem hr_all {a : Nat} {l : Nat → Nat} {I : AI} {F : AF} {g5 g7 : Nat → Int32} (h : ∀ g6, HT a l I (hw F g5 g6 g7)) (hD : ∀ m, m < 64 → HD a l g5 m) :
    ∀ (k n m : Nat) (g6 : Nat → Int32), k ≤ 6 → k < n → m < 64 → m &&& a = m → pcn m 6 = pcn a (6 - k) → hr_W a l k m < 1000000 →
      ∃ y g6', hr_1 a l k m y ∧ f_X1_chooseAll_4 (fun _ _ I F => some (0, I, F)) n (nI m) (nI (pcn a (6 - k))) I (hw F g5 g6 g7) = some (0, I, hw F g5 g6' g7) ∧ (∀ i, 6 - k ≤ i → i < 6 → a.testBit i = true → g6' i = nI (y / 6 ^ (5 - i) % 6)) ∧ ∀ i, (i < 6 - k ∨ ¬ a.testBit i = true) → g6' i = g6 i := by
  intro k
  induction k with
  | zero =>
    intro n m g6 h0 h1 h2 h3 h4 h5
    match n, h1 with
    | n + 1, _ =>
      refine ⟨0, g6, hr_1z a l m, ?_, ?_, fun i _ => rfl⟩
      · rw [f_X1_chooseAll_4, (h g6).2.1, if_pos (Int32.le_refl _)]
      · intro i q1 q2
        omega
  | succ k ih =>
    intro n m g6 h0 h1 h2 h3 h4 h5
    have hj : 5 - k < 6 := by omega
    have ej : 6 - (k + 1) = 5 - k := by omega
    have ej2 : 6 - k = (5 - k) + 1 := by omega
    rw [ej] at h4
    cases bj : a.testBit (5 - k) with
    | false =>
      have e2 : pcn a (6 - k) = pcn a (5 - k) := by rw [ej2, pcn, bj, if_neg Bool.false_ne_true]; rfl
      have eW : hr_W a l (k + 1) m = hr_W a l k m := by rw [hr_W, bj, if_neg Bool.false_ne_true]
      rw [eW] at h5
      obtain ⟨y, g6', y1, y2, y3, y4⟩ := ih n m g6 (by omega) (by omega) h2 h3 (by rw [e2]; exact h4) h5
      refine ⟨y, g6', hr_1d bj y1, ?_, ?_, ?_⟩
      · rw [ej, ← e2]
        exact y2
      · intro i q1 q2 q3
        by_cases z : i = 5 - k
        · rw [z, bj] at q3
          exact absurd q3 Bool.false_ne_true
        · exact y3 i (by omega) q2 q3
      · intro i q
        refine y4 i ?_
        rcases q with q | q
        · exact Or.inl (by omega)
        · exact Or.inr q
    | true =>
      match n, h1 with
      | n + 1, h1 =>
        have p4 := pcn6 a 6 (by omega)
        have pj := pcn_lt (show 5 - k < 6 from hj) bj
        have k5 : 5 - (5 - k) = k := by omega
        have k6 : 6 - (5 - k) = k + 1 := by omega
        have eW : hr_W a l (k + 1) m = hr_mn (hr_fr a m (5 - k)) (fun c => dn (l (5 - k)) (l c) + hr_W a l k (m ||| 2 ^ c)) 6 := by rw [hr_W, if_pos bj]
        obtain ⟨c, ⟨c1, c2, c3⟩, c4⟩ := pk_least (fun c => c < 6 ∧ hr_fr a m (5 - k) c = true ∧ dn (l (5 - k)) (l c) + hr_W a l k (m ||| 2 ^ c) = hr_W a l (k + 1) m) (by
          rw [eW] at h5 ⊢
          exact mn_at h5)
        have hn : ∀ d, d < c → hr_fr a m (5 - k) d = true → ¬ dn (l (5 - k)) (l d) + hr_W a l k (m ||| 2 ^ d) = hr_W a l (k + 1) m := fun d d1 d2 d3 => c4 d d1 ⟨by omega, d2, d3⟩
        obtain ⟨f1, f2⟩ := fr_bits c2
        obtain ⟨b1, b2, b3⟩ := bits64 m h2 c c1 f2
        have e35 : ∀ c, c < 6 → hr_fr a m (5 - k) c = true → g5 (m ||| 2 ^ c) = nI (hr_W a l (5 - (5 - k)) (m ||| 2 ^ c)) := by
          intro d d1 d2
          obtain ⟨f1, f2⟩ := fr_bits d2
          obtain ⟨b1, b2, b3⟩ := bits64 m h2 d d1 f2
          have := hD (m ||| 2 ^ d) b3 (sub_s h3 f1) (5 - k + 1) (by omega) (by rw [pcn, if_pos bj, b1, h4])
          rw [this, show 6 - (5 - k + 1) = 5 - (5 - k) by omega]
        have em : g5 m = nI (hr_W a l (6 - (5 - k)) m) := hD m h2 h3 (5 - k) (by omega) h4.symm
        have e4 := hr_18 (ko := fun v2 _ _ I F => f_X1_chooseAll_4 (fun _ _ I F => some (0, I, F)) n v2 (nI (pcn a (5 - k)) + 1) I F) (h g6) h2 hj bj e35 em c1 c2 (by rw [k5, k6]; exact c3) (by rw [k5, k6]; exact hn) c 0 ab_fu (Nat.zero_add c) (Nat.lt_of_lt_of_le (show c + 1 < 8 by omega) (by decide))
        obtain ⟨v, e4⟩ := e4
        obtain ⟨y, g6', y1, y2, y3, y4⟩ := ih n (m ||| 2 ^ c) (upd g6 (5 - k) (nI c)) (by omega) (by omega) b3 (sub_s h3 f1) (by rw [b1, h4, ej2, pcn, if_pos bj]) (by omega)
        refine ⟨c * 6 ^ k + y, g6', hr_1s bj c1 c2 c3 hn y1, ?_, ?_, ?_⟩
        · rw [ej, f_X1_chooseAll_4, (h g6).2.1, if_neg (show ¬ nI (pcn a 6) ≤ nI (pcn a (5 - k)) by rw [nle (by omega) (by omega)]; omega)]
          refine e4.trans ?_
          show f_X1_chooseAll_4 _ n _ (nI (pcn a (5 - k)) + 1) I _ = _
          rw [hw_r6, hw_36, nI_1]
          rw [ej2, pcn, if_pos bj] at y2
          exact y2
        · intro i q1 q2 q3
          by_cases z : i = 5 - k
          · rw [z, y4 (5 - k) (Or.inl (by omega)), pk_us, k5, Nat.mul_comm, Nat.mul_add_div (Nat.pow_pos (by decide)), Nat.div_eq_of_lt y1.1, Nat.add_zero, Nat.mod_eq_of_lt c1]
          · rw [y3 i (by omega) q2 q3, dig_low (by omega)]
        · intro i q
          have : ¬ i = 5 - k := by
            intro z
            rcases q with q | q
            · omega
            · rw [z] at q
              exact q bj
          rw [y4 i (by
            rcases q with q | q
            · exact Or.inl (by omega)
            · exact Or.inr q), pk_un this]
