/-! a state's two pictures depend on these places alone -/
theorem pt_cong {r r' : Nat → Int32} : ∀ n, (∀ c, c < n → r' (12 + c) = r (12 + c)) → pt r' n = pt r n
  | 0, _ => rfl
  | n + 1, h => by
    simp only [pt]
    rw [pt_cong n (fun c hc => h c (by omega)), h n (by omega)]
theorem nt_cong {r r' : Nat → Int32} : ∀ n, (∀ c, c < n → r' (12 + c) = r (12 + c)) → nt r' n = nt r n
  | 0, _ => rfl
  | n + 1, h => by
    simp only [nt]
    rw [nt_cong n (fun c hc => h c (by omega)), h n (by omega)]
theorem SR_cong {L C : Nat} {T r w r' w' : Nat → Int32} (hL : L ≤ 6) (hC : C ≤ 6) (h : SR L C T r w) (hr : ∀ j, j < 20 → r' j = r j) (hw : ∀ j, j < 22 → w' j = w j) : SR L C T r' w' := by
  obtain ⟨a1, a2, a3, a4, a5, a6, a7, a8, a9, b1, b2⟩ := h
  refine ⟨?_, ?_, ?_, ?_, ?_, ?_, ?_, ?_, ?_, ?_, ?_⟩
  · intro k hk
    rw [hr k (by omega), hw k (by omega)]
    exact a1 k hk
  · intro k hk
    rw [hr (6 + k) (by omega), hw (6 + k) (by omega)]
    exact a2 k hk
  · intro k h1 h2
    rw [hr (6 + k) (by omega)]
    exact a3 k h1 h2
  · intro c hc
    rw [hr (12 + c) (by omega), hw (12 + c) (by omega), hr 19 (by omega)]
    exact a4 c hc
  · intro c h1 h2
    rw [hr (12 + c) (by omega)]
    exact a5 c h1 h2
  · rw [hr 18 (by omega)]; exact a6
  · rw [hr 18 (by omega), hw 18 (by omega)]; exact a7
  · rw [hr 19 (by omega)]; exact a8
  · rw [hr 19 (by omega), hw 19 (by omega)]; exact a9
  · rw [hw 20 (by omega), b1]
    exact (pt_cong 6 (fun c hc => hr (12 + c) (by omega))).symm
  · rw [hw 21 (by omega), b2]
    exact (nt_cong 6 (fun c hc => hr (12 + c) (by omega))).symm
theorem SR_20 {L C : Nat} {T r w : Nat → Int32} {x : Int32} (hL : L ≤ 6) (hC : C ≤ 6) (h : SR L C T r w) : SR L C T (upd r 20 x) w := SR_cong hL hC h (fun j hj => pk_un (by omega)) (fun _ _ => rfl)
