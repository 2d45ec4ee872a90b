/-! stub, dies, copy -/
theorem n_and (a : Nat) (ha : a < 2 ^ 31) (y : Int32) : nI a &&& y = nI (a &&& y.toBitVec.toNat) := by
  apply Int32.toBitVec_inj.mp
  show (nI a).toBitVec &&& y.toBitVec = (nI (a &&& y.toBitVec.toNat)).toBitVec
  apply BitVec.eq_of_toNat_eq
  rw [BitVec.toNat_and]
  have h : ∀ n, (nI n).toBitVec.toNat = n % 2 ^ 32 := fun n => rfl
  rw [h, h, Nat.mod_eq_of_lt (by omega), Nat.mod_eq_of_lt]
  have := Nat.and_le_left (n := a) (m := y.toBitVec.toNat)
  omega
theorem sim_stub (a : Int32) : ab_Sim Inv (f_X9_stub a) (f_X10_stub a) := by
  intro I F h
  have h0 := h
  obtain ⟨t, L, C, R, u, o, q, g, bb, hT, ⟨hL, hC, hR, e9, e10, e11, e22, e23, e24⟩, hPL, hQ, hV, hS, hD, hU, hM, hN⟩ := h
  obtain ⟨al, s, ha1, ea, ea2, hs1, es, -⟩ := SR_a hS
  have ha31 := pow31 hL ha1
  rcases i_cs a (n := L) (by omega) with ⟨k, hk, rfl⟩ | ha
  · have k9 : k < 9 := by omega
    cases hl : al.testBit k with
    | false =>
      refine ⟨-1000000003, I, F, I, F, ?_, ?_, h0⟩
      · unfold f_X9_stub
        rw [refl_ok hL e9 hk ea ha1, hl]
        rfl
      · unfold f_X10_stub
        rw [isL_in hL e22 hk, bd_s, if_pos (show ¬ (1 : Int32) = 0 by decide), M_lives ea2 ha31 k9, hl]
        rfl
    | true =>
      obtain ⟨w1, l, hl1, hl2, el⟩ := hS.1 k hk
      obtain ⟨u', o', i12, i13, i34, f23, f59, r1, r2, hU'⟩ := rem_both hL hC hU hS
      generalize hx : (if l ≤ 4 then 1 else l - 3) = x
      have hx1 : 1 ≤ x ∧ x ≤ 140 := by rw [← hx]; split <;> omega
      have e1 : f_X9_stub (nI k) I F = some (nI x, va_up (va_up I 12 i12) 13 i13, va_up (va_up F 23 f23) 22 (upd (F 22) k (nI x))) := by
        unfold f_X9_stub
        rw [refl_ok hL e9 hk ea ha1, hl]
        simp only [bd_s, if_true]
        rw [r1, bd_s, X_short hL hk (show va_up F 23 f23 22 k = nI l from el) hl2, hx, bd_s, X_len hL hk, bd_s]
        show some (upd (F 22) k _ k, _, _) = _
        rw [pk_us]
        rfl
      have e2 := r2 (va_up (va_up I 12 i12) 13 i13) (va_up (va_up F 23 f23) 22 (upd (F 22) k (nI x))) rfl rfl rfl
      have e3 : f_X10_stub (nI k) (va_up (va_up I 12 i12) 13 i13) (va_up (va_up F 23 f23) 22 (upd (F 22) k (nI x))) = some (nI x, va_up (va_up (va_up I 12 i12) 13 i13) 34 i34, va_up (va_up (va_up (va_up F 23 f23) 22 (upd (F 22) k (nI x))) 59 f59) 47 (upd (F 47) k (nI x))) := by
        unfold f_X10_stub
        rw [isL_in hL (show va_up (va_up I 12 i12) 13 i13 22 = nI L from e22) hk, bd_s, if_pos (show ¬ (1 : Int32) = 0 by decide), M_lives (F := va_up (va_up F 23 f23) 22 (upd (F 22) k (nI x))) (show F 47 18 = nI al from ea2) ha31 k9, hl]
        simp only [bd_s, if_true]
        rw [if_pos (show ¬ (1 : Int32) = 0 by decide), e2, bd_s, M_short hL hk (F := va_up (va_up (va_up F 23 f23) 22 (upd (F 22) k (nI x))) 59 f59) (show F 47 k = nI l from w1.trans el) hl2, hx, bd_s]
        simp (disch := omega) only [vin_t, cond_true, nI_clamp, up_s]
        show some (upd (F 47) k _ k, _, _) = _
        rw [pk_us]
        rfl
      refine ⟨_, _, _, _, _, e1, e3, t, L, C, R, u', o', q, g, bb, hT, ⟨hL, hC, hR, e9, e10, e11, e22, e23, e24⟩, hPL, hQ, hV, ?_, ?_, hU', hM, hN⟩
      · exact SR_len hL hS hk hx1.1 hx1.2
      · refine ⟨?_, ?_⟩
        · show I 25 = upd (F 22) k _ 20
          rw [pk_un (by omega)]; exact hD.1
        · show ∃ a, a < 2 ^ 31 ∧ upd (F 22) k _ 20 = nI a
          rw [pk_un (by omega)]; exact hD.2
  · refine ⟨-1000000001, I, F, I, F, ?_, ?_, h0⟩
    · unfold f_X9_stub
      rw [refl_out hL e9 ha, bd_s, if_neg (by decide)]
    · unfold f_X10_stub
      rw [isL_out hL e22 ha, bd_s, if_neg (by decide)]
theorem sim_dies (a : Int32) : ab_Sim Inv (f_X9_dies a) (f_X10_dies a) := by
  intro I F h
  have h0 := h
  obtain ⟨t, L, C, R, u, o, q, g, bb, hT, ⟨hL, hC, hR, e9, e10, e11, e22, e23, e24⟩, hPL, hQ, hV, hS, hD, hU, hM, hN⟩ := h
  obtain ⟨al, s, ha1, ea, ea2, hs1, es, -⟩ := SR_a hS
  have ha31 := pow31 hL ha1
  rcases i_cs a (n := L) (by omega) with ⟨k, hk, rfl⟩ | ha
  · have k9 : k < 9 := by omega
    cases hl : al.testBit k with
    | false =>
      refine ⟨-1000000003, I, F, I, F, ?_, ?_, h0⟩
      · unfold f_X9_dies
        rw [refl_ok hL e9 hk ea ha1, hl]
        rfl
      · unfold f_X10_dies
        rw [isL_in hL e22 hk, bd_s, if_pos (show ¬ (1 : Int32) = 0 by decide), M_lives ea2 ha31 k9, hl]
        rfl
    | true =>
      obtain ⟨u', o', i12, i13, i34, f23, f59, r1, r2, hU'⟩ := rem_both hL hC hU hS
      obtain ⟨x, hx, hx1⟩ : ∃ x, nI al &&& (((1 : Int32) <<< (nI k &&& 31)) ^^^ (-1 : Int32)) = nI x ∧ x < 2 ^ L := by
        refine ⟨_, n_and al ha31 _, ?_⟩
        exact Nat.lt_of_le_of_lt Nat.and_le_left ha1
      have hS' := SR_liv hL hC hS hx1
      have e1 : f_X9_dies (nI k) I F = some (ms (va_up (va_up F 23 f23) 22 (upd (F 22) 18 (nI x))) x k s, va_up (va_up I 12 i12) 13 i13, va_up (va_up F 23 f23) 22 (upd (F 22) 18 (nI x))) := by
        unfold f_X9_dies
        rw [refl_ok hL e9 hk ea ha1, hl]
        simp only [bd_s, if_true]
        rw [r1, bd_s]
        have eb : f_X8_bury (nI k) (va_up (va_up I 12 i12) 13 i13) (va_up F 23 f23) = some (0, va_up (va_up I 12 i12) 13 i13, va_up (va_up F 23 f23) 22 (upd (F 22) 18 (nI x))) := by
          unfold f_X8_bury
          rw [show va_up F 23 f23 22 = F 22 from rfl, ea, hx]
        rw [eb, bd_s, X_now (a := x) (s := s) (F := va_up (va_up F 23 f23) 22 (upd (F 22) 18 (nI x))) hL (show upd (F 22) 18 (nI x) 18 = nI x from pk_us) hx1 (show upd (F 22) 18 (nI x) 19 = nI s by rw [pk_un (by decide)]; exact es) hs1 (PL_h hPL) hk, bd_s]
      have e2 := r2 (va_up (va_up I 12 i12) 13 i13) (va_up (va_up F 23 f23) 22 (upd (F 22) 18 (nI x))) rfl rfl rfl
      have e3 : f_X10_dies (nI k) (va_up (va_up I 12 i12) 13 i13) (va_up (va_up F 23 f23) 22 (upd (F 22) 18 (nI x))) = some (ms (va_up (va_up F 23 f23) 22 (upd (F 22) 18 (nI x))) x k s, va_up (va_up (va_up I 12 i12) 13 i13) 34 i34, va_up (va_up (va_up (va_up F 23 f23) 22 (upd (F 22) 18 (nI x))) 59 f59) 47 (upd (F 47) 18 (nI x))) := by
        unfold f_X10_dies
        rw [isL_in hL (show va_up (va_up I 12 i12) 13 i13 22 = nI L from e22) hk, bd_s, if_pos (show ¬ (1 : Int32) = 0 by decide), M_lives (F := va_up (va_up F 23 f23) 22 (upd (F 22) 18 (nI x))) (show F 47 18 = nI al from ea2) ha31 k9, hl]
        simp only [bd_s, if_true]
        rw [if_pos (show ¬ (1 : Int32) = 0 by decide), e2, bd_s]
        rw [show va_up (va_up (va_up F 23 f23) 22 (upd (F 22) 18 (nI x))) 59 f59 47 = F 47 from rfl, ea2, hx, lt_e]
        rw [M_now (G := va_up (va_up F 23 f23) 22 (upd (F 22) 18 (nI x))) (a := x) (s := s) (F := va_up (va_up (va_up (va_up F 23 f23) 22 (upd (F 22) 18 (nI x))) 59 f59) 47 (upd (F 47) 18 (nI x))) (C := C) hL (show upd (F 22) 18 (nI x) 18 = nI x from pk_us) hx1 (show upd (F 22) 18 (nI x) 19 = nI s by rw [pk_un (by decide)]; exact es) hs1 hPL hS' hk, bd_s]
      refine ⟨_, _, _, _, _, e1, e3, t, L, C, R, u', o', q, g, bb, hT, ⟨hL, hC, hR, e9, e10, e11, e22, e23, e24⟩, hPL, hQ, hV, hS', ?_, hU', hM, hN⟩
      refine ⟨?_, ?_⟩
      · show I 25 = upd (F 22) 18 (nI x) 20
        rw [pk_un (by omega)]; exact hD.1
      · show ∃ a, a < 2 ^ 31 ∧ upd (F 22) 18 (nI x) 20 = nI a
        rw [pk_un (by omega)]; exact hD.2
  · refine ⟨-1000000001, I, F, I, F, ?_, ?_, h0⟩
    · unfold f_X9_dies
      rw [refl_out hL e9 ha, bd_s, if_neg (by decide)]
    · unfold f_X10_dies
      rw [isL_out hL e22 ha, bd_s, if_neg (by decide)]
theorem sim_copy (a : Int32) : ab_Sim Inv (f_X9_copy a) (f_X10_copy a) := by
  intro I F h
  have h0 := h
  obtain ⟨t, L, C, R, u, o, q, g, bb, hT, ⟨hL, hC, hR, e9, e10, e11, e22, e23, e24⟩, hPL, hQ, hV, hS, hD, hU, hM, hN⟩ := h
  obtain ⟨al, s, ha1, ea, ea2, hs1, es, es2⟩ := SR_a hS
  have ha31 := pow31 hL ha1
  rcases i_cs a (n := L) (by omega) with ⟨k, hk, rfl⟩ | ha
  · have k9 : k < 9 := by omega
    cases hl : al.testBit k with
    | false =>
      refine ⟨-1000000003, I, F, I, F, ?_, ?_, h0⟩
      · unfold f_X9_copy
        rw [refl_ok hL e9 hk ea ha1, hl]
        rfl
      · unfold f_X10_copy
        rw [isL_in hL e22 hk, bd_s, if_pos (show ¬ (1 : Int32) = 0 by decide), M_lives ea2 ha31 k9, hl]
        rfl
    | true =>
      obtain ⟨u', o', i12, i13, i34, f23, f59, r1, r2, hU'⟩ := rem_both hL hC hU hS
      obtain ⟨x, hx1, hx⟩ := om_bd s hPL hS hk
      have e1 : f_X9_copy (nI k) I F = some (nI x, va_up (va_up I 12 i12) 13 i13, va_up (va_up F 23 f23) 22 (upd (F 22) (6 + k) (nI x))) := by
        unfold f_X9_copy
        rw [refl_ok hL e9 hk ea ha1, hl]
        simp only [bd_s, if_true]
        rw [r1, bd_s]
        have eb : f_X8_carve (nI k) (va_up (va_up I 12 i12) 13 i13) (va_up F 23 f23) = some (0, va_up (va_up I 12 i12) 13 i13, va_up (va_up F 23 f23) 22 (upd (F 22) (6 + k) (nI x))) := by
          unfold f_X8_carve
          rw [show va_up F 23 f23 22 19 = nI s from es, X_own hL hk (by omega), bd_s, show om (va_up F 23 f23) k s = nI x from hx, nI_add]
          simp (disch := omega) only [vin_t, cond_true, nI_clamp]
          rfl
        rw [eb, bd_s, X_cop hL hk, bd_s]
        show some (upd (F 22) (6 + k) _ (6 + k), _, _) = _
        rw [pk_us]
      have e2 := r2 (va_up (va_up I 12 i12) 13 i13) (va_up (va_up F 23 f23) 22 (upd (F 22) (6 + k) (nI x))) rfl rfl rfl
      have e3 : f_X10_copy (nI k) (va_up (va_up I 12 i12) 13 i13) (va_up (va_up F 23 f23) 22 (upd (F 22) (6 + k) (nI x))) = some (nI x, va_up (va_up (va_up I 12 i12) 13 i13) 34 i34, va_up (va_up (va_up (va_up F 23 f23) 22 (upd (F 22) (6 + k) (nI x))) 59 f59) 47 (upd (F 47) (6 + k) (nI x))) := by
        unfold f_X10_copy
        rw [isL_in hL (show va_up (va_up I 12 i12) 13 i13 22 = nI L from e22) hk, bd_s, if_pos (show ¬ (1 : Int32) = 0 by decide), M_lives (F := va_up (va_up F 23 f23) 22 (upd (F 22) (6 + k) (nI x))) (show F 47 18 = nI al from ea2) ha31 k9, hl]
        simp only [bd_s, if_true]
        rw [if_pos (show ¬ (1 : Int32) = 0 by decide), e2, bd_s]
        rw [show va_up (va_up (va_up F 23 f23) 22 (upd (F 22) (6 + k) (nI x))) 59 f59 47 19 = nI s from es2]
        rw [M_own (G := F) (C := C) (F := va_up (va_up (va_up F 23 f23) 22 (upd (F 22) (6 + k) (nI x))) 59 f59) hL hk (show s < 2 ^ 30 by omega) hPL hS, bd_s, hx, nI_add]
        simp (disch := omega) only [vin_t, cond_true, nI_clamp, pk_us]
        rfl
      refine ⟨_, _, _, _, _, e1, e3, t, L, C, R, u', o', q, g, bb, hT, ⟨hL, hC, hR, e9, e10, e11, e22, e23, e24⟩, hPL, hQ, hV, SR_cop hL hS hk hx1, ?_, hU', hM, hN⟩
      refine ⟨?_, ?_⟩
      · show I 25 = upd (F 22) (6 + k) _ 20
        rw [pk_un (by omega)]; exact hD.1
      · show ∃ a, a < 2 ^ 31 ∧ upd (F 22) (6 + k) _ 20 = nI a
        rw [pk_un (by omega)]; exact hD.2
  · refine ⟨-1000000001, I, F, I, F, ?_, ?_, h0⟩
    · unfold f_X9_copy
      rw [refl_out hL e9 ha, bd_s, if_neg (by decide)]
    · unfold f_X10_copy
      rw [isL_out hL e22 ha, bd_s, if_neg (by decide)]
