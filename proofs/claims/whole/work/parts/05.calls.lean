/-! calls, objects and arrays made, returns; then the whole -/
theorem ab_gd {ws : List Cond} (h : ∀ w ∈ ws, w ∈ ab_T) : GoodIn ab_T ws := fun w hw => ⟨h w hw, good_of_word (List.mem_filter.mp (h w hw)).2⟩
theorem ab_nw {w : Cond} (hw : w ∈ ab_U) {s U : State} (hW : s.WarmedH U.vm) (hZ : va_Nw w s) : va_Nw w U := by
  have h := (List.mem_filter.mp hw).2
  cases w with
  | fieldLinkNest => exact va_Nw.warmF hW hZ
  | methodLinkNest => exact va_Nw.warmM hW hZ
  | _ => cases h
theorem ab_nt2 {w : Cond} (hw : w ∈ ab_U) : w.onTables = true := by
  have h := (List.mem_filter.mp hw).2
  cases w with
  | fieldLinkNest => rfl
  | methodLinkNest => rfl
  | _ => cases h
abbrev ab_wy (M : MI) : List Cond := Cond.code M.1 M.2.1 M.2.2.1 M.2.2.2.1 :: ab_T
abbrev ab_rm (d k n : Nat) : Room := { frames := d + 1, cells := k, slots := n, locals := 64 * (d + 1) }
abbrev ab_Pr (dC : Nat → ClassId) (dI : Nat → Nat → Nat) (cA : Nat → ClassId) (ad : Nat → Nat) (sz : Nat) (As : List Value) (h : AH) : Array Value → State → Prop :=
  va_Pc (As.map (ab_r ad)) (fun U => U.heap.size = sz ∧ va_P (dC, dI) vwCl (ab_wd ad cA 0 h) U.heap ∧ va_K (dC, dI) vwCl [(cA 0, .int), (cA 1, .boolean)] U ∧ va_D (fun _ => True) (ab_wd ad cA 0 h) ∧ ∀ w ∈ ab_U, va_Nw w U)
abbrev ab_Bq (dC : Nat → ClassId) (dI : Nat → Nat → Nat) (cA : Nat → ClassId) (ad : Nat → Nat) (sz : Nat) (h h1 : AH) (ad' : Nat → Nat) (t : State) : Prop :=
  va_P (dC, dI) vwCl (ab_wd ad' cA 0 h1) t.heap ∧ va_K (dC, dI) vwCl [(cA 0, .int), (cA 1, .boolean)] t ∧ va_D (va_A (ab_wd ad cA 0 h) sz) (ab_wd ad' cA 0 h1)
theorem ab_metI {l : Launch} {d k n : Nat} {M : MI} {As : List Value} {h h1 : AH} {v : Int32} (hy : plainName M.1.cls = true) (hl : (lg_sl As).length ≤ M.2.2.1) (hP : ab_RP l none d k n M (0, ab_lz 0 As, [], h) (some (.int v), h1)) (dC : Nat → ClassId) (dI : Nat → Nat → Nat) (cA : Nat → ClassId) (ad : Nat → Nat) (sz : Nat) :
    Met l M.1 (ab_wy M) (ab_rm d k n) (ab_Pr dC dI cA ad sz As h) (va_Qi (fun (r : Int32) (ad' : Nat → Nat) => r = v ∧ ab_ag ad ad' h.length k) (ab_Bq dC dI cA ad sz h h1) (va_A (ab_wd ad cA 0 h) sz)) k n (va_A (ab_wd ad cA 0 h) sz) := by
  refine Met.ofW (cc := M.2.1) (maxL := M.2.2.1) (ret := M.2.2.2.1) hy rfl ?_
  intro p e s m args below meth c s₁ B hml hv
  obtain ⟨rfl, hsz, hP0, hK, hD0, hNs⟩ := hv
  have hts := atoms_spec (ws := ab_wy M) B.pre
  have hown := findClass_of_methodNamed B.named
  have hin := (name_of_methodNamed B.named B.method).1
  have hlocks := B.notSynchronized
  subst hsz
  have hD := hD0.self (sz := s.heap.size)
  have hl0 := lv_entry (As.map (ab_r ad)) (n := M.2.2.1) (by rw [ab_sl_len]; exact hl)
  rw [lg_entry_eq]
  generalize (lg_sl (As.map (ab_r ad)) ++ List.replicate (M.2.2.1 - (lg_sl (As.map (ab_r ad))).length) Slot.unset).toArray = ls at hl0 ⊢
  rw [ab_lz_args] at hl0
  refine hP p e (ab_rm d k n) s m _ below meth c dC dI cA _ k n _ ⟨B.exec, B.bytes, hml, fun q => hin.trans q, hown, fun w hw => hts w (List.mem_cons_of_mem _ hw), hK, fun q h => Or.inr h, hNs⟩ (Nat.le_refl _) (Nat.le_refl _) (Nat.le_refl _) (Nat.le_refl _) ad s.heap [] 0 0 ls (fun x h => by cases h) (by omega) (by omega) va_S.rf hP0 hD hl0 ?_
  intro ad' H' locs' cells' slots' pc' ls' i g hc1 hc2 hS hP' hD' hdec hrt
  refine W.widen hc1 hc2 ?_
  obtain ⟨rfl, hr⟩ := hrt
  rcases hr with hr | ⟨hr, hz⟩
  · exact W.iret (v := v) B.exec B.bytes (B.returns.trans hr) (fun t ht hW => ⟨⟨v, ad', rfl, ⟨rfl, g⟩, by rw [ht]; exact hP', va_K.moved hW.alike hK, hD'⟩, hS.F ht⟩) hS.2.2 hdec
  · exact W.zret (v := v) B.exec B.bytes (B.returns.trans hr) (by rcases hz with q | q <;> rw [q] <;> decide +kernel) (fun t ht hW => ⟨⟨v, ad', rfl, ⟨rfl, g⟩, by rw [ht]; exact hP', va_K.moved hW.alike hK, hD'⟩, hS.F ht⟩) hS.2.2 hdec
theorem ab_metV {l : Launch} {d k n : Nat} {M : MI} {As : List Value} {h h1 : AH} (hy : plainName M.1.cls = true) (hl : (lg_sl As).length ≤ M.2.2.1) (hP : ab_RP l none d k n M (0, ab_lz 0 As, [], h) (none, h1)) (dC : Nat → ClassId) (dI : Nat → Nat → Nat) (cA : Nat → ClassId) (ad : Nat → Nat) (sz : Nat) :
    Met l M.1 (ab_wy M) (ab_rm d k n) (ab_Pr dC dI cA ad sz As h) (va_Qv (fun (ad' : Nat → Nat) => ab_ag ad ad' h.length k) (ab_Bq dC dI cA ad sz h h1) (va_A (ab_wd ad cA 0 h) sz)) k n (va_A (ab_wd ad cA 0 h) sz) := by
  refine Met.ofW (cc := M.2.1) (maxL := M.2.2.1) (ret := M.2.2.2.1) hy rfl ?_
  intro p e s m args below meth c s₁ B hml hv
  obtain ⟨rfl, hsz, hP0, hK, hD0, hNs⟩ := hv
  have hts := atoms_spec (ws := ab_wy M) B.pre
  have hown := findClass_of_methodNamed B.named
  have hin := (name_of_methodNamed B.named B.method).1
  have hlocks := B.notSynchronized
  subst hsz
  have hD := hD0.self (sz := s.heap.size)
  have hl0 := lv_entry (As.map (ab_r ad)) (n := M.2.2.1) (by rw [ab_sl_len]; exact hl)
  rw [lg_entry_eq]
  generalize (lg_sl (As.map (ab_r ad)) ++ List.replicate (M.2.2.1 - (lg_sl (As.map (ab_r ad))).length) Slot.unset).toArray = ls at hl0 ⊢
  rw [ab_lz_args] at hl0
  refine hP p e (ab_rm d k n) s m _ below meth c dC dI cA _ k n _ ⟨B.exec, B.bytes, hml, fun q => hin.trans q, hown, fun w hw => hts w (List.mem_cons_of_mem _ hw), hK, fun q h => Or.inr h, hNs⟩ (Nat.le_refl _) (Nat.le_refl _) (Nat.le_refl _) (Nat.le_refl _) ad s.heap [] 0 0 ls (fun x h => by cases h) (by omega) (by omega) va_S.rf hP0 hD hl0 ?_
  intro ad' H' locs' cells' slots' pc' ls' i g hc1 hc2 hS hP' hD' hdec hrt
  refine W.widen hc1 hc2 ?_
  obtain ⟨rfl, hr⟩ := hrt
  exact W.vret B.exec B.bytes (B.returns.trans hr) (fun t ht hW => ⟨⟨ad', rfl, g, by rw [ht]; exact hP', va_K.moved hW.alike hK, hD'⟩, hS.F ht⟩) hS.2.2 hdec
theorem ab_blind {dC : Nat → ClassId} {dI : Nat → Nat → Nat} {cA : Nat → ClassId} {ad : Nat → Nat} {sz : Nat} {As : List Value} {h : AH} : FrameBlind (ab_Pr dC dI cA ad sz As h) := fun a U g mk q => by
  obtain ⟨q0, q1, qP, qK, qD, qN⟩ := q
  exact ⟨q0, q1, qP, va_K.moved (u := U) (U := U.calling g mk a) (Vm.Alike.refl U.vm) qK, qD, fun w hw => va_Nw.same (u := U) (U := U.calling g mk a) (ab_nt2 hw) rfl (qN w hw)⟩
/-- the frame behind a call -/
theorem ab_after {l : Launch} {X : AX} {d k k1 k2 n n1 n2 : Nat} {M : MI} {R : AR} {pc : Nat} {lv : List (Nat × Value)} {st1 rest : List Value} {h h1 : AH}
    (hk12 : k1 + k2 ≤ k) (hn12 : n1 + n2 ≤ n) (hlen : h.length ≤ h1.length) (hwf : k1 = 0 ∨ (ab_wl h.length lv = true ∧ ab_ws h.length rest = true))
    (hP : ab_RP l X d k2 n2 M (pc, lv, st1, h1) R)
    {p : Program} {e : Env} {Rm : Room} {s : State} {m : MethodId} {args : Array Value} {below : List Frame} {meth : Method} {c : Code} {dC : Nat → ClassId} {dI : Nat → Nat → Nat} {cA : Nat → ClassId} {A : Nat → Prop} {mc ms : Nat} {Q : State → Prop}
    (hF : ab_Fx p s m args meth c M dC dI cA A) (h1' : d + 1 ≤ Rm.frames) (h2 : 64 * (d + 1) ≤ Rm.locals) (h3 : mc ≤ Rm.cells) (h4 : ms ≤ Rm.slots)
    {ad ad1 : Nat → Nat} {H : Heap} {H1 : Heap} {locs1 : List Loc} {cells slots : Nat} {ls : Array Slot} (hX : ∀ x, X = some x → va_X (ad ab_scr) x.1 x.2 s s.heap ∧ ad ab_scr < s.heap.size ∧ ¬ A (ad ab_scr))
    (h5 : cells + k ≤ mc) (h6 : slots + n ≤ ms) (hl : lv_has ls M.2.2.1 (ab_rl ad lv))
    (hk : ∀ (ad' : Nat → Nat) (H' : Heap) (locs' : List Loc) (cells' slots' pc' : Nat) (ls' : Array Slot) (i : Instr), ab_ag ad ad' h.length k → cells' ≤ mc → slots' ≤ ms → va_S A s.heap H' locs' → va_P (dC, dI) vwCl (ab_wd ad' cA 0 R.2) H' → va_D A (ab_wd ad' cA 0 R.2) → decode M.2.1 pc' = .ok (i, 1) → ab_rt M i R.1 →
        W p l e Rm s m args below meth c H' locs' cells' slots' Q (F0 m pc' ls' (R.1.toList.map (ab_r ad'))))
    (g : ab_ag ad ad1 h.length k1) (hS1 : va_S A s.heap H1 locs1) (hP1 : va_P (dC, dI) vwCl (ab_wd ad1 cA 0 h1) H1) (hD1 : va_D (va_A (ab_wd ad cA 0 h) H.size) (ab_wd ad1 cA 0 h1)) (hFc : ∀ q, va_A (ab_wd ad cA 0 h) H.size q → A q) :
    W p l e Rm s m args below meth c H1 locs1 (cells + k1) (slots + n1) Q (F0 m pc ls (st1.map (ab_r ad1))) := by
  refine hP p e Rm s m args below meth c dC dI cA A mc ms Q hF h1' h2 h3 h4 ad1 H1 locs1 (cells + k1) (slots + n1) ls ?_ (by omega) (by omega) hS1 hP1 (hD1.weaken fun _ _ _ q => hFc _ q) ?_ ?_
  · intro x hx
    rw [g.2 ab_scr (Or.inr rfl)]
    exact hX x hx
  · show lv_has ls M.2.2.1 (ab_rl ad1 lv)
    rw [ab_ag_l g (hwf.imp id And.left)]
    exact hl
  · intro ad' H' locs' cells' slots' pc' ls' i g2 b1 b2 b3 b4 b5 b6 b7
    refine hk ad' H' locs' cells' slots' pc' ls' i ⟨fun hk0 => ?_, fun j hj => ?_⟩ b1 b2 b3 b4 b5 b6 b7
    · rw [g2.1 (by omega), g.1 (by omega)]
    · rw [g2.2 j (hj.imp (fun q => by show j < h1.length; omega) id), g.2 j hj]
theorem ab_fr {dC : Nat → ClassId} {dI : Nat → Nat → Nat} {A : Nat → Prop} {ws : va_W} {H0 H : Heap} {locs : List Loc} (hD : va_D A ws) (hS : va_S A H0 H locs) (hA : ∀ q, H0.size ≤ q → A q) : ∀ q, va_A ws H.size q → A q := by
  intro q hq
  rcases hq with ⟨k, e, h⟩ | h
  · exact hD.2 k _ h
  · exact hA q (Nat.le_trans hS.1 h)
set_option maxHeartbeats 1000000 in
theorem ab_callV {l : Launch} {X : AX} {d k n d1 k1 n1 k2 n2 : Nat} {M M' : MI} {R : AR} {pc : Nat} {lv : List (Nat × Value)} {As rest : List Value} {h h1 : AH} {v : Option Value} {e0 : AE} {idx ci a c0 : Nat} {f0 : List Value} (hok : ab_ok M) (hok' : ab_ok M') (hlk : ab_lk M.2.2.2.2 pc = some e0) (he0 : e0.1 = .invokevirtual idx) (hC : ab_CV M.1.cls idx ci M' As.length) (ha : ab_nt h a = some (.inr (c0, f0))) (hc0 : c0 = ci)
    (hsl : (lg_sl (Value.ref a :: As)).length ≤ M'.2.2.1) (hd1 : d1 + 1 ≤ d) (hk12 : k1 + k2 ≤ k) (hn12 : n1 + n2 ≤ n) (hcat : (rest.map fun v => v.category).sum ≤ 8) (hlen : h.length ≤ h1.length) (hwf : k1 = 0 ∨ (ab_wl h.length lv = true ∧ ab_ws h.length rest = true)) (hv : ab_vi v)
    (hP' : ab_RP l none d1 k1 n1 M' (0, ab_lz 0 (Value.ref a :: As), [], h) (v, h1)) (hP : ab_RP l X d k2 n2 M (pc + 3, lv, v.toList ++ rest, h1) R) : ab_RP l X d k n M (pc, lv, As.reverse ++ .ref a :: rest, h) R := by
  obtain ⟨hdc, hb, -⟩ := ab_ok_at hok hlk
  obtain ⟨ins, len, a1, a2, z, y⟩ := e0
  dsimp only at hdc hb he0
  subst he0
  have hb : len = 3 := by simpa [ab_okd] using hb
  subst hb
  subst hc0
  obtain ⟨⟨T, N, hcl⟩, hml, hin, hse, hini, hco, hm1, hm2, hpd, hpn⟩ := hC
  have hmx := hok'.1
  intro p e Rm s m args below meth c dC dI cA A mc ms Q hF h1' h2 h3 h4 ad H locs cells slots ls hX h5 h6 hS hW hD hl hk
  have hFc := ab_fr (dC := dC) (dI := dI) hD hS hF.2.2.2.2.2.2.2.1
  have e1 := ab_wd_nt ad cA h 0 a _ ha
  rw [Nat.zero_add] at e1
  have hts := hF.2.2.2.2.2.1
  have hcb : CallB Rm s args M.1.cls idx M'.1 M'.2.1 M'.2.2.1 M'.2.2.2.1 (ab_wy M') (ab_rm d1 k1 n1) k1 n1 As.length := callB_of _ hts (ab_gd (fun w hw => by
    rcases List.mem_cons.mp hw with q | q
    · rw [q]; exact hco
    · exact q)) rfl rfl rfl (hts _ hini) (hts _ hml) ⟨hm1, hm2, hpd⟩ ⟨by show d1 + 1 + 1 ≤ _; omega, by show 8 + (M'.2.2.1 + 11) + 64 * (d1 + 1) ≤ _; omega⟩
  have hpre : PreV s H M'.1.cls (ad a) (ab_Pr dC dI cA ad H.size (Value.ref a :: As) h) (As.map (ab_r ad)) := ⟨ab_blind, va_recv hF.2.2.2.2.2.2.1 hW hcl e1, fun U hU hWm => ⟨rfl, by rw [hU], by rw [hU]; exact hW, va_K.moved hWm.alike hF.2.2.2.2.2.2.1, hD.weaken (fun _ _ _ _ => trivial), fun w hw => ab_nw hw hWm (hF.2.2.2.2.2.2.2.2 w hw)⟩⟩
  have hst : ((As.reverse ++ .ref a :: rest).map (ab_r ad)) = (As.map (ab_r ad)).reverse ++ .ref (ad a) :: rest.map (ab_r ad) := by simp [ab_r]
  have hroom := lv_room (m := m) (pc := pc) (ls := ls) (rest := (As.map (ab_r ad)).reverse ++ .ref (ad a) :: rest.map (ab_r ad)) (st := rest.map (ab_r ad)) (by rw [ab_cat_sum]; exact hcat)
  show W p l e Rm s m args below meth c H locs cells slots Q (F0 m pc ls ((As.reverse ++ .ref a :: rest).map (ab_r ad)))
  rw [hst]
  match v, hv with
  | none, _ =>
    refine va_callv (va_runV (n := As.length) (As := As.map (ab_r ad)) (rest := rest.map (ab_r ad)) ⟨hF.1, hF.2.1, hF.2.2.1, hF.2.2.2.2.1, hts⟩ (ab_metV hpn hsl hP' dC dI cA ad H.size) ⟨hcb, hts _ hin, hts _ hse⟩ hpre rfl (by simp) hl.1 rfl hroom hdc ⟨by omega, by omega⟩) hS (fun q _ h => hFc q h) hFc (fun ad1 t H1 locs1 ht hvm hw hB hz1 hk1 hS1 => ?_)
    obtain ⟨hP1, hK1, hD1⟩ := hB
    rw [ht] at hP1
    have := ab_after (st1 := rest) hk12 hn12 hlen hwf hP hF h1' h2 h3 h4 hX h5 h6 hl hk hw hS1 hP1 hD1 hFc
    rw [ab_ag_s hw (hwf.imp id And.right)] at this
    exact this
  | some (.int r), _ =>
    refine va_calli (va_runV (n := As.length) (As := As.map (ab_r ad)) (rest := rest.map (ab_r ad)) ⟨hF.1, hF.2.1, hF.2.2.1, hF.2.2.2.2.1, hts⟩ (ab_metI hpn hsl hP' dC dI cA ad H.size) ⟨hcb, hts _ hin, hts _ hse⟩ hpre rfl (by simp) hl.1 rfl hroom hdc ⟨by omega, by omega⟩) hS (fun q _ h => hFc q h) hFc (fun r1 ad1 t H1 locs1 ht hvm hw hB hz1 hk1 hS1 => ?_)
    obtain ⟨hP1, hK1, hD1⟩ := hB
    obtain ⟨rfl, g⟩ := hw
    rw [ht] at hP1
    have := ab_after (st1 := .int r1 :: rest) hk12 hn12 hlen hwf hP hF h1' h2 h3 h4 hX h5 h6 hl hk g hS1 hP1 hD1 hFc
    rw [List.map_cons, ab_ag_s g (hwf.imp id And.right)] at this
    exact this
set_option maxHeartbeats 1000000 in
theorem ab_callS {l : Launch} {X : AX} {d k n d1 k1 n1 k2 n2 : Nat} {M M' : MI} {R : AR} {pc : Nat} {lv : List (Nat × Value)} {As rest : List Value} {h h1 : AH} {v : Option Value} {e0 : AE} {idx : Nat} (hok : ab_ok M) (hok' : ab_ok M') (hlk : ab_lk M.2.2.2.2 pc = some e0) (he0 : e0.1 = .invokestatic idx) (hC : ab_CS M.1.cls idx M' As.length)
    (hsl : (lg_sl As).length ≤ M'.2.2.1) (hd1 : d1 + 1 ≤ d) (hk12 : k1 + k2 ≤ k) (hn12 : n1 + n2 ≤ n) (hcat : (rest.map fun v => v.category).sum ≤ 8) (hlen : h.length ≤ h1.length) (hwf : k1 = 0 ∨ (ab_wl h.length lv = true ∧ ab_ws h.length rest = true)) (hv : ab_vi v)
    (hP' : ab_RP l none d1 k1 n1 M' (0, ab_lz 0 As, [], h) (v, h1)) (hP : ab_RP l X d k2 n2 M (pc + 3, lv, v.toList ++ rest, h1) R) : ab_RP l X d k n M (pc, lv, As.reverse ++ rest, h) R := by
  obtain ⟨hdc, hb, -⟩ := ab_ok_at hok hlk
  obtain ⟨ins, len, a1, a2, z, y⟩ := e0
  dsimp only at hdc hb he0
  subst he0
  have hb : len = 3 := by simpa [ab_okd] using hb
  subst hb
  obtain ⟨hml, hin, hini, hco, hm1, hm2, hpd, hpn⟩ := hC
  have hmx := hok'.1
  intro p e Rm s m args below meth c dC dI cA A mc ms Q hF h1' h2 h3 h4 ad H locs cells slots ls hX h5 h6 hS hW hD hl hk
  have hFc := ab_fr (dC := dC) (dI := dI) hD hS hF.2.2.2.2.2.2.2.1
  have hts := hF.2.2.2.2.2.1
  have hcb : CallB Rm s args M.1.cls idx M'.1 M'.2.1 M'.2.2.1 M'.2.2.2.1 (ab_wy M') (ab_rm d1 k1 n1) k1 n1 As.length := callB_of _ hts (ab_gd (fun w hw => by
    rcases List.mem_cons.mp hw with q | q
    · rw [q]; exact hco
    · exact q)) rfl rfl rfl (hts _ hini) (hts _ hml) ⟨hm1, hm2, hpd⟩ ⟨by show d1 + 1 + 1 ≤ _; omega, by show 8 + (M'.2.2.1 + 11) + 64 * (d1 + 1) ≤ _; omega⟩
  have hpre : PreS s H (ab_Pr dC dI cA ad H.size As h) (As.map (ab_r ad)) := ⟨ab_blind, fun U hU hWm => ⟨rfl, by rw [hU], by rw [hU]; exact hW, va_K.moved hWm.alike hF.2.2.2.2.2.2.1, hD.weaken (fun _ _ _ _ => trivial), fun w hw => ab_nw hw hWm (hF.2.2.2.2.2.2.2.2 w hw)⟩⟩
  have hst : ((As.reverse ++ rest).map (ab_r ad)) = (As.map (ab_r ad)).reverse ++ rest.map (ab_r ad) := by simp
  have hroom := lv_room (m := m) (pc := pc) (ls := ls) (rest := (As.map (ab_r ad)).reverse ++ rest.map (ab_r ad)) (st := rest.map (ab_r ad)) (by rw [ab_cat_sum]; exact hcat)
  show W p l e Rm s m args below meth c H locs cells slots Q (F0 m pc ls ((As.reverse ++ rest).map (ab_r ad)))
  rw [hst]
  match v, hv with
  | none, _ =>
    refine va_callv (va_runS (n := As.length) (As := As.map (ab_r ad)) (rest := rest.map (ab_r ad)) ⟨hF.1, hF.2.1, hF.2.2.1, hF.2.2.2.2.1, hts⟩ (ab_metV hpn hsl hP' dC dI cA ad H.size) ⟨hcb, hts _ hin⟩ hpre rfl (by simp) hl.1 rfl hroom hdc ⟨by omega, by omega⟩) hS (fun q _ h => hFc q h) hFc (fun ad1 t H1 locs1 ht hvm hw hB hz1 hk1 hS1 => ?_)
    obtain ⟨hP1, hK1, hD1⟩ := hB
    rw [ht] at hP1
    have := ab_after (st1 := rest) hk12 hn12 hlen hwf hP hF h1' h2 h3 h4 hX h5 h6 hl hk hw hS1 hP1 hD1 hFc
    rw [ab_ag_s hw (hwf.imp id And.right)] at this
    exact this
  | some (.int r), _ =>
    refine va_calli (va_runS (n := As.length) (As := As.map (ab_r ad)) (rest := rest.map (ab_r ad)) ⟨hF.1, hF.2.1, hF.2.2.1, hF.2.2.2.2.1, hts⟩ (ab_metI hpn hsl hP' dC dI cA ad H.size) ⟨hcb, hts _ hin⟩ hpre rfl (by simp) hl.1 rfl hroom hdc ⟨by omega, by omega⟩) hS (fun q _ h => hFc q h) hFc (fun r1 ad1 t H1 locs1 ht hvm hw hB hz1 hk1 hS1 => ?_)
    obtain ⟨hP1, hK1, hD1⟩ := hB
    obtain ⟨rfl, g⟩ := hw
    rw [ht] at hP1
    have := ab_after (st1 := .int r1 :: rest) hk12 hn12 hlen hwf hP hF h1' h2 h3 h4 hX h5 h6 hl hk g hS1 hP1 hD1 hFc
    rw [List.map_cons, ab_ag_s g (hwf.imp id And.right)] at this
    exact this
set_option maxHeartbeats 1000000 in
theorem ab_callI {l : Launch} {X : AX} {d k n d1 k1 n1 k2 n2 : Nat} {M M' : MI} {R : AR} {pc : Nat} {lv : List (Nat × Value)} {As rest : List Value} {h h1 : AH} {e0 : AE} {idx a : Nat} (hok : ab_ok M) (hok' : ab_ok M') (hlk : ab_lk M.2.2.2.2 pc = some e0) (he0 : e0.1 = .invokespecial idx) (hC : ab_CI M.1.cls idx M' As.length)
    (hsl : (lg_sl (Value.ref a :: As)).length ≤ M'.2.2.1) (hd1 : d1 + 1 ≤ d) (hk12 : k1 + k2 ≤ k) (hn12 : n1 + n2 ≤ n) (hcat : (rest.map fun v => v.category).sum ≤ 8) (hlen : h.length ≤ h1.length) (hwf : k1 = 0 ∨ (ab_wl h.length lv = true ∧ ab_ws h.length rest = true))
    (hP' : ab_RP l none d1 k1 n1 M' (0, ab_lz 0 (Value.ref a :: As), [], h) (none, h1)) (hP : ab_RP l X d k2 n2 M (pc + 3, lv, rest, h1) R) : ab_RP l X d k n M (pc, lv, As.reverse ++ .ref a :: rest, h) R := by
  obtain ⟨hdc, hb, -⟩ := ab_ok_at hok hlk
  obtain ⟨ins, len, a1, a2, z, y⟩ := e0
  dsimp only at hdc hb he0
  subst he0
  have hb : len = 3 := by simpa [ab_okd] using hb
  subst hb
  obtain ⟨hml, hin, hnm, hrn, hini, hco, hm1, hm2, hpd, hpn⟩ := hC
  have hmx := hok'.1
  intro p e Rm s m args below meth c dC dI cA A mc ms Q hF h1' h2 h3 h4 ad H locs cells slots ls hX h5 h6 hS hW hD hl hk
  have hFc := ab_fr (dC := dC) (dI := dI) hD hS hF.2.2.2.2.2.2.2.1
  have hts := hF.2.2.2.2.2.1
  have hgd : GoodIn ab_T (ab_wy M') := ab_gd (fun w hw => by
    rcases List.mem_cons.mp hw with q | q
    · rw [q]; exact hco
    · exact q)
  have hR : (ab_rm d1 k1 n1).frames + 1 ≤ Rm.frames ∧ 8 + (M'.2.2.1 + 11) + (ab_rm d1 k1 n1).locals ≤ Rm.locals := ⟨by show d1 + 1 + 1 ≤ _; omega, by show 8 + (M'.2.2.1 + 11) + 64 * (d1 + 1) ≤ _; omega⟩
  have hpre : PreS s H (ab_Pr dC dI cA ad H.size (Value.ref a :: As) h) (.ref (ad a) :: As.map (ab_r ad)) := ⟨ab_blind, fun U hU hWm => ⟨rfl, by rw [hU], by rw [hU]; exact hW, va_K.moved hWm.alike hF.2.2.2.2.2.2.1, hD.weaken (fun _ _ _ _ => trivial), fun w hw => ab_nw hw hWm (hF.2.2.2.2.2.2.2.2 w hw)⟩⟩
  have hst : ((As.reverse ++ .ref a :: rest).map (ab_r ad)) = (As.map (ab_r ad)).reverse ++ .ref (ad a) :: rest.map (ab_r ad) := by simp [ab_r]
  have hroom := lv_room (m := m) (pc := pc) (ls := ls) (rest := (As.map (ab_r ad)).reverse ++ .ref (ad a) :: rest.map (ab_r ad)) (st := rest.map (ab_r ad)) (by rw [ab_cat_sum]; exact hcat)
  show W p l e Rm s m args below meth c H locs cells slots Q (F0 m pc ls ((As.reverse ++ .ref a :: rest).map (ab_r ad)))
  rw [hst]
  have hret : va_Run p l e Rm s m args below meth c H locs cells slots k1 n1 (F0 m pc ls ((As.map (ab_r ad)).reverse ++ .ref (ad a) :: rest.map (ab_r ad))) (rest.map (ab_r ad)) (va_Qv (fun (ad' : Nat → Nat) => ab_ag ad ad' h.length k1) (ab_Bq dC dI cA ad H.size h h1) (va_A (ab_wd ad cA 0 h) H.size) (Value.ref (ad a) :: As.map (ab_r ad)).toArray) (va_A (ab_wd ad cA 0 h) H.size) := by
    rcases hml with hml | ⟨host, hml⟩
    · have hcb : CallB Rm s args M.1.cls idx M'.1 M'.2.1 M'.2.2.1 M'.2.2.2.1 (ab_wy M') (ab_rm d1 k1 n1) k1 n1 As.length := callB_of _ hts hgd rfl rfl rfl (hts _ hini) (hts _ hml) ⟨hm1, hm2, hpd⟩ hR
      rw [hrn] at hcb
      exact va_runI (n := As.length) (As := As.map (ab_r ad)) (rest := rest.map (ab_r ad)) ⟨hF.1, hF.2.1, hF.2.2.1, hF.2.2.2.2.1, hts⟩ (ab_metV hpn hsl hP' dC dI cA ad H.size) ⟨hcb, hnm, hts _ hin⟩ hpre rfl (by simp) hl.1 rfl hroom hdc ⟨by omega, by omega⟩
    · have hcb : va_CN Rm s args M.1.cls idx M'.1 host M'.2.1 M'.2.2.1 M'.2.2.2.1 (ab_wy M') (ab_rm d1 k1 n1) k1 n1 As.length := va_cnB _ hts hgd rfl rfl rfl (hF.2.2.2.2.2.2.2.2 _ hml) (hts _ hini) ⟨hm1, hm2, hpd⟩ hR
      rw [hrn] at hcb
      exact va_runIN (n := As.length) (As := As.map (ab_r ad)) (rest := rest.map (ab_r ad)) ⟨hF.1, hF.2.1, hF.2.2.1, hF.2.2.2.2.1, hts⟩ (ab_metV hpn hsl hP' dC dI cA ad H.size) ⟨hcb, hnm, hts _ hin⟩ hpre rfl (by simp) hl.1 rfl hroom hdc ⟨by omega, by omega⟩
  refine va_callv hret hS (fun q _ h => hFc q h) hFc (fun ad1 t H1 locs1 ht hvm hw hB hz1 hk1 hS1 => ?_)
  obtain ⟨hP1, hK1, hD1⟩ := hB
  rw [ht] at hP1
  have := ab_after (st1 := rest) hk12 hn12 hlen hwf hP hF h1' h2 h3 h4 hX h5 h6 hl hk hw hS1 hP1 hD1 hFc
  rw [ab_ag_s hw (hwf.imp id And.right)] at this
  exact this
/-- a new address for the next cell -/
theorem ab_grow {l : Launch} {X : AX} {d k n k2 n2 N : Nat} {M : MI} {R : AR} {pc pc' : Nat} {lv : List (Nat × Value)} {st : List Value} {h : AH} {cel : AC} (hwf : ab_wf (pc, lv, st, h) = true) (hk2 : k2 + 1 ≤ k) (hn2 : n2 + N ≤ n)
    (hP : ab_RP l X d k2 n2 M (pc', lv, .ref h.length :: st, h ++ [cel]) R)
    {p : Program} {e : Env} {Rm : Room} {s : State} {m : MethodId} {args : Array Value} {below : List Frame} {meth : Method} {c : Code} {dC : Nat → ClassId} {dI : Nat → Nat → Nat} {cA : Nat → ClassId} {A : Nat → Prop} {mc ms : Nat} {Q : State → Prop}
    (hF : ab_Fx p s m args meth c M dC dI cA A) (h1' : d + 1 ≤ Rm.frames) (h2 : 64 * (d + 1) ≤ Rm.locals) (h3 : mc ≤ Rm.cells) (h4 : ms ≤ Rm.slots)
    {ad : Nat → Nat} {H1 : Heap} {locs : List Loc} {cells slots : Nat} {ls : Array Slot} (hX : ∀ x, X = some x → va_X (ad ab_scr) x.1 x.2 s s.heap ∧ ad ab_scr < s.heap.size ∧ ¬ A (ad ab_scr))
    (h5 : cells + k ≤ mc) (h6 : slots + n ≤ ms) (hl : lv_has ls M.2.2.1 (ab_rl ad lv))
    (hk : ∀ (ad' : Nat → Nat) (H' : Heap) (locs' : List Loc) (cells' slots' pc' : Nat) (ls' : Array Slot) (i : Instr), ab_ag ad ad' h.length k → cells' ≤ mc → slots' ≤ ms → va_S A s.heap H' locs' → va_P (dC, dI) vwCl (ab_wd ad' cA 0 R.2) H' → va_D A (ab_wd ad' cA 0 R.2) → decode M.2.1 pc' = .ok (i, 1) → ab_rt M i R.1 →
        W p l e Rm s m args below meth c H' locs' cells' slots' Q (F0 m pc' ls' (R.1.toList.map (ab_r ad'))))
    (q : Nat) (hcel : ab_rz (fun j => if j = h.length then q else ad j) cA cel = ab_rz ad cA cel) (hS1 : va_S A s.heap H1 locs) (hP1 : va_P (dC, dI) vwCl (ab_wd ad cA 0 h ++ [(q, ab_rz ad cA cel)]) H1) (hD1 : va_D A (ab_wd ad cA 0 h ++ [(q, ab_rz ad cA cel)])) :
    W p l e Rm s m args below meth c H1 locs (cells + 1) (slots + N) Q (F0 m pc' ls (.ref q :: st.map (ab_r ad))) := by
  simp only [ab_wf, Bool.and_eq_true, decide_eq_true_eq] at hwf
  obtain ⟨⟨⟨w1, w2⟩, w3⟩, w4⟩ := hwf
  have hag : ab_ag ad (fun j => if j = h.length then q else ad j) h.length 1 := by
    refine ⟨fun z => absurd z (by decide), fun i hi => if_neg ?_⟩
    rcases hi with z | z
    · omega
    · rw [z]; unfold ab_scr; omega
  have ew : ab_wd (fun j => if j = h.length then q else ad j) cA 0 (h ++ [cel]) = ab_wd ad cA 0 h ++ [(q, ab_rz ad cA cel)] := by
    rw [ab_wd_app, ab_ag_h cA hag h 0 (by omega) w4, hcel, Nat.zero_add]
    simp
  have es : (Value.ref h.length :: st).map (ab_r (fun j => if j = h.length then q else ad j)) = .ref q :: st.map (ab_r ad) := by
    rw [List.map_cons, ab_ag_s hag (Or.inr w3)]
    simp [ab_r]
  have := hP p e Rm s m args below meth c dC dI cA A mc ms Q hF h1' h2 h3 h4 (fun j => if j = h.length then q else ad j) H1 locs (cells + 1) (slots + N) ls (fun x hx => by
    have := hX x hx
    rw [← hag.2 ab_scr (Or.inr rfl)] at this
    exact this) (by omega) (by omega) hS1 (by show va_P _ _ (ab_wd _ cA 0 (h ++ [cel])) _; rw [ew]; exact hP1) (by show va_D _ (ab_wd _ cA 0 (h ++ [cel])); rw [ew]; exact hD1) (by show lv_has ls M.2.2.1 (ab_rl _ lv); rw [ab_ag_l hag (Or.inr w2)]; exact hl) (by
      intro ad' H' locs' cells' slots' pc' ls' i g2 b1 b2 b3 b4 b5 b6 b7
      refine hk ad' H' locs' cells' slots' pc' ls' i ⟨fun hk0 => by omega, fun j hj => ?_⟩ b1 b2 b3 b4 b5 b6 b7
      rw [g2.2 j (hj.imp (fun z => by show j < (h ++ [cel]).length; rw [List.length_append]; omega) id), hag.2 j hj])
  have e9 : (F0 m pc' ls ((Value.ref h.length :: st).map (ab_r (fun j => if j = h.length then q else ad j)))) = F0 m pc' ls (.ref q :: st.map (ab_r ad)) := by rw [es]
  rw [← e9]
  exact this
theorem ab_new {l : Launch} {X : AX} {d k n k2 n2 : Nat} {M : MI} {R : AR} {pc : Nat} {lv : List (Nat × Value)} {st : List Value} {h : AH} {e0 : AE} {idx ci N : Nat} {fs : List Value} (hok : ab_ok M) (hlk : ab_lk M.2.2.2.2 pc = some e0) (he0 : e0.1 = .new idx) (hN : ab_N M.1.cls idx ci N fs) (hwf : ab_wf (pc, lv, st, h) = true) (hk2 : k2 + 1 ≤ k) (hn2 : n2 + N ≤ n)
    (hP : ab_RP l X d k2 n2 M (pc + 3, lv, .ref h.length :: st, h ++ [.inr (ci, fs)]) R) : ab_RP l X d k n M (pc, lv, st, h) R := by
  obtain ⟨hdc, hb, -⟩ := ab_ok_at hok hlk
  obtain ⟨ins, len, a1, a2, z, y⟩ := e0
  dsimp only at hdc hb he0
  subst he0
  have hb : len = 3 := by simpa [ab_okd] using hb
  subst hb
  obtain ⟨C, T, ty, hcl, hin, hty, hl1, hl2, hl3, hdf, hnr⟩ := hN
  intro p e Rm s m args below meth c dC dI cA A mc ms Q hF h1' h2 h3 h4 ad H locs cells slots ls hX h5 h6 hS hW hD hl hk
  have hts := hF.2.2.2.2.2.1
  have efs : fs.map (ab_r ad) = fs := by
    rw [List.map_congr_left (g := id) (fun v hv => by cases v with
      | ref a => exact absurd rfl (hnr _ hv a)
      | _ => rfl), List.map_id]
  have efs2 : ∀ ad2 : Nat → Nat, fs.map (ab_r ad2) = fs := fun ad2 => by
    rw [List.map_congr_left (g := id) (fun v hv => by cases v with
      | ref a => exact absurd rfl (hnr _ hv a)
      | _ => rfl), List.map_id]
  refine va_new (ci := ci) (fs := fs) (C := C) (T := T) (N := N) hF.1 hF.2.1 hts hin ty hty hF.2.2.2.2.1 (hts _ hl1) (hts _ hl2) (hts _ hl3) hF.2.2.2.2.2.2.1 hW hD hS hF.2.2.2.2.2.2.2.1 hcl hdf (by omega) (by omega) hdc (fun q H1 hP1 hD1 hS1 => ?_)
  refine ab_grow (cel := .inr (ci, fs)) hwf hk2 hn2 hP hF h1' h2 h3 h4 hX h5 h6 hl hk q (by simp only [ab_rz, efs2]) hS1 ?_ ?_
  · simp only [ab_rz, efs]; exact hP1
  · simp only [ab_rz, efs]; exact hD1
set_option maxRecDepth 20000 in
theorem ab_newa {l : Launch} {X : AX} {d k n k2 n2 : Nat} {M : MI} {R : AR} {pc : Nat} {lv : List (Nat × Value)} {st : List Value} {h : AH} {e0 : AE} {t N : Nat} {ty : ArrayType} {x : Int32} (hok : ab_ok M) (hlk : ab_lk M.2.2.2.2 pc = some e0) (he0 : e0.1 = .newarray ty) (hT : (ty = .int ∧ t = 0) ∨ (ty = .boolean ∧ t = 1)) (hwf : ab_wf (pc, lv, st, h) = true) (hx0 : ¬ x < 0) (hxN : x.toNatClampNeg = N) (hN : N ≤ 1000) (hk2 : k2 + 1 ≤ k) (hn2 : n2 + N ≤ n)
    (hP : ab_RP l X d k2 n2 M (pc + 2, lv, .ref h.length :: st, h ++ [.inl (t, N, fun _ => 0)]) R) : ab_RP l X d k n M (pc, lv, .int x :: st, h) R := by
  obtain ⟨hdc, hb, -⟩ := ab_ok_at hok hlk
  obtain ⟨ins, len, a1, a2, z, y⟩ := e0
  dsimp only at hdc hb he0
  subst he0
  have hb : len = 2 := by simpa [ab_okd] using hb
  subst hb
  intro p e Rm s m args below meth c dC dI cA A mc ms Q hF h1' h2 h3 h4 ad H locs cells slots ls hX h5 h6 hS hW hD hl hk
  have hts := hF.2.2.2.2.2.1
  have hK := hF.2.2.2.2.2.2.1
  rcases hT with ⟨rfl, rfl⟩ | ⟨rfl, rfl⟩
  · refine va_newa (ty := .int) (a0 := (N, .inl fun _ => 0)) hF.1 hF.2.1 (hts _ (ab_in (i := 99) rfl rfl)) rfl hK hW hD hS hF.2.2.2.2.2.2.2.1 (fun _ => rfl) hx0 hxN (by show N * 4 ≤ 536870912; omega) (by omega) (by omega) hdc (fun q cB H1 hK1 hP1 hD1 hS1 => ?_)
    have f1 := (hK.2 0 _ rfl).2
    have f2 := (hK1.2 2 _ rfl).2
    have f3 : cB = cA 0 := Option.some.inj ((show s.vm.findClass _ = some cB from f2).symm.trans f1)
    subst f3
    exact ab_grow (cel := .inl (0, N, fun _ => 0)) hwf hk2 hn2 hP hF h1' h2 h3 h4 hX h5 h6 hl hk q rfl hS1 hP1 hD1
  · refine va_newa (ty := .boolean) (a0 := (N, .inl fun _ => 0)) hF.1 hF.2.1 (hts _ (ab_in (i := 1024) rfl rfl)) rfl hK hW hD hS hF.2.2.2.2.2.2.2.1 (fun _ => rfl) hx0 hxN (by show N * 1 ≤ 536870912; omega) (by omega) (by omega) hdc (fun q cB H1 hK1 hP1 hD1 hS1 => ?_)
    have f1 := (hK.2 1 _ rfl).2
    have f2 := (hK1.2 2 _ rfl).2
    have f3 : cB = cA 1 := Option.some.inj ((show s.vm.findClass _ = some cB from f2).symm.trans f1)
    subst f3
    exact ab_grow (cel := .inl (1, N, fun _ => 0)) hwf hk2 hn2 hP hF h1' h2 h3 h4 hX h5 h6 hl hk q rfl hS1 hP1 hD1
theorem ab_ret {l : Launch} {X : AX} {d k n : Nat} {M : MI} {pc : Nat} {lv : List (Nat × Value)} {v : Option Value} {h : AH} {e0 : AE} (hok : ab_ok M) (hlk : ab_lk M.2.2.2.2 pc = some e0) (hrt : ab_rt M e0.1 v) : ab_RP l X d k n M (pc, lv, v.toList, h) (v, h) := by
  obtain ⟨hdc, hb, -⟩ := ab_ok_at hok hlk
  intro p e Rm s m args below meth c dC dI cA A mc ms Q hF h1' h2 h3 h4 ad H locs cells slots ls hX h5 h6 hS hW hD hl hk
  have hb1 : e0.2.1 = 1 := by
    unfold ab_okd at hb
    match v, hrt with
    | none, hrt => rw [hrt.1] at hb; simpa using hb
    | some (.int x), hrt => rw [hrt.1] at hb; simpa using hb
  rw [hb1] at hdc
  exact hk ad H locs cells slots pc ls e0.1 (ab_ag.rf _ _ _) (by omega) (by omega) hS hW hD hdc hrt
theorem ab_pick {l : Launch} {X : AX} {d k n : Nat} {M : MI} {R : AR} {pc : Nat} {lv lv' : List (Nat × Value)} {st : List Value} {h : AH} {ks : List Nat} (hp : lv_pick lv ks = lv') (hP : ab_RP l X d k n M (pc, lv', st, h) R) : ab_RP l X d k n M (pc, lv, st, h) R := by
  intro p e Rm s m args below meth c dC dI cA A mc ms Q hF h1' h2 h3 h4 ad H locs cells slots ls hX h5 h6 hS hW hD hl hk
  refine hP p e Rm s m args below meth c dC dI cA A mc ms Q hF h1' h2 h3 h4 ad H locs cells slots ls hX h5 h6 hS hW hD ⟨hl.1, hl.2.1, fun q hq => hl.2.2 q ?_⟩ hk
  obtain ⟨q0, hq0, e0⟩ := List.mem_map.mp hq
  rw [← hp] at hq0
  obtain ⟨i, -, hi⟩ := List.mem_filterMap.mp hq0
  exact List.mem_map.mpr ⟨q0, List.mem_of_getElem? hi, e0⟩
/-- THE ABSTRACT MACHINE IS SOUND -/
theorem ab_sound (l : Launch) : ab_Cl (ab_RP l) := by
  refine ⟨?_, ?_, ?_, ?_, ?_, ?_, ?_, ?_⟩
  · intro X d k n M S R e S' C h1 h2 h3 h4 h5
    exact ab_s1 h1 h2 h3 h4 h5
  · intro X d k n M pc lv v h e h1 h2 h3
    exact ab_ret h1 h2 h3
  · intro X d k n d1 k1 n1 k2 n2 M M' R pc lv As rest h h1 v e idx ci a c0 f0 a1 a2 a3 a4 a5 a6 a7 a8 a9 b1 b2 b3 b4 b5 b6 b7 b8
    exact ab_callV a1 a2 a3 a4 a5 a6 a7 a8 a9 b1 b2 b3 b4 b5 b6 b7 b8
  · intro X d k n d1 k1 n1 k2 n2 M M' R pc lv As rest h h1 v e idx a1 a2 a3 a4 a5 a6 a7 a8 a9 b1 b2 b3 b4 b5 b6
    exact ab_callS a1 a2 a3 a4 a5 a6 a7 a8 a9 b1 b2 b3 b4 b5 b6
  · intro X d k n d1 k1 n1 k2 n2 M M' R pc lv As rest h h1 e idx a a1 a2 a3 a4 a5 a6 a7 a8 a9 b1 b2 b3 b4 b5
    exact ab_callI a1 a2 a3 a4 a5 a6 a7 a8 a9 b1 b2 b3 b4 b5
  · intro X d k n k2 n2 M R pc lv st h e idx ci N fs a1 a2 a3 a4 a5 a6 a7 a8
    exact ab_new a1 a2 a3 a4 a5 a6 a7 a8
  · intro X d k n k2 n2 M R pc lv st h e t ty N x a1 a2 a3 a4 a5 a6 a7 a8 a9 b1 b2
    exact ab_newa a1 a2 a3 a4 a5 a6 a7 a8 a9 b1 b2
  · intro X d k n M R pc lv lv' st h ks a1 a2
    exact ab_pick a1 a2
theorem ab_real (l : Launch) {X : AX} {d k n : Nat} {M : MI} {S : AS} {R : AR} (h : ab_E X d k n M S R) : ab_RP l X d k n M S R := h _ (ab_sound l)
