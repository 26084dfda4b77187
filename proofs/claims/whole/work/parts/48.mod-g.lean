theorem gm_end {N k : Nat} {wr g2 : Nat → Nat} (hm : 1 ≤ k ∧ N < 128 ^ k ∧ (k = 1 ∨ 128 ^ (k - 1) ≤ N)) (hk : k ≤ 229) (hd : ∀ j, j < k → wr j = N / 128 ^ j % 128 + (if j = 0 then 0 else 128))
    (h2 : ∀ j, 0 ≤ j → j < k → g2 j = wr (k - 1 - (j - 0))) : GP N k g2 := by
  obtain ⟨a, c, d⟩ := hm
  refine ⟨a, hk, c, d, fun j hj => ?_⟩
  rw [h2 j (by omega) hj, show k - 1 - (j - 0) = k - 1 - j from by omega, hd _ (by omega)]
  by_cases e : j = k - 1
  · rw [if_pos e, if_pos (by omega)]
  · rw [if_neg e, if_neg (by omega)]
theorem hnm_ex {g g3 wr : Nat → Nat} {i : Nat} (hi : i + 1 ≤ 229) (e : sv g 210 = (hn7 wr i : Int)) (h : (∀ j, g3 j < 256) ∧ ∃ q : Int, (bv g3 210 : Int) + q * ((256 ^ 210 : Nat) : Int) = bv g 210 * (nI 128).toInt + (nI (wr i % 2 ^ 7)).toInt) : sv g3 210 = (hn7 wr (i + 1) : Int) := by
  have h1 := hn7_lt wr (i + 1)
  have h2 : 128 ^ (i + 1) ≤ 128 ^ 229 := Nat.pow_le_pow_right (by decide) hi
  have h3 : 128 ^ 229 < 128 * 256 ^ 203 := by decide +kernel
  have hm : wr i % 2 ^ 7 < 128 := Nat.mod_lt _ (by decide)
  refine mam_ex h ?_ ⟨?_, ?_⟩
  · rw [e, show (nI (wr i % 2 ^ 7)).toInt = ((wr i % 2 ^ 7 : Nat) : Int) from nI_toInt (by omega), show (nI 128).toInt = 128 from by decide]
    show _ = ((hn7 wr i * 128 + wr i % 128 : Nat) : Int)
    omega
  · rw [show 204 - 1 = 203 from rfl]
    generalize 256 ^ 203 = P at *
    omega
  · rw [show 204 - 1 = 203 from rfl]
    generalize 256 ^ 203 = P at *
    generalize 128 ^ 229 = Q at *
    generalize 128 ^ (i + 1) = T at *
    omega
theorem gr_229 {wn : Nat} {wr : Nat → Nat} (h : wn ≤ 229 ∨ ∀ j, j < wn → wr j < 128) (hg : GR wn wr) : wn ≤ 229 := by
  rcases h with h | h
  · exact h
  · by_cases e : wn ≤ 229
    · exact e
    · have h1 := (hg.2.2 0 (by omega)).mpr (by omega)
      have h2 := h 0 (by omega)
      omega
theorem gd_y {gd : Int32} {k wn : Nat} {wr : Nat → Nat} (h : (gd = 1 ∧ 1 ≤ wn ∧ wr 0 ≠ 128 ∧ ∀ j, j < k → (128 ≤ wr j ↔ j < wn - 1)) ∨ (gd = 0 ∧ ¬ GR wn wr)) (h0 : ¬ gd = 0) (hk : 128 ≤ wr k ↔ k < wn - 1) :
    ((1 : Int32) = 1 ∧ 1 ≤ wn ∧ wr 0 ≠ 128 ∧ ∀ j, j < k + 1 → (128 ≤ wr j ↔ j < wn - 1)) ∨ ((1 : Int32) = 0 ∧ ¬ GR wn wr) := by
  rcases h with ⟨_, a, b, c⟩ | ⟨h, _⟩
  · exact Or.inl ⟨rfl, a, b, fun j hj => by by_cases e : j = k; rw [e]; exact hk; exact c j (by omega)⟩
  · exact absurd h h0
theorem gd_n {gd : Int32} {k wn : Nat} {wr : Nat → Nat} {P : Prop} (h : (gd = 1 ∧ P) ∨ (gd = 0 ∧ ¬ GR wn wr)) (h0 : gd = 0) : ((0 : Int32) = 1 ∧ 1 ≤ wn ∧ wr 0 ≠ 128 ∧ ∀ j, j < k + 1 → (128 ≤ wr j ↔ j < wn - 1)) ∨ ((0 : Int32) = 0 ∧ ¬ GR wn wr) := by
  rcases h with ⟨h, _⟩ | ⟨_, h⟩
  · rw [h] at h0; exact absurd h0 (by decide)
  · exact Or.inr ⟨rfl, h⟩
theorem gd_end {gd : Int32} {wn : Nat} {wr : Nat → Nat} (h : (gd = 1 ∧ 1 ≤ wn ∧ wr 0 ≠ 128 ∧ ∀ j, j < wn → (128 ≤ wr j ↔ j < wn - 1)) ∨ (gd = 0 ∧ ¬ GR wn wr)) : (gd = 1 ∧ GR wn wr) ∨ (gd = 0 ∧ ¬ GR wn wr) := by
  rcases h with ⟨h, a, b, c⟩ | h
  · exact Or.inl ⟨h, a, b, c⟩
  · exact Or.inr h

set_option maxHeartbeats 4000000 in
set_option maxRecDepth 100000 in
theorem c_X4_groups (l : Launch) (dC : Nat → ClassId) (dI : Nat → Nat → Nat) (cI cB : ClassId) (mx m5 m6 m7 m8 m9 m10 m11 n dn bn wn : Nat) (th : Int32) (g z rw wr : Nat → Nat) (a9 : Int32) (sz : Nat) (hI : XM n g z) (hrw : ∀ j, rw j < 256) (hwr : ∀ j, wr j < 256) : Met l yX4_groups wsX4_groups ({ frames := 3, cells := 0, slots := 0, locals := 66 } : Room) (va_Pc [.ref mx, .int a9] (fun U => U.heap.size = sz ∧ va_P (dC, dI) vwCl [(mx, .inr (4, [.int th, .int (nI n), .int (nI dn), .int (nI bn), .int (nI wn), .ref m5, .ref m6, .ref m7, .ref m8, .ref m9, .ref m10, .ref m11])), (m5, .inl (cI, 40, .inl (fun j => nI (z j)))), (m6, .inl (cI, 210, .inl (fun j => nI (rw j)))), (m8, .inl (cI, 500, .inl (fun j => nI (wr j)))), (m9, .inl (cB, 8000, .inl (fun j => sb_b (g j))))] U.heap ∧ va_K (dC, dI) vwCl [(cI, .int), (cB, .byte)] U ∧ va_D (fun _ => True) [(mx, .inr (4, [.int th, .int (nI n), .int (nI dn), .int (nI bn), .int (nI wn), .ref m5, .ref m6, .ref m7, .ref m8, .ref m9, .ref m10, .ref m11])), (m5, .inl (cI, 40, .inl (fun j => nI (z j)))), (m6, .inl (cI, 210, .inl (fun j => nI (rw j)))), (m8, .inl (cI, 500, .inl (fun j => nI (wr j)))), (m9, .inl (cB, 8000, .inl (fun j => sb_b (g j))))])) (va_Qi (fun (r : Int32) (uS : Int32 × Nat × (Nat → Nat) × (Nat → Nat)) => match uS with | (th3, wn3, wr3, rw3) => (∀ j, rw3 j < 256) ∧ (∀ j, wr3 j < 256) ∧ ((th3 = 1 ∧ wn3 = wn ∧ wr3 = wr ∧ ¬ vp_in a9 n) ∨ (th3 = 2 ∧ wn3 = wn ∧ wr3 = wr ∧ ∃ aA, a9 = nI aA ∧ aA < n ∧ mval g z aA < 0) ∨ (th3 = 0 ∧ ∃ aA, a9 = nI aA ∧ aA < n ∧ 0 ≤ mval g z aA ∧ r = nI wn3 ∧ GP (mval g z aA).natAbs wn3 wr3))) (fun (uS : Int32 × Nat × (Nat → Nat) × (Nat → Nat)) (tS : State) => match uS with | (th3, wn3, wr3, rw3) => va_P (dC, dI) vwCl [(mx, .inr (4, [.int th3, .int (nI n), .int (nI dn), .int (nI bn), .int (nI wn3), .ref m5, .ref m6, .ref m7, .ref m8, .ref m9, .ref m10, .ref m11])), (m5, .inl (cI, 40, .inl (fun j => nI (z j)))), (m6, .inl (cI, 210, .inl (fun j => nI (rw3 j)))), (m8, .inl (cI, 500, .inl (fun j => nI (wr3 j)))), (m9, .inl (cB, 8000, .inl (fun j => sb_b (g j))))] tS.heap ∧ va_K (dC, dI) vwCl [(cI, .int), (cB, .byte)] tS ∧ va_D (va_A [(mx, .inr (4, [.int th, .int (nI n), .int (nI dn), .int (nI bn), .int (nI wn), .ref m5, .ref m6, .ref m7, .ref m8, .ref m9, .ref m10, .ref m11])), (m5, .inl (cI, 40, .inl (fun j => nI (z j)))), (m6, .inl (cI, 210, .inl (fun j => nI (rw j)))), (m8, .inl (cI, 500, .inl (fun j => nI (wr j)))), (m9, .inl (cB, 8000, .inl (fun j => sb_b (g j))))] sz) [(mx, .inr (4, [.int th3, .int (nI n), .int (nI dn), .int (nI bn), .int (nI wn3), .ref m5, .ref m6, .ref m7, .ref m8, .ref m9, .ref m10, .ref m11])), (m5, .inl (cI, 40, .inl (fun j => nI (z j)))), (m6, .inl (cI, 210, .inl (fun j => nI (rw3 j)))), (m8, .inl (cI, 500, .inl (fun j => nI (wr3 j)))), (m9, .inl (cB, 8000, .inl (fun j => sb_b (g j))))]) (va_A [(mx, .inr (4, [.int th, .int (nI n), .int (nI dn), .int (nI bn), .int (nI wn), .ref m5, .ref m6, .ref m7, .ref m8, .ref m9, .ref m10, .ref m11])), (m5, .inl (cI, 40, .inl (fun j => nI (z j)))), (m6, .inl (cI, 210, .inl (fun j => nI (rw j)))), (m8, .inl (cI, 500, .inl (fun j => nI (wr j)))), (m9, .inl (cB, 8000, .inl (fun j => sb_b (g j))))] sz)) 0 0 (va_A [(mx, .inr (4, [.int th, .int (nI n), .int (nI dn), .int (nI bn), .int (nI wn), .ref m5, .ref m6, .ref m7, .ref m8, .ref m9, .ref m10, .ref m11])), (m5, .inl (cI, 40, .inl (fun j => nI (z j)))), (m6, .inl (cI, 210, .inl (fun j => nI (rw j)))), (m8, .inl (cI, 500, .inl (fun j => nI (wr j)))), (m9, .inl (cB, 8000, .inl (fun j => sb_b (g j))))] sz) := by
  refine Met.ofW (cc := cX4_groups) (maxL := 3) (ret := (some .int)) (by decide) rfl ?_
  intro p e s m args below meth c s₁ B hml hv
  obtain ⟨rfl, hsz, hP, hK, hD0⟩ := hv
  have hx := B.exec
  have hb := B.bytes
  have hr := B.returns
  have hts := atoms_spec (ws := wsX4_groups) B.pre
  have hown : s.vm.findClass RX4 = some m.cls := findClass_of_methodNamed B.named
  have hlocks := B.notSynchronized
  subst hsz
  have hD := hD0.self (sz := s.heap.size)
  generalize hAe : va_A [(mx, .inr (4, [.int th, .int (nI n), .int (nI dn), .int (nI bn), .int (nI wn), .ref m5, .ref m6, .ref m7, .ref m8, .ref m9, .ref m10, .ref m11])), (m5, .inl (cI, 40, .inl (fun j => nI (z j)))), (m6, .inl (cI, 210, .inl (fun j => nI (rw j)))), (m8, .inl (cI, 500, .inl (fun j => nI (wr j)))), (m9, .inl (cB, 8000, .inl (fun j => sb_b (g j))))] s.heap.size = A at hD ⊢
  have hA : ∀ q : Nat, s.heap.size ≤ q → A q := fun q h => by rw [← hAe]; exact Or.inr h
  have hS : va_S A s.heap s.heap [] := va_S.rf
  have hinX4 : ∀ w ∈ wsX40, w ∈ wsX4_groups := by decide +kernel
  have hl := lv_entry ([.ref mx, .int a9]) (n := 3) (Nat.le_of_ble_eq_true rfl)
  rw [lg_entry_eq]
  generalize (lg_sl ([.ref mx, .int a9]) ++ List.replicate (3 - (lg_sl ([.ref mx, .int a9])).length) Slot.unset).toArray = ls at hl ⊢
  have hl : lv_has ls 3 [(0, .ref mx), (1, .int a9)] := hl
  obtain ⟨hg, hn, hz, hq⟩ := id hI
  refine lv_aload_n hx hb dX4_groups_0 rfl (lv_at hl 0 rfl) ?_
  refine lv_aload_n hx hb dX4_groups_1 rfl (lv_at hl 0 rfl) ?_
  refine lv_iload_n hx hb dX4_groups_2 rfl (lv_at hl 1 rfl) ?_
  have hPc := hP.sub (ws' := [(mx, .inr (4, [.int th, .int (nI n), .int (nI dn), .int (nI bn), .int (nI wn), .ref m5, .ref m6, .ref m7, .ref m8, .ref m9, .ref m10, .ref m11]))]) [0] rfl
  have hKc := hK.sub (tys' := []) [] rfl
  refine vp_callSi (W.runV (As := [.int a9]) (rest := [.ref mx]) ⟨hx, hb, hml, hown, hts⟩ (c_X4_isPlace l dC dI cI mx m5 m6 m7 m8 m9 m10 m11 n dn bn wn th a9 hn) (cwV 1 hts gX4_groups_X4_isPlace rfl rfl rfl (by decide +kernel) ⟨Nat.le_of_ble_eq_true rfl, Nat.le_of_ble_eq_true rfl⟩) ⟨fun a U g mk q => by obtain ⟨q0, qP, qK⟩ := q; exact ⟨q0, qP, va_K.moved (u := U) (U := U.calling g mk a) (Vm.Alike.refl U.vm) qK⟩, va_recv hK hP (ci := 4) (q0 := 0) rfl rfl, fun U hU hW => ⟨rfl, by rw [hU]; exact hPc, va_K.moved hW.alike hKc⟩⟩ rfl rfl hl.1 rfl (lv_room (Nat.le_of_ble_eq_true rfl)) dX4_groups_3 ⟨Nat.le_of_ble_eq_true rfl, Nat.le_of_ble_eq_true rfl⟩) (fun r3 h3 => ?_)
  refine lv_if_ne (tgt := 13) hx hb dX4_groups_6 (by decide) (fun c6 => ?_) (fun c6 => ?_)
  · obtain ⟨a, ha, rfl⟩ := vp_in_of (ite_s h3 c6) (by omega)
    have hza := hz a ha
    refine lv_aload_n hx hb dX4_groups_13 rfl (lv_at hl 0 rfl) ?_
    refine va_get (D := (dC, dI)) (ci := 4) (v := .ref m9) (C := RX4) (T := TX4) (N := 12) hx hb hts hinX4 hown hK hP 0 rfl rfl 9 (by decide) (hts (.fieldLink RX4 22 "NumberContentsModel" "kept" "[B") (by decide +kernel)) (fun _ h9 => h9) rfl dX4_groups_14 ?_
    refine lv_sipush (v := (nI 200)) hx hb dX4_groups_17 (by decide) ?_
    refine lv_iload_n hx hb dX4_groups_20 rfl (lv_at hl 1 rfl) ?_
    refine lv_imul hx hb dX4_groups_21 ?_
    refine lv_topi (fun x21 e21 => ?_)
    obtain rfl : x21 = nI (200 * a) := e21.trans (pk_mul 200 a)
    refine va_bald hx hb hK hP 4 1 rfl rfl (vp_in_nI (by omega) (by omega)) dX4_groups_22 ?_
    refine lv_topi (fun x22 e22 => ?_)
    obtain rfl : x22 = sb_b (g (200 * a)) := e22.trans (atsb (by omega))
    refine lv_if_ge (tgt := 30) hx hb dX4_groups_23 (by decide) (fun c23 => ?_) (fun c23 => ?_)
    · refine lv_iconst (v := 0) hx hb dX4_groups_30 (by decide) ?_
      refine va_put (D := (dC, dI)) (ci := 4) (v := .int 0) (ty := .int) (C := RX4) (T := TX4) (N := 12) hx hb hts hinX4 tyX4 tyX4_ok nmX4 hown hK hP hD hS 0 rfl rfl 0 (by decide) (hts (.fieldLink RX4 32 "NumberContentsModel" "thrown" "I") (by decide +kernel)) (fun _ h9 => h9) rfl (by decide +kernel) rfl rfl (Nat.le_of_ble_eq_true rfl) dX4_groups_31 (fun H locs hP hD hS => ?_)
      have hP : va_P (dC, dI) vwCl [(mx, .inr (4, [.int 0, .int (nI n), .int (nI dn), .int (nI bn), .int (nI wn), .ref m5, .ref m6, .ref m7, .ref m8, .ref m9, .ref m10, .ref m11])), (m5, .inl (cI, 40, .inl (fun j => nI (z j)))), (m6, .inl (cI, 210, .inl (fun j => nI (rw j)))), (m8, .inl (cI, 500, .inl (fun j => nI (wr j)))), (m9, .inl (cB, 8000, .inl (fun j => sb_b (g j))))] H := hP
      have hD : va_D A [(mx, .inr (4, [.int 0, .int (nI n), .int (nI dn), .int (nI bn), .int (nI wn), .ref m5, .ref m6, .ref m7, .ref m8, .ref m9, .ref m10, .ref m11])), (m5, .inl (cI, 40, .inl (fun j => nI (z j)))), (m6, .inl (cI, 210, .inl (fun j => nI (rw j)))), (m8, .inl (cI, 500, .inl (fun j => nI (wr j)))), (m9, .inl (cB, 8000, .inl (fun j => sb_b (g j))))] := hD
      refine lv_aload_n hx hb dX4_groups_34 rfl (lv_at hl 0 rfl) ?_
      refine va_get (D := (dC, dI)) (ci := 4) (v := .int 0) (C := RX4) (T := TX4) (N := 12) hx hb hts hinX4 hown hK hP 0 rfl rfl 0 (by decide) (hts (.fieldLink RX4 32 "NumberContentsModel" "thrown" "I") (by decide +kernel)) (fun _ h9 => h9) rfl dX4_groups_35 ?_
      refine lv_if_le (tgt := 43) hx hb dX4_groups_38 (by decide) (fun c38 => ?_) (fun c38 => ?_)
      · have hnn : 0 ≤ mval g z a := mv_nn (by have := (sb_ge _ (hg _)).mp c23; omega)
        have hN229 := (na_lt (mval_fit hg hza)).2
        refine lv_aload_n hx hb dX4_groups_43 rfl (lv_at hl 0 rfl) ?_
        refine lv_aload_n hx hb dX4_groups_44 rfl (lv_at hl 0 rfl) ?_
        refine va_get (D := (dC, dI)) (ci := 4) (v := .ref m6) (C := RX4) (T := TX4) (N := 12) hx hb hts hinX4 hown hK hP 0 rfl rfl 6 (by decide) (hts (.fieldLink RX4 13 "NumberContentsModel" "row" "[I") (by decide +kernel)) (fun _ h9 => h9) rfl dX4_groups_45 ?_
        refine lv_iload_n hx hb dX4_groups_48 rfl (lv_at hl 1 rfl) ?_
        have hPc := hP.sub (ws' := [(mx, .inr (4, [.int 0, .int (nI n), .int (nI dn), .int (nI bn), .int (nI wn), .ref m5, .ref m6, .ref m7, .ref m8, .ref m9, .ref m10, .ref m11])), (m5, .inl (cI, 40, .inl (fun j => nI (z j)))), (m9, .inl (cB, 8000, .inl (fun j => sb_b (g j)))), (m6, .inl (cI, 210, .inl (fun j => nI (rw j))))]) [0, 1, 4, 2] rfl
        have hKc := hK.sub (tys' := [(cI, .int), (cB, .byte)]) [0, 1] rfl
        have hDc := hD.sub (ws' := [(mx, .inr (4, [.int 0, .int (nI n), .int (nI dn), .int (nI bn), .int (nI wn), .ref m5, .ref m6, .ref m7, .ref m8, .ref m9, .ref m10, .ref m11])), (m5, .inl (cI, 40, .inl (fun j => nI (z j)))), (m9, .inl (cB, 8000, .inl (fun j => sb_b (g j)))), (m6, .inl (cI, 210, .inl (fun j => nI (rw j))))]) [0, 1, 4, 2] (by decide) rfl
        have hFc := va_free (wc := [(mx, .inr (4, [.int 0, .int (nI n), .int (nI dn), .int (nI bn), .int (nI wn), .ref m5, .ref m6, .ref m7, .ref m8, .ref m9, .ref m10, .ref m11])), (m5, .inl (cI, 40, .inl (fun j => nI (z j)))), (m9, .inl (cB, 8000, .inl (fun j => sb_b (g j)))), (m6, .inl (cI, 210, .inl (fun j => nI (rw j))))]) hD hS hA [0, 1, 4, 2] rfl
        refine va_callv (va_runV (As := [.ref m6, .int (nI a)]) (rest := []) ⟨hx, hb, hml, hown, hts⟩ (c_X4_fill l dC dI cI cB mx m5 m6 m7 m8 m9 m10 m11 n dn bn wn 0 g z rw m6 a H.size hI ha hrw) (cwV 2 hts gX4_groups_X4_fill rfl rfl rfl (by decide +kernel) ⟨Nat.le_of_ble_eq_true rfl, Nat.le_of_ble_eq_true rfl⟩) ⟨fun a U g mk q => by obtain ⟨q0, q1, qP, qK, qD⟩ := q; exact ⟨q0, q1, qP, va_K.moved (u := U) (U := U.calling g mk a) (Vm.Alike.refl U.vm) qK, qD⟩, va_recv hKc hPc (ci := 4) (q0 := 0) rfl rfl, fun U hU hW => ⟨rfl, by rw [hU], by rw [hU]; exact hPc, va_K.moved hW.alike hKc, hDc.weaken (fun _ _ _ _ => trivial)⟩⟩ rfl rfl hl.1 rfl (lv_room (Nat.le_of_ble_eq_true rfl)) dX4_groups_49 ⟨Nat.le_of_ble_eq_true rfl, Nat.le_of_ble_eq_true rfl⟩) hS (fun q _ h => hFc q h) hFc (fun uS tS H1 locs htS hvm h49 hB hzS hkS hS => ?_)
        obtain ⟨f3_49, rfl⟩ : ∃ z, z = uS := ⟨_, rfl⟩
        obtain ⟨hP1, hK1, hD1⟩ := hB
        rw [htS] at hP1
        have hK1 := va_K.moved hvm.symm hK1
        try dsimp only at h49
        obtain ⟨hP, hD⟩ := va_join (wr := [(m8, .inl (cI, 500, .inl (fun j => nI (wr j))))]) (w1 := [(mx, .inr (4, [.int 0, .int (nI n), .int (nI dn), .int (nI bn), .int (nI wn), .ref m5, .ref m6, .ref m7, .ref m8, .ref m9, .ref m10, .ref m11])), (m5, .inl (cI, 40, .inl (fun j => nI (z j)))), (m9, .inl (cB, 8000, .inl (fun j => sb_b (g j)))), (m6, .inl (cI, 210, .inl (fun j => nI (f3_49 j))))]) hP hD [0, 1, 4, 2] [3] rfl rfl (by decide) (by decide) hkS hFc hP1 hD1
        generalize H1 = H at hP hS ⊢
        have hP : va_P (dC, dI) vwCl [(m8, .inl (cI, 500, .inl (fun j => nI (wr j)))), (mx, .inr (4, [.int 0, .int (nI n), .int (nI dn), .int (nI bn), .int (nI wn), .ref m5, .ref m6, .ref m7, .ref m8, .ref m9, .ref m10, .ref m11])), (m5, .inl (cI, 40, .inl (fun j => nI (z j)))), (m9, .inl (cB, 8000, .inl (fun j => sb_b (g j)))), (m6, .inl (cI, 210, .inl (fun j => nI (f3_49 j))))] H := hP
        have hD : va_D A [(m8, .inl (cI, 500, .inl (fun j => nI (wr j)))), (mx, .inr (4, [.int 0, .int (nI n), .int (nI dn), .int (nI bn), .int (nI wn), .ref m5, .ref m6, .ref m7, .ref m8, .ref m9, .ref m10, .ref m11])), (m5, .inl (cI, 40, .inl (fun j => nI (z j)))), (m9, .inl (cB, 8000, .inl (fun j => sb_b (g j)))), (m6, .inl (cI, 210, .inl (fun j => nI (f3_49 j))))] := hD
        refine lv_aload_n hx hb dX4_groups_52 rfl (lv_at hl 0 rfl) ?_
        refine lv_iconst (v := (nI 0)) hx hb dX4_groups_53 (by decide) ?_
        refine va_put (D := (dC, dI)) (ci := 4) (v := .int (nI 0)) (ty := .int) (C := RX4) (T := TX4) (N := 12) hx hb hts hinX4 tyX4 tyX4_ok nmX4 hown hK hP hD hS 1 rfl rfl 4 (by decide) (hts (.fieldLink RX4 75 "NumberContentsModel" "outMany" "I") (by decide +kernel)) (fun _ h9 => h9) rfl (by decide +kernel) rfl rfl (Nat.le_of_ble_eq_true rfl) dX4_groups_54 (fun H locs hP hD hS => ?_)
        have hP : va_P (dC, dI) vwCl [(m8, .inl (cI, 500, .inl (fun j => nI (wr j)))), (mx, .inr (4, [.int 0, .int (nI n), .int (nI dn), .int (nI bn), .int (nI 0), .ref m5, .ref m6, .ref m7, .ref m8, .ref m9, .ref m10, .ref m11])), (m5, .inl (cI, 40, .inl (fun j => nI (z j)))), (m9, .inl (cB, 8000, .inl (fun j => sb_b (g j)))), (m6, .inl (cI, 210, .inl (fun j => nI (f3_49 j))))] H := hP
        have hD : va_D A [(m8, .inl (cI, 500, .inl (fun j => nI (wr j)))), (mx, .inr (4, [.int 0, .int (nI n), .int (nI dn), .int (nI bn), .int (nI 0), .ref m5, .ref m6, .ref m7, .ref m8, .ref m9, .ref m10, .ref m11])), (m5, .inl (cI, 40, .inl (fun j => nI (z j)))), (m9, .inl (cB, 8000, .inl (fun j => sb_b (g j)))), (m6, .inl (cI, 210, .inl (fun j => nI (f3_49 j))))] := hD
        refine lv_iconst (v := 1) hx hb dX4_groups_57 (by decide) ?_
        refine lv_istore_n (lv' := [(2, .int 1), (0, .ref mx), (1, .int (nI a))]) hx hb dX4_groups_58 rfl hl (by decide) rfl (fun ls hl => ?_)
        have LP59 : ∀ (n9 : Nat) (k : Nat) (mo : Int32) (w2 u2 : Nat → Nat) (hm : (230 - k) < n9) (hk : k ≤ 229) (hw2 : ∀ j, w2 j < 256) (hv : bv w2 210 = (mval g z a).natAbs / 128 ^ k) (hu2 : ∀ j, u2 j < 256) (hd : ∀ j, j < k → u2 j = (mval g z a).natAbs / 128 ^ j % 128 + (if j = 0 then 0 else 128)) (hmo : MOR 128 (mval g z a).natAbs k mo) (H : Heap) (locs : List Loc) (ls : Array Slot) (hP : va_P (dC, dI) vwCl [(mx, .inr (4, [.int 0, .int (nI n), .int (nI dn), .int (nI bn), .int (nI k), .ref m5, .ref m6, .ref m7, .ref m8, .ref m9, .ref m10, .ref m11])), (m5, .inl (cI, 40, .inl (fun j => nI (z j)))), (m6, .inl (cI, 210, .inl (fun j => nI (w2 j)))), (m8, .inl (cI, 500, .inl (fun j => nI (u2 j)))), (m9, .inl (cB, 8000, .inl (fun j => sb_b (g j))))] H) (hD : va_D A [(mx, .inr (4, [.int 0, .int (nI n), .int (nI dn), .int (nI bn), .int (nI k), .ref m5, .ref m6, .ref m7, .ref m8, .ref m9, .ref m10, .ref m11])), (m5, .inl (cI, 40, .inl (fun j => nI (z j)))), (m6, .inl (cI, 210, .inl (fun j => nI (w2 j)))), (m8, .inl (cI, 500, .inl (fun j => nI (u2 j)))), (m9, .inl (cB, 8000, .inl (fun j => sb_b (g j))))]) (hS : va_S A s.heap H locs) (hl : lv_has ls 3 [(0, .ref mx), (1, .int (nI a)), (2, .int mo)]), W p l e (headSpec wsX4_groups ({ frames := 3, cells := 0, slots := 0, locals := 66 } : Room)).room s m ([.ref mx, .int (nI a)]).toArray below meth c H locs 0 0 (MQ below (va_Qi (fun (r : Int32) (uS : Int32 × Nat × (Nat → Nat) × (Nat → Nat)) => match uS with | (th3, wn3, wr3, rw3) => (∀ j, rw3 j < 256) ∧ (∀ j, wr3 j < 256) ∧ ((th3 = 1 ∧ wn3 = wn ∧ wr3 = wr ∧ ¬ vp_in (nI a) n) ∨ (th3 = 2 ∧ wn3 = wn ∧ wr3 = wr ∧ ∃ aA, (nI a) = nI aA ∧ aA < n ∧ mval g z aA < 0) ∨ (th3 = 0 ∧ ∃ aA, (nI a) = nI aA ∧ aA < n ∧ 0 ≤ mval g z aA ∧ r = nI wn3 ∧ GP (mval g z aA).natAbs wn3 wr3))) (fun (uS : Int32 × Nat × (Nat → Nat) × (Nat → Nat)) (tS : State) => match uS with | (th3, wn3, wr3, rw3) => va_P (dC, dI) vwCl [(mx, .inr (4, [.int th3, .int (nI n), .int (nI dn), .int (nI bn), .int (nI wn3), .ref m5, .ref m6, .ref m7, .ref m8, .ref m9, .ref m10, .ref m11])), (m5, .inl (cI, 40, .inl (fun j => nI (z j)))), (m6, .inl (cI, 210, .inl (fun j => nI (rw3 j)))), (m8, .inl (cI, 500, .inl (fun j => nI (wr3 j)))), (m9, .inl (cB, 8000, .inl (fun j => sb_b (g j))))] tS.heap ∧ va_K (dC, dI) vwCl [(cI, .int), (cB, .byte)] tS ∧ va_D A [(mx, .inr (4, [.int th3, .int (nI n), .int (nI dn), .int (nI bn), .int (nI wn3), .ref m5, .ref m6, .ref m7, .ref m8, .ref m9, .ref m10, .ref m11])), (m5, .inl (cI, 40, .inl (fun j => nI (z j)))), (m6, .inl (cI, 210, .inl (fun j => nI (rw3 j)))), (m8, .inl (cI, 500, .inl (fun j => nI (wr3 j)))), (m9, .inl (cB, 8000, .inl (fun j => sb_b (g j))))]) A) ([.ref mx, .int (nI a)]).toArray s 0 0 A) (F0 m 59 ls []) := by
          intro n9
          induction n9 with
          | zero => intro k mo w2 u2 hm; exact absurd hm (Nat.not_lt_zero _)
          | succ n9 ih =>
            intro k mo w2 u2 hm hk hw2 hv hu2 hd hmo H locs ls hP hD hS hl
            have ih59 := ih
            refine lv_iload_n hx hb dX4_groups_59 rfl (lv_at hl 2 rfl) ?_
            refine lv_if_eq (tgt := 120) hx hb dX4_groups_60 (by decide) (fun c60 => ?_) (fun c60 => ?_)
            · have hme := mor_end hmo c60
              refine lv_aload_n hx hb dX4_groups_120 rfl (lv_at hl 0 rfl) ?_
              refine lv_iconst (v := (nI 0)) hx hb dX4_groups_121 (by decide) ?_
              have hPc := hP.sub (ws' := [(mx, .inr (4, [.int 0, .int (nI n), .int (nI dn), .int (nI bn), .int (nI k), .ref m5, .ref m6, .ref m7, .ref m8, .ref m9, .ref m10, .ref m11])), (m8, .inl (cI, 500, .inl (fun j => nI (u2 j))))]) [0, 3] rfl
              have hKc := hK.sub (tys' := [(cI, .int)]) [0] rfl
              have hDc := hD.sub (ws' := [(mx, .inr (4, [.int 0, .int (nI n), .int (nI dn), .int (nI bn), .int (nI k), .ref m5, .ref m6, .ref m7, .ref m8, .ref m9, .ref m10, .ref m11])), (m8, .inl (cI, 500, .inl (fun j => nI (u2 j))))]) [0, 3] (by decide) rfl
              have hFc := va_free (wc := [(mx, .inr (4, [.int 0, .int (nI n), .int (nI dn), .int (nI bn), .int (nI k), .ref m5, .ref m6, .ref m7, .ref m8, .ref m9, .ref m10, .ref m11])), (m8, .inl (cI, 500, .inl (fun j => nI (u2 j))))]) hD hS hA [0, 3] rfl
              refine va_callv (va_runV (As := [.int (nI 0)]) (rest := []) ⟨hx, hb, hml, hown, hts⟩ (c_X4_turn l dC dI cI mx m5 m6 m7 m8 m9 m10 m11 n dn bn k 0 u2 0 H.size ⟨by omega, by omega⟩ hu2) (cwV 1 hts gX4_groups_X4_turn rfl rfl rfl (by decide +kernel) ⟨Nat.le_of_ble_eq_true rfl, Nat.le_of_ble_eq_true rfl⟩) ⟨fun a U g mk q => by obtain ⟨q0, q1, qP, qK, qD⟩ := q; exact ⟨q0, q1, qP, va_K.moved (u := U) (U := U.calling g mk a) (Vm.Alike.refl U.vm) qK, qD⟩, va_recv hKc hPc (ci := 4) (q0 := 0) rfl rfl, fun U hU hW => ⟨rfl, by rw [hU], by rw [hU]; exact hPc, va_K.moved hW.alike hKc, hDc.weaken (fun _ _ _ _ => trivial)⟩⟩ rfl rfl hl.1 rfl (lv_room (Nat.le_of_ble_eq_true rfl)) dX4_groups_122 ⟨Nat.le_of_ble_eq_true rfl, Nat.le_of_ble_eq_true rfl⟩) hS (fun q _ h => hFc q h) hFc (fun uS tS H1 locs htS hvm h122 hB hzS hkS hS => ?_)
              obtain ⟨g2_122, rfl⟩ : ∃ z, z = uS := ⟨_, rfl⟩
              obtain ⟨hP1, hK1, hD1⟩ := hB
              rw [htS] at hP1
              have hK1 := va_K.moved hvm.symm hK1
              try dsimp only at h122
              obtain ⟨hP, hD⟩ := va_join (wr := [(m5, .inl (cI, 40, .inl (fun j => nI (z j)))), (m6, .inl (cI, 210, .inl (fun j => nI (w2 j)))), (m9, .inl (cB, 8000, .inl (fun j => sb_b (g j))))]) (w1 := [(mx, .inr (4, [.int 0, .int (nI n), .int (nI dn), .int (nI bn), .int (nI k), .ref m5, .ref m6, .ref m7, .ref m8, .ref m9, .ref m10, .ref m11])), (m8, .inl (cI, 500, .inl (fun j => nI (g2_122 j))))]) hP hD [0, 3] [1, 2, 4] rfl rfl (by decide) (by decide) hkS hFc hP1 hD1
              generalize H1 = H at hP hS ⊢
              have hP : va_P (dC, dI) vwCl [(m5, .inl (cI, 40, .inl (fun j => nI (z j)))), (m6, .inl (cI, 210, .inl (fun j => nI (w2 j)))), (m9, .inl (cB, 8000, .inl (fun j => sb_b (g j)))), (mx, .inr (4, [.int 0, .int (nI n), .int (nI dn), .int (nI bn), .int (nI k), .ref m5, .ref m6, .ref m7, .ref m8, .ref m9, .ref m10, .ref m11])), (m8, .inl (cI, 500, .inl (fun j => nI (g2_122 j))))] H := hP
              have hD : va_D A [(m5, .inl (cI, 40, .inl (fun j => nI (z j)))), (m6, .inl (cI, 210, .inl (fun j => nI (w2 j)))), (m9, .inl (cB, 8000, .inl (fun j => sb_b (g j)))), (mx, .inr (4, [.int 0, .int (nI n), .int (nI dn), .int (nI bn), .int (nI k), .ref m5, .ref m6, .ref m7, .ref m8, .ref m9, .ref m10, .ref m11])), (m8, .inl (cI, 500, .inl (fun j => nI (g2_122 j))))] := hD
              refine lv_aload_n hx hb dX4_groups_125 rfl (lv_at hl 0 rfl) ?_
              refine va_get (D := (dC, dI)) (ci := 4) (v := .int (nI k)) (C := RX4) (T := TX4) (N := 12) hx hb hts hinX4 hown hK hP 3 rfl rfl 4 (by decide) (hts (.fieldLink RX4 75 "NumberContentsModel" "outMany" "I") (by decide +kernel)) (fun _ h9 => h9) rfl dX4_groups_126 ?_
              have hP9 := hP.sub (ws' := [(mx, .inr (4, [.int 0, .int (nI n), .int (nI dn), .int (nI bn), .int (nI k), .ref m5, .ref m6, .ref m7, .ref m8, .ref m9, .ref m10, .ref m11])), (m5, .inl (cI, 40, .inl (fun j => nI (z j)))), (m6, .inl (cI, 210, .inl (fun j => nI (w2 j)))), (m8, .inl (cI, 500, .inl (fun j => nI (g2_122 j)))), (m9, .inl (cB, 8000, .inl (fun j => sb_b (g j))))]) [3, 0, 1, 4, 2] rfl
              have hD9 := hD.sub (ws' := [(mx, .inr (4, [.int 0, .int (nI n), .int (nI dn), .int (nI bn), .int (nI k), .ref m5, .ref m6, .ref m7, .ref m8, .ref m9, .ref m10, .ref m11])), (m5, .inl (cI, 40, .inl (fun j => nI (z j)))), (m6, .inl (cI, 210, .inl (fun j => nI (w2 j)))), (m8, .inl (cI, 500, .inl (fun j => nI (g2_122 j)))), (m9, .inl (cB, 8000, .inl (fun j => sb_b (g j))))]) [3, 0, 1, 4, 2] (by decide) rfl
              have hK9 := hK.sub (tys' := [(cI, .int), (cB, .byte)]) [0, 1] rfl
              exact W.iret (v := (nI k)) hx hb hr (fun tS htS hW => ⟨⟨(nI k), (0, k, g2_122, w2), rfl, ⟨hw2, h122.1, Or.inr (Or.inr ⟨rfl, a, rfl, ha, hnn, rfl, gm_end hme hk hd h122.2.2.1⟩)⟩, by rw [htS]; exact hP9, va_K.moved hW.alike hK9, hD9⟩, hS.F htS⟩) hS.2.2 dX4_groups_129
            · have hk229 := mor_k (by decide) hmo c60 hN229 (by decide)
              refine lv_aload_n hx hb dX4_groups_63 rfl (lv_at hl 0 rfl) ?_
              refine va_get (D := (dC, dI)) (ci := 4) (v := .ref m8) (C := RX4) (T := TX4) (N := 12) hx hb hts hinX4 hown hK hP 0 rfl rfl 8 (by decide) (hts (.fieldLink RX4 19 "NumberContentsModel" "out" "[I") (by decide +kernel)) (fun _ h9 => h9) rfl dX4_groups_64 ?_
              refine lv_aload_n hx hb dX4_groups_67 rfl (lv_at hl 0 rfl) ?_
              refine va_get (D := (dC, dI)) (ci := 4) (v := .int (nI k)) (C := RX4) (T := TX4) (N := 12) hx hb hts hinX4 hown hK hP 0 rfl rfl 4 (by decide) (hts (.fieldLink RX4 75 "NumberContentsModel" "outMany" "I") (by decide +kernel)) (fun _ h9 => h9) rfl dX4_groups_68 ?_
              refine lv_aload_n hx hb dX4_groups_71 rfl (lv_at hl 0 rfl) ?_
              refine lv_sipush (v := (nI 128)) hx hb dX4_groups_72 (by decide) ?_
              have hPc := hP.sub (ws' := [(mx, .inr (4, [.int 0, .int (nI n), .int (nI dn), .int (nI bn), .int (nI k), .ref m5, .ref m6, .ref m7, .ref m8, .ref m9, .ref m10, .ref m11])), (m6, .inl (cI, 210, .inl (fun j => nI (w2 j))))]) [0, 2] rfl
              have hKc := hK.sub (tys' := [(cI, .int)]) [0] rfl
              have hDc := hD.sub (ws' := [(mx, .inr (4, [.int 0, .int (nI n), .int (nI dn), .int (nI bn), .int (nI k), .ref m5, .ref m6, .ref m7, .ref m8, .ref m9, .ref m10, .ref m11])), (m6, .inl (cI, 210, .inl (fun j => nI (w2 j))))]) [0, 2] (by decide) rfl
              have hFc := va_free (wc := [(mx, .inr (4, [.int 0, .int (nI n), .int (nI dn), .int (nI bn), .int (nI k), .ref m5, .ref m6, .ref m7, .ref m8, .ref m9, .ref m10, .ref m11])), (m6, .inl (cI, 210, .inl (fun j => nI (w2 j))))]) hD hS hA [0, 2] rfl
              refine va_calli (va_runV (As := [.int (nI 128)]) (rest := [.int (nI k), .ref m8]) ⟨hx, hb, hml, hown, hts⟩ (c_X4_divided l dC dI cI mx m5 m6 m7 m8 m9 m10 m11 n dn bn k 0 w2 128 H.size hw2 (by decide)) (cwV 1 hts gX4_groups_X4_divided rfl rfl rfl (by decide +kernel) ⟨Nat.le_of_ble_eq_true rfl, Nat.le_of_ble_eq_true rfl⟩) ⟨fun a U g mk q => by obtain ⟨q0, q1, qP, qK, qD⟩ := q; exact ⟨q0, q1, qP, va_K.moved (u := U) (U := U.calling g mk a) (Vm.Alike.refl U.vm) qK, qD⟩, va_recv hKc hPc (ci := 4) (q0 := 0) rfl rfl, fun U hU hW => ⟨rfl, by rw [hU], by rw [hU]; exact hPc, va_K.moved hW.alike hKc, hDc.weaken (fun _ _ _ _ => trivial)⟩⟩ rfl rfl hl.1 rfl (lv_room (Nat.le_of_ble_eq_true rfl)) dX4_groups_75 ⟨Nat.le_of_ble_eq_true rfl, Nat.le_of_ble_eq_true rfl⟩) hS (fun q _ h => hFc q h) hFc (fun r75 uS tS H1 locs htS hvm h75 hB hzS hkS hS => ?_)
              obtain ⟨g3_75, rfl⟩ : ∃ z, z = uS := ⟨_, rfl⟩
              obtain ⟨hP1, hK1, hD1⟩ := hB
              rw [htS] at hP1
              have hK1 := va_K.moved hvm.symm hK1
              try dsimp only at h75
              obtain ⟨hP, hD⟩ := va_join (wr := [(m5, .inl (cI, 40, .inl (fun j => nI (z j)))), (m8, .inl (cI, 500, .inl (fun j => nI (u2 j)))), (m9, .inl (cB, 8000, .inl (fun j => sb_b (g j))))]) (w1 := [(mx, .inr (4, [.int 0, .int (nI n), .int (nI dn), .int (nI bn), .int (nI k), .ref m5, .ref m6, .ref m7, .ref m8, .ref m9, .ref m10, .ref m11])), (m6, .inl (cI, 210, .inl (fun j => nI (g3_75 j))))]) hP hD [0, 2] [1, 3, 4] rfl rfl (by decide) (by decide) hkS hFc hP1 hD1
              generalize H1 = H at hP hS ⊢
              have hP : va_P (dC, dI) vwCl [(m5, .inl (cI, 40, .inl (fun j => nI (z j)))), (m8, .inl (cI, 500, .inl (fun j => nI (u2 j)))), (m9, .inl (cB, 8000, .inl (fun j => sb_b (g j)))), (mx, .inr (4, [.int 0, .int (nI n), .int (nI dn), .int (nI bn), .int (nI k), .ref m5, .ref m6, .ref m7, .ref m8, .ref m9, .ref m10, .ref m11])), (m6, .inl (cI, 210, .inl (fun j => nI (g3_75 j))))] H := hP
              have hD : va_D A [(m5, .inl (cI, 40, .inl (fun j => nI (z j)))), (m8, .inl (cI, 500, .inl (fun j => nI (u2 j)))), (m9, .inl (cB, 8000, .inl (fun j => sb_b (g j)))), (mx, .inr (4, [.int 0, .int (nI n), .int (nI dn), .int (nI bn), .int (nI k), .ref m5, .ref m6, .ref m7, .ref m8, .ref m9, .ref m10, .ref m11])), (m6, .inl (cI, 210, .inl (fun j => nI (g3_75 j))))] := hD
              obtain ⟨rs, rfl, hr2, hr3, hr4⟩ := h75
              refine lv_aload_n hx hb dX4_groups_78 rfl (lv_at hl 0 rfl) ?_
              refine va_get (D := (dC, dI)) (ci := 4) (v := .int (nI k)) (C := RX4) (T := TX4) (N := 12) hx hb hts hinX4 hown hK hP 3 rfl rfl 4 (by decide) (hts (.fieldLink RX4 75 "NumberContentsModel" "outMany" "I") (by decide +kernel)) (fun _ h9 => h9) rfl dX4_groups_79 ?_
              refine lv_if_le (tgt := 91) hx hb dX4_groups_82 (by decide) (fun c82 => ?_) (fun c82 => ?_)
              · refine lv_iconst (v := (nI 0)) hx hb dX4_groups_91 (by decide) ?_
                refine lv_iadd hx hb dX4_groups_92 ?_
                refine lv_topi (fun x92 e92 => ?_)
                obtain rfl : x92 = nI (rs + 0) := e92.trans (nI_add _ _)
                refine va_iast hx hb hK hP hD hS 1 0 rfl rfl (vp_in_nI (by omega) (by omega)) dX4_groups_93 (fun H locs hP hD hS => ?_)
                have hP : va_P (dC, dI) vwCl [(m5, .inl (cI, 40, .inl (fun j => nI (z j)))), (m8, .inl (cI, 500, .inl (upd (fun j => nI (u2 j)) (nI k).toNatClampNeg (nI (rs + 0))))), (m9, .inl (cB, 8000, .inl (fun j => sb_b (g j)))), (mx, .inr (4, [.int 0, .int (nI n), .int (nI dn), .int (nI bn), .int (nI k), .ref m5, .ref m6, .ref m7, .ref m8, .ref m9, .ref m10, .ref m11])), (m6, .inl (cI, 210, .inl (fun j => nI (g3_75 j))))] H := hP
                have hD : va_D A [(m5, .inl (cI, 40, .inl (fun j => nI (z j)))), (m8, .inl (cI, 500, .inl (upd (fun j => nI (u2 j)) (nI k).toNatClampNeg (nI (rs + 0))))), (m9, .inl (cB, 8000, .inl (fun j => sb_b (g j)))), (mx, .inr (4, [.int 0, .int (nI n), .int (nI dn), .int (nI bn), .int (nI k), .ref m5, .ref m6, .ref m7, .ref m8, .ref m9, .ref m10, .ref m11])), (m6, .inl (cI, 210, .inl (fun j => nI (g3_75 j))))] := hD
                obtain ⟨f93, e93⟩ : ∃ zz9 : Nat → Int32, zz9 = upd (fun j => nI (u2 j)) (nI k).toNatClampNeg (nI (rs + 0)) := ⟨_, rfl⟩
                rw [← e93] at hP hD
                obtain rfl : f93 = fun j => nI (va_up u2 k (rs + 0) j) := e93.trans (upg (by omega))
                refine lv_aload_n hx hb dX4_groups_94 rfl (lv_at hl 0 rfl) ?_
                refine lv_dup hx hb dX4_groups_95 rfl ?_
                refine va_get (D := (dC, dI)) (ci := 4) (v := .int (nI k)) (C := RX4) (T := TX4) (N := 12) hx hb hts hinX4 hown hK hP 3 rfl rfl 4 (by decide) (hts (.fieldLink RX4 75 "NumberContentsModel" "outMany" "I") (by decide +kernel)) (fun _ h9 => h9) rfl dX4_groups_96 ?_
                refine lv_iconst (v := 1) hx hb dX4_groups_99 (by decide) ?_
                refine lv_iadd hx hb dX4_groups_100 ?_
                refine lv_topi (fun x100 e100 => ?_)
                obtain rfl : x100 = nI (k + 1) := e100.trans (nI_1 _)
                refine va_put (D := (dC, dI)) (ci := 4) (v := .int (nI (k + 1))) (ty := .int) (C := RX4) (T := TX4) (N := 12) hx hb hts hinX4 tyX4 tyX4_ok nmX4 hown hK hP hD hS 3 rfl rfl 4 (by decide) (hts (.fieldLink RX4 75 "NumberContentsModel" "outMany" "I") (by decide +kernel)) (fun _ h9 => h9) rfl (by decide +kernel) rfl rfl (Nat.le_of_ble_eq_true rfl) dX4_groups_101 (fun H locs hP hD hS => ?_)
                have hP : va_P (dC, dI) vwCl [(m5, .inl (cI, 40, .inl (fun j => nI (z j)))), (m8, .inl (cI, 500, .inl (fun j => nI (va_up u2 k (rs + 0) j)))), (m9, .inl (cB, 8000, .inl (fun j => sb_b (g j)))), (mx, .inr (4, [.int 0, .int (nI n), .int (nI dn), .int (nI bn), .int (nI (k + 1)), .ref m5, .ref m6, .ref m7, .ref m8, .ref m9, .ref m10, .ref m11])), (m6, .inl (cI, 210, .inl (fun j => nI (g3_75 j))))] H := hP
                have hD : va_D A [(m5, .inl (cI, 40, .inl (fun j => nI (z j)))), (m8, .inl (cI, 500, .inl (fun j => nI (va_up u2 k (rs + 0) j)))), (m9, .inl (cB, 8000, .inl (fun j => sb_b (g j)))), (mx, .inr (4, [.int 0, .int (nI n), .int (nI dn), .int (nI bn), .int (nI (k + 1)), .ref m5, .ref m6, .ref m7, .ref m8, .ref m9, .ref m10, .ref m11])), (m6, .inl (cI, 210, .inl (fun j => nI (g3_75 j))))] := hD
                refine lv_aload_n hx hb dX4_groups_104 rfl (lv_at hl 0 rfl) ?_
                have hPc := hP.sub (ws' := [(mx, .inr (4, [.int 0, .int (nI n), .int (nI dn), .int (nI bn), .int (nI (k + 1)), .ref m5, .ref m6, .ref m7, .ref m8, .ref m9, .ref m10, .ref m11])), (m6, .inl (cI, 210, .inl (fun j => nI (g3_75 j))))]) [3, 4] rfl
                have hKc := hK.sub (tys' := [(cI, .int)]) [0] rfl
                refine vp_callSi (W.runV (As := []) (rest := []) ⟨hx, hb, hml, hown, hts⟩ (c_X4_isNone l dC dI cI mx m5 m6 m7 m8 m9 m10 m11 n dn bn (k + 1) 0 g3_75 hr4) (cwV 0 hts gX4_groups_X4_isNone rfl rfl rfl (by decide +kernel) ⟨Nat.le_of_ble_eq_true rfl, Nat.le_of_ble_eq_true rfl⟩) ⟨fun a U g mk q => by obtain ⟨q0, qP, qK⟩ := q; exact ⟨q0, qP, va_K.moved (u := U) (U := U.calling g mk a) (Vm.Alike.refl U.vm) qK⟩, va_recv hK hP (ci := 4) (q0 := 3) rfl rfl, fun U hU hW => ⟨rfl, by rw [hU]; exact hPc, va_K.moved hW.alike hKc⟩⟩ rfl rfl hl.1 rfl (lv_room (Nat.le_of_ble_eq_true rfl)) dX4_groups_105 ⟨Nat.le_of_ble_eq_true rfl, Nat.le_of_ble_eq_true rfl⟩) (fun r105 h105 => ?_)
                refine lv_if_ne (tgt := 115) hx hb dX4_groups_108 (by decide) (fun c108 => ?_) (fun c108 => ?_)
                · refine lv_iconst (v := 0) hx hb dX4_groups_115 (by decide) ?_
                  refine lv_istore_n (lv' := [(2, .int 0), (0, .ref mx), (1, .int (nI a))]) hx hb dX4_groups_116 rfl hl (by decide) rfl (fun ls hl => ?_)
                  refine lv_goto (tgt := 59) hx hb dX4_groups_117 (by decide) ?_
                  have hdq := dq_step (by decide) hv hr3 hr2
                  have hms := mor_step (by decide) hmo c60 hdq.2 h105
                  exact ih59 (k + 1) 0 g3_75 (va_up u2 k (rs + 0)) (by omega) (by omega) hr4 hdq.2 (up_lt hu2 (by omega)) (gl_step hd (by rw [hdq.1, if_pos (Nat.le_zero.mp ((nI_le0 (by omega)).mp c82))])) (hms.2 c108) _ _ _ (hP.sub [3, 0, 4, 1, 2] rfl) (hD.sub [3, 0, 4, 1, 2] (by decide) rfl) hS (lv_sub hl [1, 2, 0] rfl)
                · refine lv_iconst (v := 1) hx hb dX4_groups_111 (by decide) ?_
                  refine lv_goto (tgt := 116) hx hb dX4_groups_112 (by decide) ?_
                  refine lv_istore_n (lv' := [(2, .int 1), (0, .ref mx), (1, .int (nI a))]) hx hb dX4_groups_116 rfl hl (by decide) rfl (fun ls hl => ?_)
                  refine lv_goto (tgt := 59) hx hb dX4_groups_117 (by decide) ?_
                  have hdq := dq_step (by decide) hv hr3 hr2
                  have hms := mor_step (by decide) hmo c60 hdq.2 h105
                  exact ih59 (k + 1) 1 g3_75 (va_up u2 k (rs + 0)) (by omega) (by omega) hr4 hdq.2 (up_lt hu2 (by omega)) (gl_step hd (by rw [hdq.1, if_pos (Nat.le_zero.mp ((nI_le0 (by omega)).mp c82))])) (hms.1 c108) _ _ _ (hP.sub [3, 0, 4, 1, 2] rfl) (hD.sub [3, 0, 4, 1, 2] (by decide) rfl) hS (lv_sub hl [1, 2, 0] rfl)
              · refine lv_sipush (v := (nI 128)) hx hb dX4_groups_85 (by decide) ?_
                refine lv_goto (tgt := 92) hx hb dX4_groups_88 (by decide) ?_
                refine lv_iadd hx hb dX4_groups_92 ?_
                refine lv_topi (fun x92 e92 => ?_)
                obtain rfl : x92 = nI (rs + 128) := e92.trans (nI_add _ _)
                refine va_iast hx hb hK hP hD hS 1 0 rfl rfl (vp_in_nI (by omega) (by omega)) dX4_groups_93 (fun H locs hP hD hS => ?_)
                have hP : va_P (dC, dI) vwCl [(m5, .inl (cI, 40, .inl (fun j => nI (z j)))), (m8, .inl (cI, 500, .inl (upd (fun j => nI (u2 j)) (nI k).toNatClampNeg (nI (rs + 128))))), (m9, .inl (cB, 8000, .inl (fun j => sb_b (g j)))), (mx, .inr (4, [.int 0, .int (nI n), .int (nI dn), .int (nI bn), .int (nI k), .ref m5, .ref m6, .ref m7, .ref m8, .ref m9, .ref m10, .ref m11])), (m6, .inl (cI, 210, .inl (fun j => nI (g3_75 j))))] H := hP
                have hD : va_D A [(m5, .inl (cI, 40, .inl (fun j => nI (z j)))), (m8, .inl (cI, 500, .inl (upd (fun j => nI (u2 j)) (nI k).toNatClampNeg (nI (rs + 128))))), (m9, .inl (cB, 8000, .inl (fun j => sb_b (g j)))), (mx, .inr (4, [.int 0, .int (nI n), .int (nI dn), .int (nI bn), .int (nI k), .ref m5, .ref m6, .ref m7, .ref m8, .ref m9, .ref m10, .ref m11])), (m6, .inl (cI, 210, .inl (fun j => nI (g3_75 j))))] := hD
                obtain ⟨f93, e93⟩ : ∃ zz9 : Nat → Int32, zz9 = upd (fun j => nI (u2 j)) (nI k).toNatClampNeg (nI (rs + 128)) := ⟨_, rfl⟩
                rw [← e93] at hP hD
                obtain rfl : f93 = fun j => nI (va_up u2 k (rs + 128) j) := e93.trans (upg (by omega))
                refine lv_aload_n hx hb dX4_groups_94 rfl (lv_at hl 0 rfl) ?_
                refine lv_dup hx hb dX4_groups_95 rfl ?_
                refine va_get (D := (dC, dI)) (ci := 4) (v := .int (nI k)) (C := RX4) (T := TX4) (N := 12) hx hb hts hinX4 hown hK hP 3 rfl rfl 4 (by decide) (hts (.fieldLink RX4 75 "NumberContentsModel" "outMany" "I") (by decide +kernel)) (fun _ h9 => h9) rfl dX4_groups_96 ?_
                refine lv_iconst (v := 1) hx hb dX4_groups_99 (by decide) ?_
                refine lv_iadd hx hb dX4_groups_100 ?_
                refine lv_topi (fun x100 e100 => ?_)
                obtain rfl : x100 = nI (k + 1) := e100.trans (nI_1 _)
                refine va_put (D := (dC, dI)) (ci := 4) (v := .int (nI (k + 1))) (ty := .int) (C := RX4) (T := TX4) (N := 12) hx hb hts hinX4 tyX4 tyX4_ok nmX4 hown hK hP hD hS 3 rfl rfl 4 (by decide) (hts (.fieldLink RX4 75 "NumberContentsModel" "outMany" "I") (by decide +kernel)) (fun _ h9 => h9) rfl (by decide +kernel) rfl rfl (Nat.le_of_ble_eq_true rfl) dX4_groups_101 (fun H locs hP hD hS => ?_)
                have hP : va_P (dC, dI) vwCl [(m5, .inl (cI, 40, .inl (fun j => nI (z j)))), (m8, .inl (cI, 500, .inl (fun j => nI (va_up u2 k (rs + 128) j)))), (m9, .inl (cB, 8000, .inl (fun j => sb_b (g j)))), (mx, .inr (4, [.int 0, .int (nI n), .int (nI dn), .int (nI bn), .int (nI (k + 1)), .ref m5, .ref m6, .ref m7, .ref m8, .ref m9, .ref m10, .ref m11])), (m6, .inl (cI, 210, .inl (fun j => nI (g3_75 j))))] H := hP
                have hD : va_D A [(m5, .inl (cI, 40, .inl (fun j => nI (z j)))), (m8, .inl (cI, 500, .inl (fun j => nI (va_up u2 k (rs + 128) j)))), (m9, .inl (cB, 8000, .inl (fun j => sb_b (g j)))), (mx, .inr (4, [.int 0, .int (nI n), .int (nI dn), .int (nI bn), .int (nI (k + 1)), .ref m5, .ref m6, .ref m7, .ref m8, .ref m9, .ref m10, .ref m11])), (m6, .inl (cI, 210, .inl (fun j => nI (g3_75 j))))] := hD
                refine lv_aload_n hx hb dX4_groups_104 rfl (lv_at hl 0 rfl) ?_
                have hPc := hP.sub (ws' := [(mx, .inr (4, [.int 0, .int (nI n), .int (nI dn), .int (nI bn), .int (nI (k + 1)), .ref m5, .ref m6, .ref m7, .ref m8, .ref m9, .ref m10, .ref m11])), (m6, .inl (cI, 210, .inl (fun j => nI (g3_75 j))))]) [3, 4] rfl
                have hKc := hK.sub (tys' := [(cI, .int)]) [0] rfl
                refine vp_callSi (W.runV (As := []) (rest := []) ⟨hx, hb, hml, hown, hts⟩ (c_X4_isNone l dC dI cI mx m5 m6 m7 m8 m9 m10 m11 n dn bn (k + 1) 0 g3_75 hr4) (cwV 0 hts gX4_groups_X4_isNone rfl rfl rfl (by decide +kernel) ⟨Nat.le_of_ble_eq_true rfl, Nat.le_of_ble_eq_true rfl⟩) ⟨fun a U g mk q => by obtain ⟨q0, qP, qK⟩ := q; exact ⟨q0, qP, va_K.moved (u := U) (U := U.calling g mk a) (Vm.Alike.refl U.vm) qK⟩, va_recv hK hP (ci := 4) (q0 := 3) rfl rfl, fun U hU hW => ⟨rfl, by rw [hU]; exact hPc, va_K.moved hW.alike hKc⟩⟩ rfl rfl hl.1 rfl (lv_room (Nat.le_of_ble_eq_true rfl)) dX4_groups_105 ⟨Nat.le_of_ble_eq_true rfl, Nat.le_of_ble_eq_true rfl⟩) (fun r105 h105 => ?_)
                refine lv_if_ne (tgt := 115) hx hb dX4_groups_108 (by decide) (fun c108 => ?_) (fun c108 => ?_)
                · refine lv_iconst (v := 0) hx hb dX4_groups_115 (by decide) ?_
                  refine lv_istore_n (lv' := [(2, .int 0), (0, .ref mx), (1, .int (nI a))]) hx hb dX4_groups_116 rfl hl (by decide) rfl (fun ls hl => ?_)
                  refine lv_goto (tgt := 59) hx hb dX4_groups_117 (by decide) ?_
                  have hdq := dq_step (by decide) hv hr3 hr2
                  have hms := mor_step (by decide) hmo c60 hdq.2 h105
                  exact ih59 (k + 1) 0 g3_75 (va_up u2 k (rs + 128)) (by omega) (by omega) hr4 hdq.2 (up_lt hu2 (by omega)) (gl_step hd (by rw [hdq.1, if_neg (fun y => c82 ((nI_le0 (by omega)).mpr (by omega)))])) (hms.2 c108) _ _ _ (hP.sub [3, 0, 4, 1, 2] rfl) (hD.sub [3, 0, 4, 1, 2] (by decide) rfl) hS (lv_sub hl [1, 2, 0] rfl)
                · refine lv_iconst (v := 1) hx hb dX4_groups_111 (by decide) ?_
                  refine lv_goto (tgt := 116) hx hb dX4_groups_112 (by decide) ?_
                  refine lv_istore_n (lv' := [(2, .int 1), (0, .ref mx), (1, .int (nI a))]) hx hb dX4_groups_116 rfl hl (by decide) rfl (fun ls hl => ?_)
                  refine lv_goto (tgt := 59) hx hb dX4_groups_117 (by decide) ?_
                  have hdq := dq_step (by decide) hv hr3 hr2
                  have hms := mor_step (by decide) hmo c60 hdq.2 h105
                  exact ih59 (k + 1) 1 g3_75 (va_up u2 k (rs + 128)) (by omega) (by omega) hr4 hdq.2 (up_lt hu2 (by omega)) (gl_step hd (by rw [hdq.1, if_neg (fun y => c82 ((nI_le0 (by omega)).mpr (by omega)))])) (hms.1 c108) _ _ _ (hP.sub [3, 0, 4, 1, 2] rfl) (hD.sub [3, 0, 4, 1, 2] (by decide) rfl) hS (lv_sub hl [1, 2, 0] rfl)
        exact LP59 _ 0 1 f3_49 wr (Nat.lt_succ_self _) (by omega) h49.1 (by rw [Nat.pow_zero, Nat.div_one]; exact pm_v h49.1 h49.2 hnn) hwr (fun j h => absurd h (by omega)) (Or.inl ⟨rfl, Or.inl rfl⟩) _ _ _ (hP.sub [1, 2, 4, 0, 3] rfl) (hD.sub [1, 2, 4, 0, 3] (by decide) rfl) hS (lv_sub hl [1, 2, 0] rfl)
      · first | exact absurd c38 (by decide) | exact (c38 (by decide)).elim
    · refine lv_iconst (v := 2) hx hb dX4_groups_26 (by decide) ?_
      refine lv_goto (tgt := 31) hx hb dX4_groups_27 (by decide) ?_
      refine va_put (D := (dC, dI)) (ci := 4) (v := .int 2) (ty := .int) (C := RX4) (T := TX4) (N := 12) hx hb hts hinX4 tyX4 tyX4_ok nmX4 hown hK hP hD hS 0 rfl rfl 0 (by decide) (hts (.fieldLink RX4 32 "NumberContentsModel" "thrown" "I") (by decide +kernel)) (fun _ h9 => h9) rfl (by decide +kernel) rfl rfl (Nat.le_of_ble_eq_true rfl) dX4_groups_31 (fun H locs hP hD hS => ?_)
      have hP : va_P (dC, dI) vwCl [(mx, .inr (4, [.int 2, .int (nI n), .int (nI dn), .int (nI bn), .int (nI wn), .ref m5, .ref m6, .ref m7, .ref m8, .ref m9, .ref m10, .ref m11])), (m5, .inl (cI, 40, .inl (fun j => nI (z j)))), (m6, .inl (cI, 210, .inl (fun j => nI (rw j)))), (m8, .inl (cI, 500, .inl (fun j => nI (wr j)))), (m9, .inl (cB, 8000, .inl (fun j => sb_b (g j))))] H := hP
      have hD : va_D A [(mx, .inr (4, [.int 2, .int (nI n), .int (nI dn), .int (nI bn), .int (nI wn), .ref m5, .ref m6, .ref m7, .ref m8, .ref m9, .ref m10, .ref m11])), (m5, .inl (cI, 40, .inl (fun j => nI (z j)))), (m6, .inl (cI, 210, .inl (fun j => nI (rw j)))), (m8, .inl (cI, 500, .inl (fun j => nI (wr j)))), (m9, .inl (cB, 8000, .inl (fun j => sb_b (g j))))] := hD
      refine lv_aload_n hx hb dX4_groups_34 rfl (lv_at hl 0 rfl) ?_
      refine va_get (D := (dC, dI)) (ci := 4) (v := .int 2) (C := RX4) (T := TX4) (N := 12) hx hb hts hinX4 hown hK hP 0 rfl rfl 0 (by decide) (hts (.fieldLink RX4 32 "NumberContentsModel" "thrown" "I") (by decide +kernel)) (fun _ h9 => h9) rfl dX4_groups_35 ?_
      refine lv_if_le (tgt := 43) hx hb dX4_groups_38 (by decide) (fun c38 => ?_) (fun c38 => ?_)
      · first | exact absurd c38 (by decide) | exact (c38 (by decide)).elim
      · refine lv_iconst (v := 0) hx hb dX4_groups_41 (by decide) ?_
        have hP9 := hP.sub (ws' := [(mx, .inr (4, [.int 2, .int (nI n), .int (nI dn), .int (nI bn), .int (nI wn), .ref m5, .ref m6, .ref m7, .ref m8, .ref m9, .ref m10, .ref m11])), (m5, .inl (cI, 40, .inl (fun j => nI (z j)))), (m6, .inl (cI, 210, .inl (fun j => nI (rw j)))), (m8, .inl (cI, 500, .inl (fun j => nI (wr j)))), (m9, .inl (cB, 8000, .inl (fun j => sb_b (g j))))]) [0, 1, 2, 3, 4] rfl
        have hD9 := hD.sub (ws' := [(mx, .inr (4, [.int 2, .int (nI n), .int (nI dn), .int (nI bn), .int (nI wn), .ref m5, .ref m6, .ref m7, .ref m8, .ref m9, .ref m10, .ref m11])), (m5, .inl (cI, 40, .inl (fun j => nI (z j)))), (m6, .inl (cI, 210, .inl (fun j => nI (rw j)))), (m8, .inl (cI, 500, .inl (fun j => nI (wr j)))), (m9, .inl (cB, 8000, .inl (fun j => sb_b (g j))))]) [0, 1, 2, 3, 4] (by decide) rfl
        have hK9 := hK.sub (tys' := [(cI, .int), (cB, .byte)]) [0, 1] rfl
        exact W.iret (v := 0) hx hb hr (fun tS htS hW => ⟨⟨0, (2, wn, wr, rw), rfl, (by first | exact ⟨hrw, hwr, Or.inr (Or.inl ⟨rfl, rfl, rfl, a, rfl, ha, mv_ng hg (Nat.le_of_not_lt (fun y => c23 ((sb_ge _ (hg _)).mpr y)))⟩)⟩ | exact ⟨hrw, hwr, Or.inl ⟨rfl, rfl, rfl, ite_r h3 c6⟩⟩), by rw [htS]; exact hP9, va_K.moved hW.alike hK9, hD9⟩, hS.F htS⟩) hS.2.2 dX4_groups_42
  · refine lv_iconst (v := 1) hx hb dX4_groups_9 (by decide) ?_
    refine lv_goto (tgt := 31) hx hb dX4_groups_10 (by decide) ?_
    refine va_put (D := (dC, dI)) (ci := 4) (v := .int 1) (ty := .int) (C := RX4) (T := TX4) (N := 12) hx hb hts hinX4 tyX4 tyX4_ok nmX4 hown hK hP hD hS 0 rfl rfl 0 (by decide) (hts (.fieldLink RX4 32 "NumberContentsModel" "thrown" "I") (by decide +kernel)) (fun _ h9 => h9) rfl (by decide +kernel) rfl rfl (Nat.le_of_ble_eq_true rfl) dX4_groups_31 (fun H locs hP hD hS => ?_)
    have hP : va_P (dC, dI) vwCl [(mx, .inr (4, [.int 1, .int (nI n), .int (nI dn), .int (nI bn), .int (nI wn), .ref m5, .ref m6, .ref m7, .ref m8, .ref m9, .ref m10, .ref m11])), (m5, .inl (cI, 40, .inl (fun j => nI (z j)))), (m6, .inl (cI, 210, .inl (fun j => nI (rw j)))), (m8, .inl (cI, 500, .inl (fun j => nI (wr j)))), (m9, .inl (cB, 8000, .inl (fun j => sb_b (g j))))] H := hP
    have hD : va_D A [(mx, .inr (4, [.int 1, .int (nI n), .int (nI dn), .int (nI bn), .int (nI wn), .ref m5, .ref m6, .ref m7, .ref m8, .ref m9, .ref m10, .ref m11])), (m5, .inl (cI, 40, .inl (fun j => nI (z j)))), (m6, .inl (cI, 210, .inl (fun j => nI (rw j)))), (m8, .inl (cI, 500, .inl (fun j => nI (wr j)))), (m9, .inl (cB, 8000, .inl (fun j => sb_b (g j))))] := hD
    refine lv_aload_n hx hb dX4_groups_34 rfl (lv_at hl 0 rfl) ?_
    refine va_get (D := (dC, dI)) (ci := 4) (v := .int 1) (C := RX4) (T := TX4) (N := 12) hx hb hts hinX4 hown hK hP 0 rfl rfl 0 (by decide) (hts (.fieldLink RX4 32 "NumberContentsModel" "thrown" "I") (by decide +kernel)) (fun _ h9 => h9) rfl dX4_groups_35 ?_
    refine lv_if_le (tgt := 43) hx hb dX4_groups_38 (by decide) (fun c38 => ?_) (fun c38 => ?_)
    · first | exact absurd c38 (by decide) | exact (c38 (by decide)).elim
    · refine lv_iconst (v := 0) hx hb dX4_groups_41 (by decide) ?_
      have hP9 := hP.sub (ws' := [(mx, .inr (4, [.int 1, .int (nI n), .int (nI dn), .int (nI bn), .int (nI wn), .ref m5, .ref m6, .ref m7, .ref m8, .ref m9, .ref m10, .ref m11])), (m5, .inl (cI, 40, .inl (fun j => nI (z j)))), (m6, .inl (cI, 210, .inl (fun j => nI (rw j)))), (m8, .inl (cI, 500, .inl (fun j => nI (wr j)))), (m9, .inl (cB, 8000, .inl (fun j => sb_b (g j))))]) [0, 1, 2, 3, 4] rfl
      have hD9 := hD.sub (ws' := [(mx, .inr (4, [.int 1, .int (nI n), .int (nI dn), .int (nI bn), .int (nI wn), .ref m5, .ref m6, .ref m7, .ref m8, .ref m9, .ref m10, .ref m11])), (m5, .inl (cI, 40, .inl (fun j => nI (z j)))), (m6, .inl (cI, 210, .inl (fun j => nI (rw j)))), (m8, .inl (cI, 500, .inl (fun j => nI (wr j)))), (m9, .inl (cB, 8000, .inl (fun j => sb_b (g j))))]) [0, 1, 2, 3, 4] (by decide) rfl
      have hK9 := hK.sub (tys' := [(cI, .int), (cB, .byte)]) [0, 1] rfl
      exact W.iret (v := 0) hx hb hr (fun tS htS hW => ⟨⟨0, (1, wn, wr, rw), rfl, (by first | exact ⟨hrw, hwr, Or.inr (Or.inl ⟨rfl, rfl, rfl, a, rfl, ha, mv_ng hg (Nat.le_of_not_lt (fun y => c23 ((sb_ge _ (hg _)).mpr y)))⟩)⟩ | exact ⟨hrw, hwr, Or.inl ⟨rfl, rfl, rfl, ite_r h3 c6⟩⟩), by rw [htS]; exact hP9, va_K.moved hW.alike hK9, hD9⟩, hS.F htS⟩) hS.2.2 dX4_groups_42

set_option maxHeartbeats 4000000 in
set_option maxRecDepth 100000 in
theorem c_X4_back (l : Launch) (dC : Nat → ClassId) (dI : Nat → Nat → Nat) (cI cB : ClassId) (mx m5 m6 m7 m8 m9 m10 m11 n dn bn wn : Nat) (th : Int32) (g z rw wr : Nat → Nat) (sz : Nat) (hI : XM n g z) (hrw : ∀ j, rw j < 256) (hwn : wn ≤ 487) (hwr : ∀ j, wr j < 256) (hwg : wn ≤ 229 ∨ ∀ j, j < wn → wr j < 128) : Met l yX4_back wsX4_back ({ frames := 3, cells := 0, slots := 0, locals := 66 } : Room) (va_Pc [.ref mx] (fun U => U.heap.size = sz ∧ va_P (dC, dI) vwCl [(mx, .inr (4, [.int th, .int (nI n), .int (nI dn), .int (nI bn), .int (nI wn), .ref m5, .ref m6, .ref m7, .ref m8, .ref m9, .ref m10, .ref m11])), (m5, .inl (cI, 40, .inl (fun j => nI (z j)))), (m6, .inl (cI, 210, .inl (fun j => nI (rw j)))), (m8, .inl (cI, 500, .inl (fun j => nI (wr j)))), (m9, .inl (cB, 8000, .inl (fun j => sb_b (g j))))] U.heap ∧ va_K (dC, dI) vwCl [(cI, .int), (cB, .byte)] U ∧ va_D (fun _ => True) [(mx, .inr (4, [.int th, .int (nI n), .int (nI dn), .int (nI bn), .int (nI wn), .ref m5, .ref m6, .ref m7, .ref m8, .ref m9, .ref m10, .ref m11])), (m5, .inl (cI, 40, .inl (fun j => nI (z j)))), (m6, .inl (cI, 210, .inl (fun j => nI (rw j)))), (m8, .inl (cI, 500, .inl (fun j => nI (wr j)))), (m9, .inl (cB, 8000, .inl (fun j => sb_b (g j))))])) (va_Qi (fun (r : Int32) (uS : Int32 × Nat × (Nat → Nat) × (Nat → Nat) × (Nat → Nat)) => match uS with | (th3, n3, g3, z3, rw3) => (∀ j, rw3 j < 256) ∧ ((th3 = 1 ∧ n3 = n ∧ g3 = g ∧ z3 = z ∧ ¬ (wn ≤ 229 ∧ GR wn wr)) ∨ (th3 = 0 ∧ n3 = n + 1 ∧ (wn ≤ 229 ∧ GR wn wr) ∧ KEPTM n g z g3 z3 (hn7 wr wn) r) ∨ (th3 = 2 ∧ n3 = n ∧ g3 = g ∧ z3 = z ∧ (wn ≤ 229 ∧ GR wn wr) ∧ NOKEEP n (hn7 wr wn)))) (fun (uS : Int32 × Nat × (Nat → Nat) × (Nat → Nat) × (Nat → Nat)) (tS : State) => match uS with | (th3, n3, g3, z3, rw3) => va_P (dC, dI) vwCl [(mx, .inr (4, [.int th3, .int (nI n3), .int (nI dn), .int (nI bn), .int (nI wn), .ref m5, .ref m6, .ref m7, .ref m8, .ref m9, .ref m10, .ref m11])), (m5, .inl (cI, 40, .inl (fun j => nI (z3 j)))), (m6, .inl (cI, 210, .inl (fun j => nI (rw3 j)))), (m8, .inl (cI, 500, .inl (fun j => nI (wr j)))), (m9, .inl (cB, 8000, .inl (fun j => sb_b (g3 j))))] tS.heap ∧ va_K (dC, dI) vwCl [(cI, .int), (cB, .byte)] tS ∧ va_D (va_A [(mx, .inr (4, [.int th, .int (nI n), .int (nI dn), .int (nI bn), .int (nI wn), .ref m5, .ref m6, .ref m7, .ref m8, .ref m9, .ref m10, .ref m11])), (m5, .inl (cI, 40, .inl (fun j => nI (z j)))), (m6, .inl (cI, 210, .inl (fun j => nI (rw j)))), (m8, .inl (cI, 500, .inl (fun j => nI (wr j)))), (m9, .inl (cB, 8000, .inl (fun j => sb_b (g j))))] sz) [(mx, .inr (4, [.int th3, .int (nI n3), .int (nI dn), .int (nI bn), .int (nI wn), .ref m5, .ref m6, .ref m7, .ref m8, .ref m9, .ref m10, .ref m11])), (m5, .inl (cI, 40, .inl (fun j => nI (z3 j)))), (m6, .inl (cI, 210, .inl (fun j => nI (rw3 j)))), (m8, .inl (cI, 500, .inl (fun j => nI (wr j)))), (m9, .inl (cB, 8000, .inl (fun j => sb_b (g3 j))))]) (va_A [(mx, .inr (4, [.int th, .int (nI n), .int (nI dn), .int (nI bn), .int (nI wn), .ref m5, .ref m6, .ref m7, .ref m8, .ref m9, .ref m10, .ref m11])), (m5, .inl (cI, 40, .inl (fun j => nI (z j)))), (m6, .inl (cI, 210, .inl (fun j => nI (rw j)))), (m8, .inl (cI, 500, .inl (fun j => nI (wr j)))), (m9, .inl (cB, 8000, .inl (fun j => sb_b (g j))))] sz)) 0 0 (va_A [(mx, .inr (4, [.int th, .int (nI n), .int (nI dn), .int (nI bn), .int (nI wn), .ref m5, .ref m6, .ref m7, .ref m8, .ref m9, .ref m10, .ref m11])), (m5, .inl (cI, 40, .inl (fun j => nI (z j)))), (m6, .inl (cI, 210, .inl (fun j => nI (rw j)))), (m8, .inl (cI, 500, .inl (fun j => nI (wr j)))), (m9, .inl (cB, 8000, .inl (fun j => sb_b (g j))))] sz) := by
  refine Met.ofW (cc := cX4_back) (maxL := 3) (ret := (some .int)) (by decide) rfl ?_
  intro p e s m args below meth c s₁ B hml hv
  obtain ⟨rfl, hsz, hP, hK, hD0⟩ := hv
  have hx := B.exec
  have hb := B.bytes
  have hr := B.returns
  have hts := atoms_spec (ws := wsX4_back) B.pre
  have hown : s.vm.findClass RX4 = some m.cls := findClass_of_methodNamed B.named
  have hlocks := B.notSynchronized
  subst hsz
  have hD := hD0.self (sz := s.heap.size)
  generalize hAe : va_A [(mx, .inr (4, [.int th, .int (nI n), .int (nI dn), .int (nI bn), .int (nI wn), .ref m5, .ref m6, .ref m7, .ref m8, .ref m9, .ref m10, .ref m11])), (m5, .inl (cI, 40, .inl (fun j => nI (z j)))), (m6, .inl (cI, 210, .inl (fun j => nI (rw j)))), (m8, .inl (cI, 500, .inl (fun j => nI (wr j)))), (m9, .inl (cB, 8000, .inl (fun j => sb_b (g j))))] s.heap.size = A at hD ⊢
  have hA : ∀ q : Nat, s.heap.size ≤ q → A q := fun q h => by rw [← hAe]; exact Or.inr h
  have hS : va_S A s.heap s.heap [] := va_S.rf
  have hinX4 : ∀ w ∈ wsX40, w ∈ wsX4_back := by decide +kernel
  have hl := lv_entry ([.ref mx]) (n := 3) (Nat.le_of_ble_eq_true rfl)
  rw [lg_entry_eq]
  generalize (lg_sl ([.ref mx]) ++ List.replicate (3 - (lg_sl ([.ref mx])).length) Slot.unset).toArray = ls at hl ⊢
  have hl : lv_has ls 3 [(0, .ref mx)] := hl
  obtain ⟨hg, hn, hz, hq⟩ := id hI
  refine lv_aload_n hx hb dX4_back_0 rfl (lv_at hl 0 rfl) ?_
  refine va_get (D := (dC, dI)) (ci := 4) (v := .int (nI wn)) (C := RX4) (T := TX4) (N := 12) hx hb hts hinX4 hown hK hP 0 rfl rfl 4 (by decide) (hts (.fieldLink RX4 75 "NumberContentsModel" "outMany" "I") (by decide +kernel)) (fun _ h9 => h9) rfl dX4_back_1 ?_
  refine lv_if_le (tgt := 23) hx hb dX4_back_4 (by decide) (fun c4 => ?_) (fun c4 => ?_)
  · refine lv_iconst (v := 0) hx hb dX4_back_23 (by decide) ?_
    refine lv_istore_n (lv' := [(1, .int 0), (0, .ref mx)]) hx hb dX4_back_24 rfl hl (by decide) rfl (fun ls hl => ?_)
    refine lv_iconst (v := (nI 0)) hx hb dX4_back_25 (by decide) ?_
    refine lv_istore_n (lv' := [(2, .int (nI 0)), (1, .int 0), (0, .ref mx)]) hx hb dX4_back_26 rfl hl (by decide) rfl (fun ls hl => ?_)
    have LP27 : ∀ (n9 : Nat) (k : Nat) (gd : Int32) (hm : (wn - k) < n9) (hk : k ≤ wn) (hgd : (gd = 1 ∧ 1 ≤ wn ∧ wr 0 ≠ 128 ∧ ∀ j, j < k → (128 ≤ wr j ↔ j < wn - 1)) ∨ (gd = 0 ∧ ¬ GR wn wr)) (H : Heap) (locs : List Loc) (ls : Array Slot) (hP : va_P (dC, dI) vwCl [(mx, .inr (4, [.int th, .int (nI n), .int (nI dn), .int (nI bn), .int (nI wn), .ref m5, .ref m6, .ref m7, .ref m8, .ref m9, .ref m10, .ref m11])), (m5, .inl (cI, 40, .inl (fun j => nI (z j)))), (m6, .inl (cI, 210, .inl (fun j => nI (rw j)))), (m8, .inl (cI, 500, .inl (fun j => nI (wr j)))), (m9, .inl (cB, 8000, .inl (fun j => sb_b (g j))))] H) (hD : va_D A [(mx, .inr (4, [.int th, .int (nI n), .int (nI dn), .int (nI bn), .int (nI wn), .ref m5, .ref m6, .ref m7, .ref m8, .ref m9, .ref m10, .ref m11])), (m5, .inl (cI, 40, .inl (fun j => nI (z j)))), (m6, .inl (cI, 210, .inl (fun j => nI (rw j)))), (m8, .inl (cI, 500, .inl (fun j => nI (wr j)))), (m9, .inl (cB, 8000, .inl (fun j => sb_b (g j))))]) (hS : va_S A s.heap H locs) (hl : lv_has ls 3 [(0, .ref mx), (1, .int gd), (2, .int (nI k))]), W p l e (headSpec wsX4_back ({ frames := 3, cells := 0, slots := 0, locals := 66 } : Room)).room s m ([.ref mx]).toArray below meth c H locs 0 0 (MQ below (va_Qi (fun (r : Int32) (uS : Int32 × Nat × (Nat → Nat) × (Nat → Nat) × (Nat → Nat)) => match uS with | (th3, n3, g3, z3, rw3) => (∀ j, rw3 j < 256) ∧ ((th3 = 1 ∧ n3 = n ∧ g3 = g ∧ z3 = z ∧ ¬ (wn ≤ 229 ∧ GR wn wr)) ∨ (th3 = 0 ∧ n3 = n + 1 ∧ (wn ≤ 229 ∧ GR wn wr) ∧ KEPTM n g z g3 z3 (hn7 wr wn) r) ∨ (th3 = 2 ∧ n3 = n ∧ g3 = g ∧ z3 = z ∧ (wn ≤ 229 ∧ GR wn wr) ∧ NOKEEP n (hn7 wr wn)))) (fun (uS : Int32 × Nat × (Nat → Nat) × (Nat → Nat) × (Nat → Nat)) (tS : State) => match uS with | (th3, n3, g3, z3, rw3) => va_P (dC, dI) vwCl [(mx, .inr (4, [.int th3, .int (nI n3), .int (nI dn), .int (nI bn), .int (nI wn), .ref m5, .ref m6, .ref m7, .ref m8, .ref m9, .ref m10, .ref m11])), (m5, .inl (cI, 40, .inl (fun j => nI (z3 j)))), (m6, .inl (cI, 210, .inl (fun j => nI (rw3 j)))), (m8, .inl (cI, 500, .inl (fun j => nI (wr j)))), (m9, .inl (cB, 8000, .inl (fun j => sb_b (g3 j))))] tS.heap ∧ va_K (dC, dI) vwCl [(cI, .int), (cB, .byte)] tS ∧ va_D A [(mx, .inr (4, [.int th3, .int (nI n3), .int (nI dn), .int (nI bn), .int (nI wn), .ref m5, .ref m6, .ref m7, .ref m8, .ref m9, .ref m10, .ref m11])), (m5, .inl (cI, 40, .inl (fun j => nI (z3 j)))), (m6, .inl (cI, 210, .inl (fun j => nI (rw3 j)))), (m8, .inl (cI, 500, .inl (fun j => nI (wr j)))), (m9, .inl (cB, 8000, .inl (fun j => sb_b (g3 j))))]) A) ([.ref mx]).toArray s 0 0 A) (F0 m 27 ls []) := by
      intro n9
      induction n9 with
      | zero => intro k gd hm; exact absurd hm (Nat.not_lt_zero _)
      | succ n9 ih =>
        intro k gd hm hk hgd H locs ls hP hD hS hl
        have ih27 := ih
        refine lv_iload_n hx hb dX4_back_27 rfl (lv_at hl 2 rfl) ?_
        refine lv_aload_n hx hb dX4_back_28 rfl (lv_at hl 0 rfl) ?_
        refine va_get (D := (dC, dI)) (ci := 4) (v := .int (nI wn)) (C := RX4) (T := TX4) (N := 12) hx hb hts hinX4 hown hK hP 0 rfl rfl 4 (by decide) (hts (.fieldLink RX4 75 "NumberContentsModel" "outMany" "I") (by decide +kernel)) (fun _ h9 => h9) rfl dX4_back_29 ?_
        refine lv_icmp_ge (tgt := 85) hx hb dX4_back_32 (by decide) (fun c32 => ?_) (fun c32 => ?_)
        · obtain rfl : wn = k := Nat.le_antisymm ((nI_leI (by omega) (by omega)).mp c32) hk
          have hge := gd_end hgd
          refine lv_aload_n hx hb dX4_back_85 rfl (lv_at hl 0 rfl) ?_
          refine lv_iload_n hx hb dX4_back_86 rfl (lv_at hl 1 rfl) ?_
          refine lv_if_ne (tgt := 94) hx hb dX4_back_87 (by decide) (fun c87 => ?_) (fun c87 => ?_)
          · refine lv_iconst (v := 0) hx hb dX4_back_94 (by decide) ?_
            refine va_put (D := (dC, dI)) (ci := 4) (v := .int 0) (ty := .int) (C := RX4) (T := TX4) (N := 12) hx hb hts hinX4 tyX4 tyX4_ok nmX4 hown hK hP hD hS 0 rfl rfl 0 (by decide) (hts (.fieldLink RX4 32 "NumberContentsModel" "thrown" "I") (by decide +kernel)) (fun _ h9 => h9) rfl (by decide +kernel) rfl rfl (Nat.le_of_ble_eq_true rfl) dX4_back_95 (fun H locs hP hD hS => ?_)
            have hP : va_P (dC, dI) vwCl [(mx, .inr (4, [.int 0, .int (nI n), .int (nI dn), .int (nI bn), .int (nI wn), .ref m5, .ref m6, .ref m7, .ref m8, .ref m9, .ref m10, .ref m11])), (m5, .inl (cI, 40, .inl (fun j => nI (z j)))), (m6, .inl (cI, 210, .inl (fun j => nI (rw j)))), (m8, .inl (cI, 500, .inl (fun j => nI (wr j)))), (m9, .inl (cB, 8000, .inl (fun j => sb_b (g j))))] H := hP
            have hD : va_D A [(mx, .inr (4, [.int 0, .int (nI n), .int (nI dn), .int (nI bn), .int (nI wn), .ref m5, .ref m6, .ref m7, .ref m8, .ref m9, .ref m10, .ref m11])), (m5, .inl (cI, 40, .inl (fun j => nI (z j)))), (m6, .inl (cI, 210, .inl (fun j => nI (rw j)))), (m8, .inl (cI, 500, .inl (fun j => nI (wr j)))), (m9, .inl (cB, 8000, .inl (fun j => sb_b (g j))))] := hD
            refine lv_aload_n hx hb dX4_back_98 rfl (lv_at hl 0 rfl) ?_
            refine va_get (D := (dC, dI)) (ci := 4) (v := .int 0) (C := RX4) (T := TX4) (N := 12) hx hb hts hinX4 hown hK hP 0 rfl rfl 0 (by decide) (hts (.fieldLink RX4 32 "NumberContentsModel" "thrown" "I") (by decide +kernel)) (fun _ h9 => h9) rfl dX4_back_99 ?_
            refine lv_if_le (tgt := 107) hx hb dX4_back_102 (by decide) (fun c102 => ?_) (fun c102 => ?_)
            · have hgr := ite_s hge c87
              have hw229 := gr_229 hwg hgr
              refine lv_iconst (v := (nI 0)) hx hb dX4_back_107 (by decide) ?_
              refine lv_istore_n (lv' := [(2, .int (nI 0)), (0, .ref mx), (1, .int gd)]) hx hb dX4_back_108 rfl hl (by decide) rfl (fun ls hl => ?_)
              have LP109 : ∀ (n9 : Nat) (i : Nat) (w2 : Nat → Nat) (hm : (210 - i) < n9) (hi : i ≤ 210) (hw2 : ∀ j, w2 j < 256) (hz2 : ∀ j, j < i → w2 j = 0) (H : Heap) (locs : List Loc) (ls : Array Slot) (hP : va_P (dC, dI) vwCl [(mx, .inr (4, [.int 0, .int (nI n), .int (nI dn), .int (nI bn), .int (nI wn), .ref m5, .ref m6, .ref m7, .ref m8, .ref m9, .ref m10, .ref m11])), (m5, .inl (cI, 40, .inl (fun j => nI (z j)))), (m6, .inl (cI, 210, .inl (fun j => nI (w2 j)))), (m8, .inl (cI, 500, .inl (fun j => nI (wr j)))), (m9, .inl (cB, 8000, .inl (fun j => sb_b (g j))))] H) (hD : va_D A [(mx, .inr (4, [.int 0, .int (nI n), .int (nI dn), .int (nI bn), .int (nI wn), .ref m5, .ref m6, .ref m7, .ref m8, .ref m9, .ref m10, .ref m11])), (m5, .inl (cI, 40, .inl (fun j => nI (z j)))), (m6, .inl (cI, 210, .inl (fun j => nI (w2 j)))), (m8, .inl (cI, 500, .inl (fun j => nI (wr j)))), (m9, .inl (cB, 8000, .inl (fun j => sb_b (g j))))]) (hS : va_S A s.heap H locs) (hl : lv_has ls 3 [(0, .ref mx), (2, .int (nI i))]), W p l e (headSpec wsX4_back ({ frames := 3, cells := 0, slots := 0, locals := 66 } : Room)).room s m ([.ref mx]).toArray below meth c H locs 0 0 (MQ below (va_Qi (fun (r : Int32) (uS : Int32 × Nat × (Nat → Nat) × (Nat → Nat) × (Nat → Nat)) => match uS with | (th3, n3, g3, z3, rw3) => (∀ j, rw3 j < 256) ∧ ((th3 = 1 ∧ n3 = n ∧ g3 = g ∧ z3 = z ∧ ¬ (wn ≤ 229 ∧ GR wn wr)) ∨ (th3 = 0 ∧ n3 = n + 1 ∧ (wn ≤ 229 ∧ GR wn wr) ∧ KEPTM n g z g3 z3 (hn7 wr wn) r) ∨ (th3 = 2 ∧ n3 = n ∧ g3 = g ∧ z3 = z ∧ (wn ≤ 229 ∧ GR wn wr) ∧ NOKEEP n (hn7 wr wn)))) (fun (uS : Int32 × Nat × (Nat → Nat) × (Nat → Nat) × (Nat → Nat)) (tS : State) => match uS with | (th3, n3, g3, z3, rw3) => va_P (dC, dI) vwCl [(mx, .inr (4, [.int th3, .int (nI n3), .int (nI dn), .int (nI bn), .int (nI wn), .ref m5, .ref m6, .ref m7, .ref m8, .ref m9, .ref m10, .ref m11])), (m5, .inl (cI, 40, .inl (fun j => nI (z3 j)))), (m6, .inl (cI, 210, .inl (fun j => nI (rw3 j)))), (m8, .inl (cI, 500, .inl (fun j => nI (wr j)))), (m9, .inl (cB, 8000, .inl (fun j => sb_b (g3 j))))] tS.heap ∧ va_K (dC, dI) vwCl [(cI, .int), (cB, .byte)] tS ∧ va_D A [(mx, .inr (4, [.int th3, .int (nI n3), .int (nI dn), .int (nI bn), .int (nI wn), .ref m5, .ref m6, .ref m7, .ref m8, .ref m9, .ref m10, .ref m11])), (m5, .inl (cI, 40, .inl (fun j => nI (z3 j)))), (m6, .inl (cI, 210, .inl (fun j => nI (rw3 j)))), (m8, .inl (cI, 500, .inl (fun j => nI (wr j)))), (m9, .inl (cB, 8000, .inl (fun j => sb_b (g3 j))))]) A) ([.ref mx]).toArray s 0 0 A) (F0 m 109 ls []) := by
                intro n9
                induction n9 with
                | zero => intro i w2 hm; exact absurd hm (Nat.not_lt_zero _)
                | succ n9 ih =>
                  intro i w2 hm hi hw2 hz2 H locs ls hP hD hS hl
                  have ih109 := ih
                  refine lv_iload_n hx hb dX4_back_109 rfl (lv_at hl 1 rfl) ?_
                  refine lv_sipush (v := (nI 210)) hx hb dX4_back_110 (by decide) ?_
                  refine lv_icmp_ge (tgt := 129) hx hb dX4_back_113 (by decide) (fun c113 => ?_) (fun c113 => ?_)
                  · obtain rfl : i = 210 := Nat.le_antisymm hi ((nI_leI (by omega) (by omega)).mp c113)
                    refine lv_iconst (v := (nI 0)) hx hb dX4_back_129 (by decide) ?_
                    refine lv_istore_n (lv' := [(2, .int (nI 0)), (0, .ref mx)]) hx hb dX4_back_130 rfl hl (by decide) rfl (fun ls hl => ?_)
                    have LP131 : ∀ (n9 : Nat) (i2 : Nat) (w4 : Nat → Nat) (hm : (wn - i2) < n9) (hi2 : i2 ≤ wn) (hw4 : ∀ j, w4 j < 256) (hv4 : sv w4 210 = (hn7 wr i2 : Int)) (H : Heap) (locs : List Loc) (ls : Array Slot) (hP : va_P (dC, dI) vwCl [(mx, .inr (4, [.int 0, .int (nI n), .int (nI dn), .int (nI bn), .int (nI wn), .ref m5, .ref m6, .ref m7, .ref m8, .ref m9, .ref m10, .ref m11])), (m5, .inl (cI, 40, .inl (fun j => nI (z j)))), (m6, .inl (cI, 210, .inl (fun j => nI (w4 j)))), (m8, .inl (cI, 500, .inl (fun j => nI (wr j)))), (m9, .inl (cB, 8000, .inl (fun j => sb_b (g j))))] H) (hD : va_D A [(mx, .inr (4, [.int 0, .int (nI n), .int (nI dn), .int (nI bn), .int (nI wn), .ref m5, .ref m6, .ref m7, .ref m8, .ref m9, .ref m10, .ref m11])), (m5, .inl (cI, 40, .inl (fun j => nI (z j)))), (m6, .inl (cI, 210, .inl (fun j => nI (w4 j)))), (m8, .inl (cI, 500, .inl (fun j => nI (wr j)))), (m9, .inl (cB, 8000, .inl (fun j => sb_b (g j))))]) (hS : va_S A s.heap H locs) (hl : lv_has ls 3 [(0, .ref mx), (2, .int (nI i2))]), W p l e (headSpec wsX4_back ({ frames := 3, cells := 0, slots := 0, locals := 66 } : Room)).room s m ([.ref mx]).toArray below meth c H locs 0 0 (MQ below (va_Qi (fun (r : Int32) (uS : Int32 × Nat × (Nat → Nat) × (Nat → Nat) × (Nat → Nat)) => match uS with | (th3, n3, g3, z3, rw3) => (∀ j, rw3 j < 256) ∧ ((th3 = 1 ∧ n3 = n ∧ g3 = g ∧ z3 = z ∧ ¬ (wn ≤ 229 ∧ GR wn wr)) ∨ (th3 = 0 ∧ n3 = n + 1 ∧ (wn ≤ 229 ∧ GR wn wr) ∧ KEPTM n g z g3 z3 (hn7 wr wn) r) ∨ (th3 = 2 ∧ n3 = n ∧ g3 = g ∧ z3 = z ∧ (wn ≤ 229 ∧ GR wn wr) ∧ NOKEEP n (hn7 wr wn)))) (fun (uS : Int32 × Nat × (Nat → Nat) × (Nat → Nat) × (Nat → Nat)) (tS : State) => match uS with | (th3, n3, g3, z3, rw3) => va_P (dC, dI) vwCl [(mx, .inr (4, [.int th3, .int (nI n3), .int (nI dn), .int (nI bn), .int (nI wn), .ref m5, .ref m6, .ref m7, .ref m8, .ref m9, .ref m10, .ref m11])), (m5, .inl (cI, 40, .inl (fun j => nI (z3 j)))), (m6, .inl (cI, 210, .inl (fun j => nI (rw3 j)))), (m8, .inl (cI, 500, .inl (fun j => nI (wr j)))), (m9, .inl (cB, 8000, .inl (fun j => sb_b (g3 j))))] tS.heap ∧ va_K (dC, dI) vwCl [(cI, .int), (cB, .byte)] tS ∧ va_D A [(mx, .inr (4, [.int th3, .int (nI n3), .int (nI dn), .int (nI bn), .int (nI wn), .ref m5, .ref m6, .ref m7, .ref m8, .ref m9, .ref m10, .ref m11])), (m5, .inl (cI, 40, .inl (fun j => nI (z3 j)))), (m6, .inl (cI, 210, .inl (fun j => nI (rw3 j)))), (m8, .inl (cI, 500, .inl (fun j => nI (wr j)))), (m9, .inl (cB, 8000, .inl (fun j => sb_b (g3 j))))]) A) ([.ref mx]).toArray s 0 0 A) (F0 m 131 ls []) := by
                      intro n9
                      induction n9 with
                      | zero => intro i2 w4 hm; exact absurd hm (Nat.not_lt_zero _)
                      | succ n9 ih =>
                        intro i2 w4 hm hi2 hw4 hv4 H locs ls hP hD hS hl
                        have ih131 := ih
                        refine lv_iload_n hx hb dX4_back_131 rfl (lv_at hl 1 rfl) ?_
                        refine lv_aload_n hx hb dX4_back_132 rfl (lv_at hl 0 rfl) ?_
                        refine va_get (D := (dC, dI)) (ci := 4) (v := .int (nI wn)) (C := RX4) (T := TX4) (N := 12) hx hb hts hinX4 hown hK hP 0 rfl rfl 4 (by decide) (hts (.fieldLink RX4 75 "NumberContentsModel" "outMany" "I") (by decide +kernel)) (fun _ h9 => h9) rfl dX4_back_133 ?_
                        refine lv_icmp_ge (tgt := 161) hx hb dX4_back_136 (by decide) (fun c136 => ?_) (fun c136 => ?_)
                        · obtain rfl : wn = i2 := Nat.le_antisymm ((nI_leI (by omega) (by omega)).mp c136) hi2
                          refine lv_aload_n hx hb dX4_back_161 rfl (lv_at hl 0 rfl) ?_
                          refine lv_iconst (v := 2) hx hb dX4_back_162 (by decide) ?_
                          have hPc := hP.sub (ws' := [(mx, .inr (4, [.int 0, .int (nI n), .int (nI dn), .int (nI bn), .int (nI wn), .ref m5, .ref m6, .ref m7, .ref m8, .ref m9, .ref m10, .ref m11])), (m5, .inl (cI, 40, .inl (fun j => nI (z j)))), (m6, .inl (cI, 210, .inl (fun j => nI (w4 j)))), (m9, .inl (cB, 8000, .inl (fun j => sb_b (g j))))]) [0, 1, 2, 4] rfl
                          have hKc := hK.sub (tys' := [(cI, .int), (cB, .byte)]) [0, 1] rfl
                          have hDc := hD.sub (ws' := [(mx, .inr (4, [.int 0, .int (nI n), .int (nI dn), .int (nI bn), .int (nI wn), .ref m5, .ref m6, .ref m7, .ref m8, .ref m9, .ref m10, .ref m11])), (m5, .inl (cI, 40, .inl (fun j => nI (z j)))), (m6, .inl (cI, 210, .inl (fun j => nI (w4 j)))), (m9, .inl (cB, 8000, .inl (fun j => sb_b (g j))))]) [0, 1, 2, 4] (by decide) rfl
                          have hFc := va_free (wc := [(mx, .inr (4, [.int 0, .int (nI n), .int (nI dn), .int (nI bn), .int (nI wn), .ref m5, .ref m6, .ref m7, .ref m8, .ref m9, .ref m10, .ref m11])), (m5, .inl (cI, 40, .inl (fun j => nI (z j)))), (m6, .inl (cI, 210, .inl (fun j => nI (w4 j)))), (m9, .inl (cB, 8000, .inl (fun j => sb_b (g j))))]) hD hS hA [0, 1, 2, 4] rfl
                          refine va_calli (va_runV (As := [.int 2]) (rest := []) ⟨hx, hb, hml, hown, hts⟩ (c_X4_keep l dC dI cI cB mx m5 m6 m7 m8 m9 m10 m11 n dn bn wn 0 g z w4 2 H.size hI hw4 (Or.inl rfl)) (cwV 1 hts gX4_back_X4_keep rfl rfl rfl (by decide +kernel) ⟨Nat.le_of_ble_eq_true rfl, Nat.le_of_ble_eq_true rfl⟩) ⟨fun a U g mk q => by obtain ⟨q0, q1, qP, qK, qD⟩ := q; exact ⟨q0, q1, qP, va_K.moved (u := U) (U := U.calling g mk a) (Vm.Alike.refl U.vm) qK, qD⟩, va_recv hKc hPc (ci := 4) (q0 := 0) rfl rfl, fun U hU hW => ⟨rfl, by rw [hU], by rw [hU]; exact hPc, va_K.moved hW.alike hKc, hDc.weaken (fun _ _ _ _ => trivial)⟩⟩ rfl rfl hl.1 rfl (lv_room (Nat.le_of_ble_eq_true rfl)) dX4_back_163 ⟨Nat.le_of_ble_eq_true rfl, Nat.le_of_ble_eq_true rfl⟩) hS (fun q _ h => hFc q h) hFc (fun r163 uS tS H1 locs htS hvm h163 hB hzS hkS hS => ?_)
                          obtain ⟨th3_163, n3_163, g3_163, z3_163⟩ := uS
                          obtain ⟨hP1, hK1, hD1⟩ := hB
                          rw [htS] at hP1
                          have hK1 := va_K.moved hvm.symm hK1
                          try dsimp only at h163
                          obtain ⟨hP, hD⟩ := va_join (wr := [(m8, .inl (cI, 500, .inl (fun j => nI (wr j))))]) (w1 := [(mx, .inr (4, [.int th3_163, .int (nI n3_163), .int (nI dn), .int (nI bn), .int (nI wn), .ref m5, .ref m6, .ref m7, .ref m8, .ref m9, .ref m10, .ref m11])), (m5, .inl (cI, 40, .inl (fun j => nI (z3_163 j)))), (m6, .inl (cI, 210, .inl (fun j => nI (w4 j)))), (m9, .inl (cB, 8000, .inl (fun j => sb_b (g3_163 j))))]) hP hD [0, 1, 2, 4] [3] rfl rfl (by decide) (by decide) hkS hFc hP1 hD1
                          generalize H1 = H at hP hS ⊢
                          have hP : va_P (dC, dI) vwCl [(m8, .inl (cI, 500, .inl (fun j => nI (wr j)))), (mx, .inr (4, [.int th3_163, .int (nI n3_163), .int (nI dn), .int (nI bn), .int (nI wn), .ref m5, .ref m6, .ref m7, .ref m8, .ref m9, .ref m10, .ref m11])), (m5, .inl (cI, 40, .inl (fun j => nI (z3_163 j)))), (m6, .inl (cI, 210, .inl (fun j => nI (w4 j)))), (m9, .inl (cB, 8000, .inl (fun j => sb_b (g3_163 j))))] H := hP
                          have hD : va_D A [(m8, .inl (cI, 500, .inl (fun j => nI (wr j)))), (mx, .inr (4, [.int th3_163, .int (nI n3_163), .int (nI dn), .int (nI bn), .int (nI wn), .ref m5, .ref m6, .ref m7, .ref m8, .ref m9, .ref m10, .ref m11])), (m5, .inl (cI, 40, .inl (fun j => nI (z3_163 j)))), (m6, .inl (cI, 210, .inl (fun j => nI (w4 j)))), (m9, .inl (cB, 8000, .inl (fun j => sb_b (g3_163 j))))] := hD
                          rw [hv4] at h163
                          have hP9 := hP.sub (ws' := [(mx, .inr (4, [.int th3_163, .int (nI n3_163), .int (nI dn), .int (nI bn), .int (nI wn), .ref m5, .ref m6, .ref m7, .ref m8, .ref m9, .ref m10, .ref m11])), (m5, .inl (cI, 40, .inl (fun j => nI (z3_163 j)))), (m6, .inl (cI, 210, .inl (fun j => nI (w4 j)))), (m8, .inl (cI, 500, .inl (fun j => nI (wr j)))), (m9, .inl (cB, 8000, .inl (fun j => sb_b (g3_163 j))))]) [1, 2, 3, 0, 4] rfl
                          have hD9 := hD.sub (ws' := [(mx, .inr (4, [.int th3_163, .int (nI n3_163), .int (nI dn), .int (nI bn), .int (nI wn), .ref m5, .ref m6, .ref m7, .ref m8, .ref m9, .ref m10, .ref m11])), (m5, .inl (cI, 40, .inl (fun j => nI (z3_163 j)))), (m6, .inl (cI, 210, .inl (fun j => nI (w4 j)))), (m8, .inl (cI, 500, .inl (fun j => nI (wr j)))), (m9, .inl (cB, 8000, .inl (fun j => sb_b (g3_163 j))))]) [1, 2, 3, 0, 4] (by decide) rfl
                          have hK9 := hK.sub (tys' := [(cI, .int), (cB, .byte)]) [0, 1] rfl
                          exact W.iret (v := r163) hx hb hr (fun tS htS hW => ⟨⟨r163, (th3_163, n3_163, g3_163, z3_163, w4), rfl, ⟨hw4, Or.inr (h163.elim (fun y => Or.inl ⟨y.1, y.2.1, ⟨hw229, hgr⟩, y.2.2⟩) (fun y => Or.inr ⟨y.1, y.2.1, y.2.2.1, y.2.2.2.1, ⟨hw229, hgr⟩, y.2.2.2.2⟩))⟩, by rw [htS]; exact hP9, va_K.moved hW.alike hK9, hD9⟩, hS.F htS⟩) hS.2.2 dX4_back_166
                        · have hlt : i2 < wn := Nat.lt_of_not_le (fun h => c136 (nI_le h (by omega)))
                          refine lv_aload_n hx hb dX4_back_139 rfl (lv_at hl 0 rfl) ?_
                          refine lv_sipush (v := (nI 128)) hx hb dX4_back_140 (by decide) ?_
                          refine lv_aload_n hx hb dX4_back_143 rfl (lv_at hl 0 rfl) ?_
                          refine va_get (D := (dC, dI)) (ci := 4) (v := .ref m8) (C := RX4) (T := TX4) (N := 12) hx hb hts hinX4 hown hK hP 0 rfl rfl 8 (by decide) (hts (.fieldLink RX4 19 "NumberContentsModel" "out" "[I") (by decide +kernel)) (fun _ h9 => h9) rfl dX4_back_144 ?_
                          refine lv_iload_n hx hb dX4_back_147 rfl (lv_at hl 1 rfl) ?_
                          refine va_iald hx hb hK hP 3 0 rfl rfl (vp_in_nI (by omega) (by omega)) dX4_back_148 ?_
                          refine lv_topi (fun x148 e148 => ?_)
                          obtain rfl : x148 = nI (wr i2) := e148.trans (atg (by omega))
                          refine lv_bipush (v := (nI 127)) hx hb dX4_back_149 (by decide) ?_
                          refine lv_iand hx hb dX4_back_151 ?_
                          refine lv_topi (fun x151 e151 => ?_)
                          obtain rfl : x151 = nI (wr i2 % 2 ^ 7) := e151.trans (pk_andN (by have := hwr i2; omega) 7 (by decide))
                          have hPc := hP.sub (ws' := [(mx, .inr (4, [.int 0, .int (nI n), .int (nI dn), .int (nI bn), .int (nI wn), .ref m5, .ref m6, .ref m7, .ref m8, .ref m9, .ref m10, .ref m11])), (m6, .inl (cI, 210, .inl (fun j => nI (w4 j))))]) [0, 2] rfl
                          have hKc := hK.sub (tys' := [(cI, .int)]) [0] rfl
                          have hDc := hD.sub (ws' := [(mx, .inr (4, [.int 0, .int (nI n), .int (nI dn), .int (nI bn), .int (nI wn), .ref m5, .ref m6, .ref m7, .ref m8, .ref m9, .ref m10, .ref m11])), (m6, .inl (cI, 210, .inl (fun j => nI (w4 j))))]) [0, 2] (by decide) rfl
                          have hFc := va_free (wc := [(mx, .inr (4, [.int 0, .int (nI n), .int (nI dn), .int (nI bn), .int (nI wn), .ref m5, .ref m6, .ref m7, .ref m8, .ref m9, .ref m10, .ref m11])), (m6, .inl (cI, 210, .inl (fun j => nI (w4 j))))]) hD hS hA [0, 2] rfl
                          refine va_callv (va_runV (As := [.int (nI 128), .int (nI (wr i2 % 2 ^ 7))]) (rest := []) ⟨hx, hb, hml, hown, hts⟩ (c_X4_times l dC dI cI mx m5 m6 m7 m8 m9 m10 m11 n dn bn wn 0 w4 (nI 128) (nI (wr i2 % 2 ^ 7)) H.size hw4) (cwV 2 hts gX4_back_X4_times rfl rfl rfl (by decide +kernel) ⟨Nat.le_of_ble_eq_true rfl, Nat.le_of_ble_eq_true rfl⟩) ⟨fun a U g mk q => by obtain ⟨q0, q1, qP, qK, qD⟩ := q; exact ⟨q0, q1, qP, va_K.moved (u := U) (U := U.calling g mk a) (Vm.Alike.refl U.vm) qK, qD⟩, va_recv hKc hPc (ci := 4) (q0 := 0) rfl rfl, fun U hU hW => ⟨rfl, by rw [hU], by rw [hU]; exact hPc, va_K.moved hW.alike hKc, hDc.weaken (fun _ _ _ _ => trivial)⟩⟩ rfl rfl hl.1 rfl (lv_room (Nat.le_of_ble_eq_true rfl)) dX4_back_152 ⟨Nat.le_of_ble_eq_true rfl, Nat.le_of_ble_eq_true rfl⟩) hS (fun q _ h => hFc q h) hFc (fun uS tS H1 locs htS hvm h152 hB hzS hkS hS => ?_)
                          obtain ⟨g3_152, rfl⟩ : ∃ z, z = uS := ⟨_, rfl⟩
                          obtain ⟨hP1, hK1, hD1⟩ := hB
                          rw [htS] at hP1
                          have hK1 := va_K.moved hvm.symm hK1
                          try dsimp only at h152
                          obtain ⟨hP, hD⟩ := va_join (wr := [(m5, .inl (cI, 40, .inl (fun j => nI (z j)))), (m8, .inl (cI, 500, .inl (fun j => nI (wr j)))), (m9, .inl (cB, 8000, .inl (fun j => sb_b (g j))))]) (w1 := [(mx, .inr (4, [.int 0, .int (nI n), .int (nI dn), .int (nI bn), .int (nI wn), .ref m5, .ref m6, .ref m7, .ref m8, .ref m9, .ref m10, .ref m11])), (m6, .inl (cI, 210, .inl (fun j => nI (g3_152 j))))]) hP hD [0, 2] [1, 3, 4] rfl rfl (by decide) (by decide) hkS hFc hP1 hD1
                          generalize H1 = H at hP hS ⊢
                          have hP : va_P (dC, dI) vwCl [(m5, .inl (cI, 40, .inl (fun j => nI (z j)))), (m8, .inl (cI, 500, .inl (fun j => nI (wr j)))), (m9, .inl (cB, 8000, .inl (fun j => sb_b (g j)))), (mx, .inr (4, [.int 0, .int (nI n), .int (nI dn), .int (nI bn), .int (nI wn), .ref m5, .ref m6, .ref m7, .ref m8, .ref m9, .ref m10, .ref m11])), (m6, .inl (cI, 210, .inl (fun j => nI (g3_152 j))))] H := hP
                          have hD : va_D A [(m5, .inl (cI, 40, .inl (fun j => nI (z j)))), (m8, .inl (cI, 500, .inl (fun j => nI (wr j)))), (m9, .inl (cB, 8000, .inl (fun j => sb_b (g j)))), (mx, .inr (4, [.int 0, .int (nI n), .int (nI dn), .int (nI bn), .int (nI wn), .ref m5, .ref m6, .ref m7, .ref m8, .ref m9, .ref m10, .ref m11])), (m6, .inl (cI, 210, .inl (fun j => nI (g3_152 j))))] := hD
                          obtain ⟨x155, e155⟩ : ∃ zz9 : Int32, zz9 = (nI i2) + 1 := ⟨_, rfl⟩
                          refine lv_iinc (v := x155) (lv' := [(2, .int x155), (0, .ref mx)]) hx hb dX4_back_155 hl (k := 1) rfl (by rw [e155]; rfl) (by decide) rfl (fun ls hl => ?_)
                          obtain rfl : x155 = nI (i2 + 1) := e155.trans (nI_1 i2)
                          refine lv_goto (tgt := 131) hx hb dX4_back_158 (by decide) ?_
                          exact ih131 (i2 + 1) g3_152 (by omega) (by omega) h152.1 (hnm_ex (by omega) hv4 h152) _ _ _ (hP.sub [3, 0, 4, 1, 2] rfl) (hD.sub [3, 0, 4, 1, 2] (by decide) rfl) hS (lv_sub hl [1, 0] rfl)
                    exact LP131 _ 0 w2 (Nat.lt_succ_self _) (by omega) hw2 (sv_zero (by decide) (fun j hj => hz2 j (by omega))) _ _ _ (hP.sub [0, 1, 2, 3, 4] rfl) (hD.sub [0, 1, 2, 3, 4] (by decide) rfl) hS (lv_sub hl [1, 0] rfl)
                  · have hlt : i < 210 := Nat.lt_of_not_le (fun h => c113 (nI_le h (by omega)))
                    refine lv_aload_n hx hb dX4_back_116 rfl (lv_at hl 0 rfl) ?_
                    refine va_get (D := (dC, dI)) (ci := 4) (v := .ref m6) (C := RX4) (T := TX4) (N := 12) hx hb hts hinX4 hown hK hP 0 rfl rfl 6 (by decide) (hts (.fieldLink RX4 13 "NumberContentsModel" "row" "[I") (by decide +kernel)) (fun _ h9 => h9) rfl dX4_back_117 ?_
                    refine lv_iload_n hx hb dX4_back_120 rfl (lv_at hl 1 rfl) ?_
                    refine lv_iconst (v := (nI 0)) hx hb dX4_back_121 (by decide) ?_
                    refine va_iast hx hb hK hP hD hS 2 0 rfl rfl (vp_in_nI (by omega) (by omega)) dX4_back_122 (fun H locs hP hD hS => ?_)
                    have hP : va_P (dC, dI) vwCl [(mx, .inr (4, [.int 0, .int (nI n), .int (nI dn), .int (nI bn), .int (nI wn), .ref m5, .ref m6, .ref m7, .ref m8, .ref m9, .ref m10, .ref m11])), (m5, .inl (cI, 40, .inl (fun j => nI (z j)))), (m6, .inl (cI, 210, .inl (upd (fun j => nI (w2 j)) (nI i).toNatClampNeg (nI 0)))), (m8, .inl (cI, 500, .inl (fun j => nI (wr j)))), (m9, .inl (cB, 8000, .inl (fun j => sb_b (g j))))] H := hP
                    have hD : va_D A [(mx, .inr (4, [.int 0, .int (nI n), .int (nI dn), .int (nI bn), .int (nI wn), .ref m5, .ref m6, .ref m7, .ref m8, .ref m9, .ref m10, .ref m11])), (m5, .inl (cI, 40, .inl (fun j => nI (z j)))), (m6, .inl (cI, 210, .inl (upd (fun j => nI (w2 j)) (nI i).toNatClampNeg (nI 0)))), (m8, .inl (cI, 500, .inl (fun j => nI (wr j)))), (m9, .inl (cB, 8000, .inl (fun j => sb_b (g j))))] := hD
                    obtain ⟨f122, e122⟩ : ∃ zz9 : Nat → Int32, zz9 = upd (fun j => nI (w2 j)) (nI i).toNatClampNeg (nI 0) := ⟨_, rfl⟩
                    rw [← e122] at hP hD
                    obtain rfl : f122 = fun j => nI (va_up w2 i 0 j) := e122.trans (upg (by omega))
                    obtain ⟨x123, e123⟩ : ∃ zz9 : Int32, zz9 = (nI i) + 1 := ⟨_, rfl⟩
                    refine lv_iinc (v := x123) (lv' := [(2, .int x123), (0, .ref mx)]) hx hb dX4_back_123 hl (k := 1) rfl (by rw [e123]; rfl) (by decide) rfl (fun ls hl => ?_)
                    obtain rfl : x123 = nI (i + 1) := e123.trans (nI_1 i)
                    refine lv_goto (tgt := 109) hx hb dX4_back_126 (by decide) ?_
                    exact ih109 (i + 1) (va_up w2 i 0) (by omega) (by omega) (up_lt hw2 (by decide)) (fun j h => by by_cases e : j = i; rw [e, va_up_self]; rw [va_up_ne _ _ e]; exact hz2 j (by omega)) _ _ _ (hP.sub [0, 1, 2, 3, 4] rfl) (hD.sub [0, 1, 2, 3, 4] (by decide) rfl) hS (lv_sub hl [1, 0] rfl)
              exact LP109 _ 0 rw (Nat.lt_succ_self _) (by omega) hrw (fun j h => absurd h (by omega)) _ _ _ (hP.sub [0, 1, 2, 3, 4] rfl) (hD.sub [0, 1, 2, 3, 4] (by decide) rfl) hS (lv_sub hl [1, 0] rfl)
            · first | exact absurd c102 (by decide) | exact (c102 (by decide)).elim
          · refine lv_iconst (v := 1) hx hb dX4_back_90 (by decide) ?_
            refine lv_goto (tgt := 95) hx hb dX4_back_91 (by decide) ?_
            refine va_put (D := (dC, dI)) (ci := 4) (v := .int 1) (ty := .int) (C := RX4) (T := TX4) (N := 12) hx hb hts hinX4 tyX4 tyX4_ok nmX4 hown hK hP hD hS 0 rfl rfl 0 (by decide) (hts (.fieldLink RX4 32 "NumberContentsModel" "thrown" "I") (by decide +kernel)) (fun _ h9 => h9) rfl (by decide +kernel) rfl rfl (Nat.le_of_ble_eq_true rfl) dX4_back_95 (fun H locs hP hD hS => ?_)
            have hP : va_P (dC, dI) vwCl [(mx, .inr (4, [.int 1, .int (nI n), .int (nI dn), .int (nI bn), .int (nI wn), .ref m5, .ref m6, .ref m7, .ref m8, .ref m9, .ref m10, .ref m11])), (m5, .inl (cI, 40, .inl (fun j => nI (z j)))), (m6, .inl (cI, 210, .inl (fun j => nI (rw j)))), (m8, .inl (cI, 500, .inl (fun j => nI (wr j)))), (m9, .inl (cB, 8000, .inl (fun j => sb_b (g j))))] H := hP
            have hD : va_D A [(mx, .inr (4, [.int 1, .int (nI n), .int (nI dn), .int (nI bn), .int (nI wn), .ref m5, .ref m6, .ref m7, .ref m8, .ref m9, .ref m10, .ref m11])), (m5, .inl (cI, 40, .inl (fun j => nI (z j)))), (m6, .inl (cI, 210, .inl (fun j => nI (rw j)))), (m8, .inl (cI, 500, .inl (fun j => nI (wr j)))), (m9, .inl (cB, 8000, .inl (fun j => sb_b (g j))))] := hD
            refine lv_aload_n hx hb dX4_back_98 rfl (lv_at hl 0 rfl) ?_
            refine va_get (D := (dC, dI)) (ci := 4) (v := .int 1) (C := RX4) (T := TX4) (N := 12) hx hb hts hinX4 hown hK hP 0 rfl rfl 0 (by decide) (hts (.fieldLink RX4 32 "NumberContentsModel" "thrown" "I") (by decide +kernel)) (fun _ h9 => h9) rfl dX4_back_99 ?_
            refine lv_if_le (tgt := 107) hx hb dX4_back_102 (by decide) (fun c102 => ?_) (fun c102 => ?_)
            · first | exact absurd c102 (by decide) | exact (c102 (by decide)).elim
            · refine lv_iconst (v := 0) hx hb dX4_back_105 (by decide) ?_
              have hP9 := hP.sub (ws' := [(mx, .inr (4, [.int 1, .int (nI n), .int (nI dn), .int (nI bn), .int (nI wn), .ref m5, .ref m6, .ref m7, .ref m8, .ref m9, .ref m10, .ref m11])), (m5, .inl (cI, 40, .inl (fun j => nI (z j)))), (m6, .inl (cI, 210, .inl (fun j => nI (rw j)))), (m8, .inl (cI, 500, .inl (fun j => nI (wr j)))), (m9, .inl (cB, 8000, .inl (fun j => sb_b (g j))))]) [0, 1, 2, 3, 4] rfl
              have hD9 := hD.sub (ws' := [(mx, .inr (4, [.int 1, .int (nI n), .int (nI dn), .int (nI bn), .int (nI wn), .ref m5, .ref m6, .ref m7, .ref m8, .ref m9, .ref m10, .ref m11])), (m5, .inl (cI, 40, .inl (fun j => nI (z j)))), (m6, .inl (cI, 210, .inl (fun j => nI (rw j)))), (m8, .inl (cI, 500, .inl (fun j => nI (wr j)))), (m9, .inl (cB, 8000, .inl (fun j => sb_b (g j))))]) [0, 1, 2, 3, 4] (by decide) rfl
              have hK9 := hK.sub (tys' := [(cI, .int), (cB, .byte)]) [0, 1] rfl
              exact W.iret (v := 0) hx hb hr (fun tS htS hW => ⟨⟨0, (1, n, g, z, rw), rfl, ⟨hrw, Or.inl ⟨rfl, rfl, rfl, rfl, fun y => ite_r hge c87 y.2⟩⟩, by rw [htS]; exact hP9, va_K.moved hW.alike hK9, hD9⟩, hS.F htS⟩) hS.2.2 dX4_back_106
        · have hlt : k < wn := Nat.lt_of_not_le (fun h => c32 (nI_le h (by omega)))
          refine lv_iload_n hx hb dX4_back_35 rfl (lv_at hl 1 rfl) ?_
          refine lv_if_eq (tgt := 77) hx hb dX4_back_36 (by decide) (fun c36 => ?_) (fun c36 => ?_)
          · refine lv_iconst (v := 0) hx hb dX4_back_77 (by decide) ?_
            refine lv_istore_n (lv' := [(1, .int 0), (0, .ref mx), (2, .int (nI k))]) hx hb dX4_back_78 rfl hl (by decide) rfl (fun ls hl => ?_)
            obtain ⟨x79, e79⟩ : ∃ zz9 : Int32, zz9 = (nI k) + 1 := ⟨_, rfl⟩
            refine lv_iinc (v := x79) (lv' := [(2, .int x79), (1, .int 0), (0, .ref mx)]) hx hb dX4_back_79 hl (k := 2) rfl (by rw [e79]; rfl) (by decide) rfl (fun ls hl => ?_)
            obtain rfl : x79 = nI (k + 1) := e79.trans (nI_1 k)
            refine lv_goto (tgt := 27) hx hb dX4_back_82 (by decide) ?_
            exact ih27 (k + 1) 0 (by omega) (by omega) (by first | exact gd_n hgd c36 | exact Or.inr ⟨rfl, fun y => by have := y.2.2 k hlt; omega⟩) _ _ _ (hP.sub [0, 1, 2, 3, 4] rfl) (hD.sub [0, 1, 2, 3, 4] (by decide) rfl) hS (lv_sub hl [2, 1, 0] rfl)
          · refine lv_aload_n hx hb dX4_back_39 rfl (lv_at hl 0 rfl) ?_
            refine va_get (D := (dC, dI)) (ci := 4) (v := .ref m8) (C := RX4) (T := TX4) (N := 12) hx hb hts hinX4 hown hK hP 0 rfl rfl 8 (by decide) (hts (.fieldLink RX4 19 "NumberContentsModel" "out" "[I") (by decide +kernel)) (fun _ h9 => h9) rfl dX4_back_40 ?_
            refine lv_iload_n hx hb dX4_back_43 rfl (lv_at hl 2 rfl) ?_
            refine va_iald hx hb hK hP 3 0 rfl rfl (vp_in_nI (by omega) (by omega)) dX4_back_44 ?_
            refine lv_topi (fun x44 e44 => ?_)
            obtain rfl : x44 = nI (wr k) := e44.trans (atg (by omega))
            refine lv_bipush (v := (nI 127)) hx hb dX4_back_45 (by decide) ?_
            refine lv_icmp_le (tgt := 54) hx hb dX4_back_47 (by decide) (fun c47 => ?_) (fun c47 => ?_)
            · have hb47 : ¬ 128 ≤ wr k := (by have := (nI_leI (by have := hwr k; omega) (by omega)).mp c47; omega)
              refine lv_iconst (v := 0) hx hb dX4_back_54 (by decide) ?_
              refine lv_iload_n hx hb dX4_back_55 rfl (lv_at hl 2 rfl) ?_
              refine lv_aload_n hx hb dX4_back_56 rfl (lv_at hl 0 rfl) ?_
              refine va_get (D := (dC, dI)) (ci := 4) (v := .int (nI wn)) (C := RX4) (T := TX4) (N := 12) hx hb hts hinX4 hown hK hP 0 rfl rfl 4 (by decide) (hts (.fieldLink RX4 75 "NumberContentsModel" "outMany" "I") (by decide +kernel)) (fun _ h9 => h9) rfl dX4_back_57 ?_
              refine lv_iconst (v := 1) hx hb dX4_back_60 (by decide) ?_
              refine lv_isub hx hb dX4_back_61 ?_
              refine lv_topi (fun x61 e61 => ?_)
              obtain rfl : x61 = nI (wn - 1) := e61.trans (nI_m1 (by omega))
              refine lv_icmp_ge (tgt := 69) hx hb dX4_back_62 (by decide) (fun c62 => ?_) (fun c62 => ?_)
              · have hb62 : ¬ k < wn - 1 := (by have := (nI_leI (by omega) (by omega)).mp c62; omega)
                refine lv_iconst (v := 0) hx hb dX4_back_69 (by decide) ?_
                refine lv_icmp_ne (tgt := 77) hx hb dX4_back_70 (by decide) (fun c70 => ?_) (fun c70 => ?_)
                · first | exact absurd c70 (by decide) | exact (c70 (by decide)).elim
                · refine lv_iconst (v := 1) hx hb dX4_back_73 (by decide) ?_
                  refine lv_goto (tgt := 78) hx hb dX4_back_74 (by decide) ?_
                  refine lv_istore_n (lv' := [(1, .int 1), (0, .ref mx), (2, .int (nI k))]) hx hb dX4_back_78 rfl hl (by decide) rfl (fun ls hl => ?_)
                  obtain ⟨x79, e79⟩ : ∃ zz9 : Int32, zz9 = (nI k) + 1 := ⟨_, rfl⟩
                  refine lv_iinc (v := x79) (lv' := [(2, .int x79), (1, .int 1), (0, .ref mx)]) hx hb dX4_back_79 hl (k := 2) rfl (by rw [e79]; rfl) (by decide) rfl (fun ls hl => ?_)
                  obtain rfl : x79 = nI (k + 1) := e79.trans (nI_1 k)
                  refine lv_goto (tgt := 27) hx hb dX4_back_82 (by decide) ?_
                  exact ih27 (k + 1) 1 (by omega) (by omega) (gd_y hgd c36 (by omega)) _ _ _ (hP.sub [0, 1, 2, 3, 4] rfl) (hD.sub [0, 1, 2, 3, 4] (by decide) rfl) hS (lv_sub hl [2, 1, 0] rfl)
              · have hb62 : k < wn - 1 := Nat.lt_of_not_le (fun y => c62 (nI_le y (by omega)))
                refine lv_iconst (v := 1) hx hb dX4_back_65 (by decide) ?_
                refine lv_goto (tgt := 70) hx hb dX4_back_66 (by decide) ?_
                refine lv_icmp_ne (tgt := 77) hx hb dX4_back_70 (by decide) (fun c70 => ?_) (fun c70 => ?_)
                · refine lv_iconst (v := 0) hx hb dX4_back_77 (by decide) ?_
                  refine lv_istore_n (lv' := [(1, .int 0), (0, .ref mx), (2, .int (nI k))]) hx hb dX4_back_78 rfl hl (by decide) rfl (fun ls hl => ?_)
                  obtain ⟨x79, e79⟩ : ∃ zz9 : Int32, zz9 = (nI k) + 1 := ⟨_, rfl⟩
                  refine lv_iinc (v := x79) (lv' := [(2, .int x79), (1, .int 0), (0, .ref mx)]) hx hb dX4_back_79 hl (k := 2) rfl (by rw [e79]; rfl) (by decide) rfl (fun ls hl => ?_)
                  obtain rfl : x79 = nI (k + 1) := e79.trans (nI_1 k)
                  refine lv_goto (tgt := 27) hx hb dX4_back_82 (by decide) ?_
                  exact ih27 (k + 1) 0 (by omega) (by omega) (by first | exact gd_n hgd c36 | exact Or.inr ⟨rfl, fun y => by have := y.2.2 k hlt; omega⟩) _ _ _ (hP.sub [0, 1, 2, 3, 4] rfl) (hD.sub [0, 1, 2, 3, 4] (by decide) rfl) hS (lv_sub hl [2, 1, 0] rfl)
                · first | exact absurd c70 (by decide) | exact (c70 (by decide)).elim
            · have hb47 : 128 ≤ wr k := Nat.lt_of_not_le (fun y => c47 (nI_le y (by omega)))
              refine lv_iconst (v := 1) hx hb dX4_back_50 (by decide) ?_
              refine lv_goto (tgt := 55) hx hb dX4_back_51 (by decide) ?_
              refine lv_iload_n hx hb dX4_back_55 rfl (lv_at hl 2 rfl) ?_
              refine lv_aload_n hx hb dX4_back_56 rfl (lv_at hl 0 rfl) ?_
              refine va_get (D := (dC, dI)) (ci := 4) (v := .int (nI wn)) (C := RX4) (T := TX4) (N := 12) hx hb hts hinX4 hown hK hP 0 rfl rfl 4 (by decide) (hts (.fieldLink RX4 75 "NumberContentsModel" "outMany" "I") (by decide +kernel)) (fun _ h9 => h9) rfl dX4_back_57 ?_
              refine lv_iconst (v := 1) hx hb dX4_back_60 (by decide) ?_
              refine lv_isub hx hb dX4_back_61 ?_
              refine lv_topi (fun x61 e61 => ?_)
              obtain rfl : x61 = nI (wn - 1) := e61.trans (nI_m1 (by omega))
              refine lv_icmp_ge (tgt := 69) hx hb dX4_back_62 (by decide) (fun c62 => ?_) (fun c62 => ?_)
              · have hb62 : ¬ k < wn - 1 := (by have := (nI_leI (by omega) (by omega)).mp c62; omega)
                refine lv_iconst (v := 0) hx hb dX4_back_69 (by decide) ?_
                refine lv_icmp_ne (tgt := 77) hx hb dX4_back_70 (by decide) (fun c70 => ?_) (fun c70 => ?_)
                · refine lv_iconst (v := 0) hx hb dX4_back_77 (by decide) ?_
                  refine lv_istore_n (lv' := [(1, .int 0), (0, .ref mx), (2, .int (nI k))]) hx hb dX4_back_78 rfl hl (by decide) rfl (fun ls hl => ?_)
                  obtain ⟨x79, e79⟩ : ∃ zz9 : Int32, zz9 = (nI k) + 1 := ⟨_, rfl⟩
                  refine lv_iinc (v := x79) (lv' := [(2, .int x79), (1, .int 0), (0, .ref mx)]) hx hb dX4_back_79 hl (k := 2) rfl (by rw [e79]; rfl) (by decide) rfl (fun ls hl => ?_)
                  obtain rfl : x79 = nI (k + 1) := e79.trans (nI_1 k)
                  refine lv_goto (tgt := 27) hx hb dX4_back_82 (by decide) ?_
                  exact ih27 (k + 1) 0 (by omega) (by omega) (by first | exact gd_n hgd c36 | exact Or.inr ⟨rfl, fun y => by have := y.2.2 k hlt; omega⟩) _ _ _ (hP.sub [0, 1, 2, 3, 4] rfl) (hD.sub [0, 1, 2, 3, 4] (by decide) rfl) hS (lv_sub hl [2, 1, 0] rfl)
                · first | exact absurd c70 (by decide) | exact (c70 (by decide)).elim
              · have hb62 : k < wn - 1 := Nat.lt_of_not_le (fun y => c62 (nI_le y (by omega)))
                refine lv_iconst (v := 1) hx hb dX4_back_65 (by decide) ?_
                refine lv_goto (tgt := 70) hx hb dX4_back_66 (by decide) ?_
                refine lv_icmp_ne (tgt := 77) hx hb dX4_back_70 (by decide) (fun c70 => ?_) (fun c70 => ?_)
                · first | exact absurd c70 (by decide) | exact (c70 (by decide)).elim
                · refine lv_iconst (v := 1) hx hb dX4_back_73 (by decide) ?_
                  refine lv_goto (tgt := 78) hx hb dX4_back_74 (by decide) ?_
                  refine lv_istore_n (lv' := [(1, .int 1), (0, .ref mx), (2, .int (nI k))]) hx hb dX4_back_78 rfl hl (by decide) rfl (fun ls hl => ?_)
                  obtain ⟨x79, e79⟩ : ∃ zz9 : Int32, zz9 = (nI k) + 1 := ⟨_, rfl⟩
                  refine lv_iinc (v := x79) (lv' := [(2, .int x79), (1, .int 1), (0, .ref mx)]) hx hb dX4_back_79 hl (k := 2) rfl (by rw [e79]; rfl) (by decide) rfl (fun ls hl => ?_)
                  obtain rfl : x79 = nI (k + 1) := e79.trans (nI_1 k)
                  refine lv_goto (tgt := 27) hx hb dX4_back_82 (by decide) ?_
                  exact ih27 (k + 1) 1 (by omega) (by omega) (gd_y hgd c36 (by omega)) _ _ _ (hP.sub [0, 1, 2, 3, 4] rfl) (hD.sub [0, 1, 2, 3, 4] (by decide) rfl) hS (lv_sub hl [2, 1, 0] rfl)
    exact LP27 _ 0 0 (Nat.lt_succ_self _) (by omega) (by first | exact Or.inr ⟨rfl, fun y => y.2.1 (nI_inj (hwr 0) (by decide) c16)⟩ | exact Or.inr ⟨rfl, fun y => absurd ((nI_le0 (by omega)).mp c4) (by have := y.1; omega)⟩) _ _ _ (hP.sub [0, 1, 2, 3, 4] rfl) (hD.sub [0, 1, 2, 3, 4] (by decide) rfl) hS (lv_sub hl [2, 1, 0] rfl)
  · have hwn1 : 1 ≤ wn := Nat.pos_of_ne_zero (fun y => c4 ((nI_le0 (by omega)).mpr (by omega)))
    refine lv_aload_n hx hb dX4_back_7 rfl (lv_at hl 0 rfl) ?_
    refine va_get (D := (dC, dI)) (ci := 4) (v := .ref m8) (C := RX4) (T := TX4) (N := 12) hx hb hts hinX4 hown hK hP 0 rfl rfl 8 (by decide) (hts (.fieldLink RX4 19 "NumberContentsModel" "out" "[I") (by decide +kernel)) (fun _ h9 => h9) rfl dX4_back_8 ?_
    refine lv_iconst (v := (nI 0)) hx hb dX4_back_11 (by decide) ?_
    refine va_iald hx hb hK hP 3 0 rfl rfl (vp_in_nI (by omega) (by omega)) dX4_back_12 ?_
    refine lv_topi (fun x12 e12 => ?_)
    obtain rfl : x12 = nI (wr 0) := e12.trans (atg (by omega))
    refine lv_sipush (v := (nI 128)) hx hb dX4_back_13 (by decide) ?_
    refine lv_icmp_eq (tgt := 23) hx hb dX4_back_16 (by decide) (fun c16 => ?_) (fun c16 => ?_)
    · refine lv_iconst (v := 0) hx hb dX4_back_23 (by decide) ?_
      refine lv_istore_n (lv' := [(1, .int 0), (0, .ref mx)]) hx hb dX4_back_24 rfl hl (by decide) rfl (fun ls hl => ?_)
      refine lv_iconst (v := (nI 0)) hx hb dX4_back_25 (by decide) ?_
      refine lv_istore_n (lv' := [(2, .int (nI 0)), (1, .int 0), (0, .ref mx)]) hx hb dX4_back_26 rfl hl (by decide) rfl (fun ls hl => ?_)
      have LP27 : ∀ (n9 : Nat) (k : Nat) (gd : Int32) (hm : (wn - k) < n9) (hk : k ≤ wn) (hgd : (gd = 1 ∧ 1 ≤ wn ∧ wr 0 ≠ 128 ∧ ∀ j, j < k → (128 ≤ wr j ↔ j < wn - 1)) ∨ (gd = 0 ∧ ¬ GR wn wr)) (H : Heap) (locs : List Loc) (ls : Array Slot) (hP : va_P (dC, dI) vwCl [(mx, .inr (4, [.int th, .int (nI n), .int (nI dn), .int (nI bn), .int (nI wn), .ref m5, .ref m6, .ref m7, .ref m8, .ref m9, .ref m10, .ref m11])), (m5, .inl (cI, 40, .inl (fun j => nI (z j)))), (m6, .inl (cI, 210, .inl (fun j => nI (rw j)))), (m8, .inl (cI, 500, .inl (fun j => nI (wr j)))), (m9, .inl (cB, 8000, .inl (fun j => sb_b (g j))))] H) (hD : va_D A [(mx, .inr (4, [.int th, .int (nI n), .int (nI dn), .int (nI bn), .int (nI wn), .ref m5, .ref m6, .ref m7, .ref m8, .ref m9, .ref m10, .ref m11])), (m5, .inl (cI, 40, .inl (fun j => nI (z j)))), (m6, .inl (cI, 210, .inl (fun j => nI (rw j)))), (m8, .inl (cI, 500, .inl (fun j => nI (wr j)))), (m9, .inl (cB, 8000, .inl (fun j => sb_b (g j))))]) (hS : va_S A s.heap H locs) (hl : lv_has ls 3 [(0, .ref mx), (1, .int gd), (2, .int (nI k))]), W p l e (headSpec wsX4_back ({ frames := 3, cells := 0, slots := 0, locals := 66 } : Room)).room s m ([.ref mx]).toArray below meth c H locs 0 0 (MQ below (va_Qi (fun (r : Int32) (uS : Int32 × Nat × (Nat → Nat) × (Nat → Nat) × (Nat → Nat)) => match uS with | (th3, n3, g3, z3, rw3) => (∀ j, rw3 j < 256) ∧ ((th3 = 1 ∧ n3 = n ∧ g3 = g ∧ z3 = z ∧ ¬ (wn ≤ 229 ∧ GR wn wr)) ∨ (th3 = 0 ∧ n3 = n + 1 ∧ (wn ≤ 229 ∧ GR wn wr) ∧ KEPTM n g z g3 z3 (hn7 wr wn) r) ∨ (th3 = 2 ∧ n3 = n ∧ g3 = g ∧ z3 = z ∧ (wn ≤ 229 ∧ GR wn wr) ∧ NOKEEP n (hn7 wr wn)))) (fun (uS : Int32 × Nat × (Nat → Nat) × (Nat → Nat) × (Nat → Nat)) (tS : State) => match uS with | (th3, n3, g3, z3, rw3) => va_P (dC, dI) vwCl [(mx, .inr (4, [.int th3, .int (nI n3), .int (nI dn), .int (nI bn), .int (nI wn), .ref m5, .ref m6, .ref m7, .ref m8, .ref m9, .ref m10, .ref m11])), (m5, .inl (cI, 40, .inl (fun j => nI (z3 j)))), (m6, .inl (cI, 210, .inl (fun j => nI (rw3 j)))), (m8, .inl (cI, 500, .inl (fun j => nI (wr j)))), (m9, .inl (cB, 8000, .inl (fun j => sb_b (g3 j))))] tS.heap ∧ va_K (dC, dI) vwCl [(cI, .int), (cB, .byte)] tS ∧ va_D A [(mx, .inr (4, [.int th3, .int (nI n3), .int (nI dn), .int (nI bn), .int (nI wn), .ref m5, .ref m6, .ref m7, .ref m8, .ref m9, .ref m10, .ref m11])), (m5, .inl (cI, 40, .inl (fun j => nI (z3 j)))), (m6, .inl (cI, 210, .inl (fun j => nI (rw3 j)))), (m8, .inl (cI, 500, .inl (fun j => nI (wr j)))), (m9, .inl (cB, 8000, .inl (fun j => sb_b (g3 j))))]) A) ([.ref mx]).toArray s 0 0 A) (F0 m 27 ls []) := by
        intro n9
        induction n9 with
        | zero => intro k gd hm; exact absurd hm (Nat.not_lt_zero _)
        | succ n9 ih =>
          intro k gd hm hk hgd H locs ls hP hD hS hl
          have ih27 := ih
          refine lv_iload_n hx hb dX4_back_27 rfl (lv_at hl 2 rfl) ?_
          refine lv_aload_n hx hb dX4_back_28 rfl (lv_at hl 0 rfl) ?_
          refine va_get (D := (dC, dI)) (ci := 4) (v := .int (nI wn)) (C := RX4) (T := TX4) (N := 12) hx hb hts hinX4 hown hK hP 0 rfl rfl 4 (by decide) (hts (.fieldLink RX4 75 "NumberContentsModel" "outMany" "I") (by decide +kernel)) (fun _ h9 => h9) rfl dX4_back_29 ?_
          refine lv_icmp_ge (tgt := 85) hx hb dX4_back_32 (by decide) (fun c32 => ?_) (fun c32 => ?_)
          · obtain rfl : wn = k := Nat.le_antisymm ((nI_leI (by omega) (by omega)).mp c32) hk
            have hge := gd_end hgd
            refine lv_aload_n hx hb dX4_back_85 rfl (lv_at hl 0 rfl) ?_
            refine lv_iload_n hx hb dX4_back_86 rfl (lv_at hl 1 rfl) ?_
            refine lv_if_ne (tgt := 94) hx hb dX4_back_87 (by decide) (fun c87 => ?_) (fun c87 => ?_)
            · refine lv_iconst (v := 0) hx hb dX4_back_94 (by decide) ?_
              refine va_put (D := (dC, dI)) (ci := 4) (v := .int 0) (ty := .int) (C := RX4) (T := TX4) (N := 12) hx hb hts hinX4 tyX4 tyX4_ok nmX4 hown hK hP hD hS 0 rfl rfl 0 (by decide) (hts (.fieldLink RX4 32 "NumberContentsModel" "thrown" "I") (by decide +kernel)) (fun _ h9 => h9) rfl (by decide +kernel) rfl rfl (Nat.le_of_ble_eq_true rfl) dX4_back_95 (fun H locs hP hD hS => ?_)
              have hP : va_P (dC, dI) vwCl [(mx, .inr (4, [.int 0, .int (nI n), .int (nI dn), .int (nI bn), .int (nI wn), .ref m5, .ref m6, .ref m7, .ref m8, .ref m9, .ref m10, .ref m11])), (m5, .inl (cI, 40, .inl (fun j => nI (z j)))), (m6, .inl (cI, 210, .inl (fun j => nI (rw j)))), (m8, .inl (cI, 500, .inl (fun j => nI (wr j)))), (m9, .inl (cB, 8000, .inl (fun j => sb_b (g j))))] H := hP
              have hD : va_D A [(mx, .inr (4, [.int 0, .int (nI n), .int (nI dn), .int (nI bn), .int (nI wn), .ref m5, .ref m6, .ref m7, .ref m8, .ref m9, .ref m10, .ref m11])), (m5, .inl (cI, 40, .inl (fun j => nI (z j)))), (m6, .inl (cI, 210, .inl (fun j => nI (rw j)))), (m8, .inl (cI, 500, .inl (fun j => nI (wr j)))), (m9, .inl (cB, 8000, .inl (fun j => sb_b (g j))))] := hD
              refine lv_aload_n hx hb dX4_back_98 rfl (lv_at hl 0 rfl) ?_
              refine va_get (D := (dC, dI)) (ci := 4) (v := .int 0) (C := RX4) (T := TX4) (N := 12) hx hb hts hinX4 hown hK hP 0 rfl rfl 0 (by decide) (hts (.fieldLink RX4 32 "NumberContentsModel" "thrown" "I") (by decide +kernel)) (fun _ h9 => h9) rfl dX4_back_99 ?_
              refine lv_if_le (tgt := 107) hx hb dX4_back_102 (by decide) (fun c102 => ?_) (fun c102 => ?_)
              · have hgr := ite_s hge c87
                have hw229 := gr_229 hwg hgr
                refine lv_iconst (v := (nI 0)) hx hb dX4_back_107 (by decide) ?_
                refine lv_istore_n (lv' := [(2, .int (nI 0)), (0, .ref mx), (1, .int gd)]) hx hb dX4_back_108 rfl hl (by decide) rfl (fun ls hl => ?_)
                have LP109 : ∀ (n9 : Nat) (i : Nat) (w2 : Nat → Nat) (hm : (210 - i) < n9) (hi : i ≤ 210) (hw2 : ∀ j, w2 j < 256) (hz2 : ∀ j, j < i → w2 j = 0) (H : Heap) (locs : List Loc) (ls : Array Slot) (hP : va_P (dC, dI) vwCl [(mx, .inr (4, [.int 0, .int (nI n), .int (nI dn), .int (nI bn), .int (nI wn), .ref m5, .ref m6, .ref m7, .ref m8, .ref m9, .ref m10, .ref m11])), (m5, .inl (cI, 40, .inl (fun j => nI (z j)))), (m6, .inl (cI, 210, .inl (fun j => nI (w2 j)))), (m8, .inl (cI, 500, .inl (fun j => nI (wr j)))), (m9, .inl (cB, 8000, .inl (fun j => sb_b (g j))))] H) (hD : va_D A [(mx, .inr (4, [.int 0, .int (nI n), .int (nI dn), .int (nI bn), .int (nI wn), .ref m5, .ref m6, .ref m7, .ref m8, .ref m9, .ref m10, .ref m11])), (m5, .inl (cI, 40, .inl (fun j => nI (z j)))), (m6, .inl (cI, 210, .inl (fun j => nI (w2 j)))), (m8, .inl (cI, 500, .inl (fun j => nI (wr j)))), (m9, .inl (cB, 8000, .inl (fun j => sb_b (g j))))]) (hS : va_S A s.heap H locs) (hl : lv_has ls 3 [(0, .ref mx), (2, .int (nI i))]), W p l e (headSpec wsX4_back ({ frames := 3, cells := 0, slots := 0, locals := 66 } : Room)).room s m ([.ref mx]).toArray below meth c H locs 0 0 (MQ below (va_Qi (fun (r : Int32) (uS : Int32 × Nat × (Nat → Nat) × (Nat → Nat) × (Nat → Nat)) => match uS with | (th3, n3, g3, z3, rw3) => (∀ j, rw3 j < 256) ∧ ((th3 = 1 ∧ n3 = n ∧ g3 = g ∧ z3 = z ∧ ¬ (wn ≤ 229 ∧ GR wn wr)) ∨ (th3 = 0 ∧ n3 = n + 1 ∧ (wn ≤ 229 ∧ GR wn wr) ∧ KEPTM n g z g3 z3 (hn7 wr wn) r) ∨ (th3 = 2 ∧ n3 = n ∧ g3 = g ∧ z3 = z ∧ (wn ≤ 229 ∧ GR wn wr) ∧ NOKEEP n (hn7 wr wn)))) (fun (uS : Int32 × Nat × (Nat → Nat) × (Nat → Nat) × (Nat → Nat)) (tS : State) => match uS with | (th3, n3, g3, z3, rw3) => va_P (dC, dI) vwCl [(mx, .inr (4, [.int th3, .int (nI n3), .int (nI dn), .int (nI bn), .int (nI wn), .ref m5, .ref m6, .ref m7, .ref m8, .ref m9, .ref m10, .ref m11])), (m5, .inl (cI, 40, .inl (fun j => nI (z3 j)))), (m6, .inl (cI, 210, .inl (fun j => nI (rw3 j)))), (m8, .inl (cI, 500, .inl (fun j => nI (wr j)))), (m9, .inl (cB, 8000, .inl (fun j => sb_b (g3 j))))] tS.heap ∧ va_K (dC, dI) vwCl [(cI, .int), (cB, .byte)] tS ∧ va_D A [(mx, .inr (4, [.int th3, .int (nI n3), .int (nI dn), .int (nI bn), .int (nI wn), .ref m5, .ref m6, .ref m7, .ref m8, .ref m9, .ref m10, .ref m11])), (m5, .inl (cI, 40, .inl (fun j => nI (z3 j)))), (m6, .inl (cI, 210, .inl (fun j => nI (rw3 j)))), (m8, .inl (cI, 500, .inl (fun j => nI (wr j)))), (m9, .inl (cB, 8000, .inl (fun j => sb_b (g3 j))))]) A) ([.ref mx]).toArray s 0 0 A) (F0 m 109 ls []) := by
                  intro n9
                  induction n9 with
                  | zero => intro i w2 hm; exact absurd hm (Nat.not_lt_zero _)
                  | succ n9 ih =>
                    intro i w2 hm hi hw2 hz2 H locs ls hP hD hS hl
                    have ih109 := ih
                    refine lv_iload_n hx hb dX4_back_109 rfl (lv_at hl 1 rfl) ?_
                    refine lv_sipush (v := (nI 210)) hx hb dX4_back_110 (by decide) ?_
                    refine lv_icmp_ge (tgt := 129) hx hb dX4_back_113 (by decide) (fun c113 => ?_) (fun c113 => ?_)
                    · obtain rfl : i = 210 := Nat.le_antisymm hi ((nI_leI (by omega) (by omega)).mp c113)
                      refine lv_iconst (v := (nI 0)) hx hb dX4_back_129 (by decide) ?_
                      refine lv_istore_n (lv' := [(2, .int (nI 0)), (0, .ref mx)]) hx hb dX4_back_130 rfl hl (by decide) rfl (fun ls hl => ?_)
                      have LP131 : ∀ (n9 : Nat) (i2 : Nat) (w4 : Nat → Nat) (hm : (wn - i2) < n9) (hi2 : i2 ≤ wn) (hw4 : ∀ j, w4 j < 256) (hv4 : sv w4 210 = (hn7 wr i2 : Int)) (H : Heap) (locs : List Loc) (ls : Array Slot) (hP : va_P (dC, dI) vwCl [(mx, .inr (4, [.int 0, .int (nI n), .int (nI dn), .int (nI bn), .int (nI wn), .ref m5, .ref m6, .ref m7, .ref m8, .ref m9, .ref m10, .ref m11])), (m5, .inl (cI, 40, .inl (fun j => nI (z j)))), (m6, .inl (cI, 210, .inl (fun j => nI (w4 j)))), (m8, .inl (cI, 500, .inl (fun j => nI (wr j)))), (m9, .inl (cB, 8000, .inl (fun j => sb_b (g j))))] H) (hD : va_D A [(mx, .inr (4, [.int 0, .int (nI n), .int (nI dn), .int (nI bn), .int (nI wn), .ref m5, .ref m6, .ref m7, .ref m8, .ref m9, .ref m10, .ref m11])), (m5, .inl (cI, 40, .inl (fun j => nI (z j)))), (m6, .inl (cI, 210, .inl (fun j => nI (w4 j)))), (m8, .inl (cI, 500, .inl (fun j => nI (wr j)))), (m9, .inl (cB, 8000, .inl (fun j => sb_b (g j))))]) (hS : va_S A s.heap H locs) (hl : lv_has ls 3 [(0, .ref mx), (2, .int (nI i2))]), W p l e (headSpec wsX4_back ({ frames := 3, cells := 0, slots := 0, locals := 66 } : Room)).room s m ([.ref mx]).toArray below meth c H locs 0 0 (MQ below (va_Qi (fun (r : Int32) (uS : Int32 × Nat × (Nat → Nat) × (Nat → Nat) × (Nat → Nat)) => match uS with | (th3, n3, g3, z3, rw3) => (∀ j, rw3 j < 256) ∧ ((th3 = 1 ∧ n3 = n ∧ g3 = g ∧ z3 = z ∧ ¬ (wn ≤ 229 ∧ GR wn wr)) ∨ (th3 = 0 ∧ n3 = n + 1 ∧ (wn ≤ 229 ∧ GR wn wr) ∧ KEPTM n g z g3 z3 (hn7 wr wn) r) ∨ (th3 = 2 ∧ n3 = n ∧ g3 = g ∧ z3 = z ∧ (wn ≤ 229 ∧ GR wn wr) ∧ NOKEEP n (hn7 wr wn)))) (fun (uS : Int32 × Nat × (Nat → Nat) × (Nat → Nat) × (Nat → Nat)) (tS : State) => match uS with | (th3, n3, g3, z3, rw3) => va_P (dC, dI) vwCl [(mx, .inr (4, [.int th3, .int (nI n3), .int (nI dn), .int (nI bn), .int (nI wn), .ref m5, .ref m6, .ref m7, .ref m8, .ref m9, .ref m10, .ref m11])), (m5, .inl (cI, 40, .inl (fun j => nI (z3 j)))), (m6, .inl (cI, 210, .inl (fun j => nI (rw3 j)))), (m8, .inl (cI, 500, .inl (fun j => nI (wr j)))), (m9, .inl (cB, 8000, .inl (fun j => sb_b (g3 j))))] tS.heap ∧ va_K (dC, dI) vwCl [(cI, .int), (cB, .byte)] tS ∧ va_D A [(mx, .inr (4, [.int th3, .int (nI n3), .int (nI dn), .int (nI bn), .int (nI wn), .ref m5, .ref m6, .ref m7, .ref m8, .ref m9, .ref m10, .ref m11])), (m5, .inl (cI, 40, .inl (fun j => nI (z3 j)))), (m6, .inl (cI, 210, .inl (fun j => nI (rw3 j)))), (m8, .inl (cI, 500, .inl (fun j => nI (wr j)))), (m9, .inl (cB, 8000, .inl (fun j => sb_b (g3 j))))]) A) ([.ref mx]).toArray s 0 0 A) (F0 m 131 ls []) := by
                        intro n9
                        induction n9 with
                        | zero => intro i2 w4 hm; exact absurd hm (Nat.not_lt_zero _)
                        | succ n9 ih =>
                          intro i2 w4 hm hi2 hw4 hv4 H locs ls hP hD hS hl
                          have ih131 := ih
                          refine lv_iload_n hx hb dX4_back_131 rfl (lv_at hl 1 rfl) ?_
                          refine lv_aload_n hx hb dX4_back_132 rfl (lv_at hl 0 rfl) ?_
                          refine va_get (D := (dC, dI)) (ci := 4) (v := .int (nI wn)) (C := RX4) (T := TX4) (N := 12) hx hb hts hinX4 hown hK hP 0 rfl rfl 4 (by decide) (hts (.fieldLink RX4 75 "NumberContentsModel" "outMany" "I") (by decide +kernel)) (fun _ h9 => h9) rfl dX4_back_133 ?_
                          refine lv_icmp_ge (tgt := 161) hx hb dX4_back_136 (by decide) (fun c136 => ?_) (fun c136 => ?_)
                          · obtain rfl : wn = i2 := Nat.le_antisymm ((nI_leI (by omega) (by omega)).mp c136) hi2
                            refine lv_aload_n hx hb dX4_back_161 rfl (lv_at hl 0 rfl) ?_
                            refine lv_iconst (v := 2) hx hb dX4_back_162 (by decide) ?_
                            have hPc := hP.sub (ws' := [(mx, .inr (4, [.int 0, .int (nI n), .int (nI dn), .int (nI bn), .int (nI wn), .ref m5, .ref m6, .ref m7, .ref m8, .ref m9, .ref m10, .ref m11])), (m5, .inl (cI, 40, .inl (fun j => nI (z j)))), (m6, .inl (cI, 210, .inl (fun j => nI (w4 j)))), (m9, .inl (cB, 8000, .inl (fun j => sb_b (g j))))]) [0, 1, 2, 4] rfl
                            have hKc := hK.sub (tys' := [(cI, .int), (cB, .byte)]) [0, 1] rfl
                            have hDc := hD.sub (ws' := [(mx, .inr (4, [.int 0, .int (nI n), .int (nI dn), .int (nI bn), .int (nI wn), .ref m5, .ref m6, .ref m7, .ref m8, .ref m9, .ref m10, .ref m11])), (m5, .inl (cI, 40, .inl (fun j => nI (z j)))), (m6, .inl (cI, 210, .inl (fun j => nI (w4 j)))), (m9, .inl (cB, 8000, .inl (fun j => sb_b (g j))))]) [0, 1, 2, 4] (by decide) rfl
                            have hFc := va_free (wc := [(mx, .inr (4, [.int 0, .int (nI n), .int (nI dn), .int (nI bn), .int (nI wn), .ref m5, .ref m6, .ref m7, .ref m8, .ref m9, .ref m10, .ref m11])), (m5, .inl (cI, 40, .inl (fun j => nI (z j)))), (m6, .inl (cI, 210, .inl (fun j => nI (w4 j)))), (m9, .inl (cB, 8000, .inl (fun j => sb_b (g j))))]) hD hS hA [0, 1, 2, 4] rfl
                            refine va_calli (va_runV (As := [.int 2]) (rest := []) ⟨hx, hb, hml, hown, hts⟩ (c_X4_keep l dC dI cI cB mx m5 m6 m7 m8 m9 m10 m11 n dn bn wn 0 g z w4 2 H.size hI hw4 (Or.inl rfl)) (cwV 1 hts gX4_back_X4_keep rfl rfl rfl (by decide +kernel) ⟨Nat.le_of_ble_eq_true rfl, Nat.le_of_ble_eq_true rfl⟩) ⟨fun a U g mk q => by obtain ⟨q0, q1, qP, qK, qD⟩ := q; exact ⟨q0, q1, qP, va_K.moved (u := U) (U := U.calling g mk a) (Vm.Alike.refl U.vm) qK, qD⟩, va_recv hKc hPc (ci := 4) (q0 := 0) rfl rfl, fun U hU hW => ⟨rfl, by rw [hU], by rw [hU]; exact hPc, va_K.moved hW.alike hKc, hDc.weaken (fun _ _ _ _ => trivial)⟩⟩ rfl rfl hl.1 rfl (lv_room (Nat.le_of_ble_eq_true rfl)) dX4_back_163 ⟨Nat.le_of_ble_eq_true rfl, Nat.le_of_ble_eq_true rfl⟩) hS (fun q _ h => hFc q h) hFc (fun r163 uS tS H1 locs htS hvm h163 hB hzS hkS hS => ?_)
                            obtain ⟨th3_163, n3_163, g3_163, z3_163⟩ := uS
                            obtain ⟨hP1, hK1, hD1⟩ := hB
                            rw [htS] at hP1
                            have hK1 := va_K.moved hvm.symm hK1
                            try dsimp only at h163
                            obtain ⟨hP, hD⟩ := va_join (wr := [(m8, .inl (cI, 500, .inl (fun j => nI (wr j))))]) (w1 := [(mx, .inr (4, [.int th3_163, .int (nI n3_163), .int (nI dn), .int (nI bn), .int (nI wn), .ref m5, .ref m6, .ref m7, .ref m8, .ref m9, .ref m10, .ref m11])), (m5, .inl (cI, 40, .inl (fun j => nI (z3_163 j)))), (m6, .inl (cI, 210, .inl (fun j => nI (w4 j)))), (m9, .inl (cB, 8000, .inl (fun j => sb_b (g3_163 j))))]) hP hD [0, 1, 2, 4] [3] rfl rfl (by decide) (by decide) hkS hFc hP1 hD1
                            generalize H1 = H at hP hS ⊢
                            have hP : va_P (dC, dI) vwCl [(m8, .inl (cI, 500, .inl (fun j => nI (wr j)))), (mx, .inr (4, [.int th3_163, .int (nI n3_163), .int (nI dn), .int (nI bn), .int (nI wn), .ref m5, .ref m6, .ref m7, .ref m8, .ref m9, .ref m10, .ref m11])), (m5, .inl (cI, 40, .inl (fun j => nI (z3_163 j)))), (m6, .inl (cI, 210, .inl (fun j => nI (w4 j)))), (m9, .inl (cB, 8000, .inl (fun j => sb_b (g3_163 j))))] H := hP
                            have hD : va_D A [(m8, .inl (cI, 500, .inl (fun j => nI (wr j)))), (mx, .inr (4, [.int th3_163, .int (nI n3_163), .int (nI dn), .int (nI bn), .int (nI wn), .ref m5, .ref m6, .ref m7, .ref m8, .ref m9, .ref m10, .ref m11])), (m5, .inl (cI, 40, .inl (fun j => nI (z3_163 j)))), (m6, .inl (cI, 210, .inl (fun j => nI (w4 j)))), (m9, .inl (cB, 8000, .inl (fun j => sb_b (g3_163 j))))] := hD
                            rw [hv4] at h163
                            have hP9 := hP.sub (ws' := [(mx, .inr (4, [.int th3_163, .int (nI n3_163), .int (nI dn), .int (nI bn), .int (nI wn), .ref m5, .ref m6, .ref m7, .ref m8, .ref m9, .ref m10, .ref m11])), (m5, .inl (cI, 40, .inl (fun j => nI (z3_163 j)))), (m6, .inl (cI, 210, .inl (fun j => nI (w4 j)))), (m8, .inl (cI, 500, .inl (fun j => nI (wr j)))), (m9, .inl (cB, 8000, .inl (fun j => sb_b (g3_163 j))))]) [1, 2, 3, 0, 4] rfl
                            have hD9 := hD.sub (ws' := [(mx, .inr (4, [.int th3_163, .int (nI n3_163), .int (nI dn), .int (nI bn), .int (nI wn), .ref m5, .ref m6, .ref m7, .ref m8, .ref m9, .ref m10, .ref m11])), (m5, .inl (cI, 40, .inl (fun j => nI (z3_163 j)))), (m6, .inl (cI, 210, .inl (fun j => nI (w4 j)))), (m8, .inl (cI, 500, .inl (fun j => nI (wr j)))), (m9, .inl (cB, 8000, .inl (fun j => sb_b (g3_163 j))))]) [1, 2, 3, 0, 4] (by decide) rfl
                            have hK9 := hK.sub (tys' := [(cI, .int), (cB, .byte)]) [0, 1] rfl
                            exact W.iret (v := r163) hx hb hr (fun tS htS hW => ⟨⟨r163, (th3_163, n3_163, g3_163, z3_163, w4), rfl, ⟨hw4, Or.inr (h163.elim (fun y => Or.inl ⟨y.1, y.2.1, ⟨hw229, hgr⟩, y.2.2⟩) (fun y => Or.inr ⟨y.1, y.2.1, y.2.2.1, y.2.2.2.1, ⟨hw229, hgr⟩, y.2.2.2.2⟩))⟩, by rw [htS]; exact hP9, va_K.moved hW.alike hK9, hD9⟩, hS.F htS⟩) hS.2.2 dX4_back_166
                          · have hlt : i2 < wn := Nat.lt_of_not_le (fun h => c136 (nI_le h (by omega)))
                            refine lv_aload_n hx hb dX4_back_139 rfl (lv_at hl 0 rfl) ?_
                            refine lv_sipush (v := (nI 128)) hx hb dX4_back_140 (by decide) ?_
                            refine lv_aload_n hx hb dX4_back_143 rfl (lv_at hl 0 rfl) ?_
                            refine va_get (D := (dC, dI)) (ci := 4) (v := .ref m8) (C := RX4) (T := TX4) (N := 12) hx hb hts hinX4 hown hK hP 0 rfl rfl 8 (by decide) (hts (.fieldLink RX4 19 "NumberContentsModel" "out" "[I") (by decide +kernel)) (fun _ h9 => h9) rfl dX4_back_144 ?_
                            refine lv_iload_n hx hb dX4_back_147 rfl (lv_at hl 1 rfl) ?_
                            refine va_iald hx hb hK hP 3 0 rfl rfl (vp_in_nI (by omega) (by omega)) dX4_back_148 ?_
                            refine lv_topi (fun x148 e148 => ?_)
                            obtain rfl : x148 = nI (wr i2) := e148.trans (atg (by omega))
                            refine lv_bipush (v := (nI 127)) hx hb dX4_back_149 (by decide) ?_
                            refine lv_iand hx hb dX4_back_151 ?_
                            refine lv_topi (fun x151 e151 => ?_)
                            obtain rfl : x151 = nI (wr i2 % 2 ^ 7) := e151.trans (pk_andN (by have := hwr i2; omega) 7 (by decide))
                            have hPc := hP.sub (ws' := [(mx, .inr (4, [.int 0, .int (nI n), .int (nI dn), .int (nI bn), .int (nI wn), .ref m5, .ref m6, .ref m7, .ref m8, .ref m9, .ref m10, .ref m11])), (m6, .inl (cI, 210, .inl (fun j => nI (w4 j))))]) [0, 2] rfl
                            have hKc := hK.sub (tys' := [(cI, .int)]) [0] rfl
                            have hDc := hD.sub (ws' := [(mx, .inr (4, [.int 0, .int (nI n), .int (nI dn), .int (nI bn), .int (nI wn), .ref m5, .ref m6, .ref m7, .ref m8, .ref m9, .ref m10, .ref m11])), (m6, .inl (cI, 210, .inl (fun j => nI (w4 j))))]) [0, 2] (by decide) rfl
                            have hFc := va_free (wc := [(mx, .inr (4, [.int 0, .int (nI n), .int (nI dn), .int (nI bn), .int (nI wn), .ref m5, .ref m6, .ref m7, .ref m8, .ref m9, .ref m10, .ref m11])), (m6, .inl (cI, 210, .inl (fun j => nI (w4 j))))]) hD hS hA [0, 2] rfl
                            refine va_callv (va_runV (As := [.int (nI 128), .int (nI (wr i2 % 2 ^ 7))]) (rest := []) ⟨hx, hb, hml, hown, hts⟩ (c_X4_times l dC dI cI mx m5 m6 m7 m8 m9 m10 m11 n dn bn wn 0 w4 (nI 128) (nI (wr i2 % 2 ^ 7)) H.size hw4) (cwV 2 hts gX4_back_X4_times rfl rfl rfl (by decide +kernel) ⟨Nat.le_of_ble_eq_true rfl, Nat.le_of_ble_eq_true rfl⟩) ⟨fun a U g mk q => by obtain ⟨q0, q1, qP, qK, qD⟩ := q; exact ⟨q0, q1, qP, va_K.moved (u := U) (U := U.calling g mk a) (Vm.Alike.refl U.vm) qK, qD⟩, va_recv hKc hPc (ci := 4) (q0 := 0) rfl rfl, fun U hU hW => ⟨rfl, by rw [hU], by rw [hU]; exact hPc, va_K.moved hW.alike hKc, hDc.weaken (fun _ _ _ _ => trivial)⟩⟩ rfl rfl hl.1 rfl (lv_room (Nat.le_of_ble_eq_true rfl)) dX4_back_152 ⟨Nat.le_of_ble_eq_true rfl, Nat.le_of_ble_eq_true rfl⟩) hS (fun q _ h => hFc q h) hFc (fun uS tS H1 locs htS hvm h152 hB hzS hkS hS => ?_)
                            obtain ⟨g3_152, rfl⟩ : ∃ z, z = uS := ⟨_, rfl⟩
                            obtain ⟨hP1, hK1, hD1⟩ := hB
                            rw [htS] at hP1
                            have hK1 := va_K.moved hvm.symm hK1
                            try dsimp only at h152
                            obtain ⟨hP, hD⟩ := va_join (wr := [(m5, .inl (cI, 40, .inl (fun j => nI (z j)))), (m8, .inl (cI, 500, .inl (fun j => nI (wr j)))), (m9, .inl (cB, 8000, .inl (fun j => sb_b (g j))))]) (w1 := [(mx, .inr (4, [.int 0, .int (nI n), .int (nI dn), .int (nI bn), .int (nI wn), .ref m5, .ref m6, .ref m7, .ref m8, .ref m9, .ref m10, .ref m11])), (m6, .inl (cI, 210, .inl (fun j => nI (g3_152 j))))]) hP hD [0, 2] [1, 3, 4] rfl rfl (by decide) (by decide) hkS hFc hP1 hD1
                            generalize H1 = H at hP hS ⊢
                            have hP : va_P (dC, dI) vwCl [(m5, .inl (cI, 40, .inl (fun j => nI (z j)))), (m8, .inl (cI, 500, .inl (fun j => nI (wr j)))), (m9, .inl (cB, 8000, .inl (fun j => sb_b (g j)))), (mx, .inr (4, [.int 0, .int (nI n), .int (nI dn), .int (nI bn), .int (nI wn), .ref m5, .ref m6, .ref m7, .ref m8, .ref m9, .ref m10, .ref m11])), (m6, .inl (cI, 210, .inl (fun j => nI (g3_152 j))))] H := hP
                            have hD : va_D A [(m5, .inl (cI, 40, .inl (fun j => nI (z j)))), (m8, .inl (cI, 500, .inl (fun j => nI (wr j)))), (m9, .inl (cB, 8000, .inl (fun j => sb_b (g j)))), (mx, .inr (4, [.int 0, .int (nI n), .int (nI dn), .int (nI bn), .int (nI wn), .ref m5, .ref m6, .ref m7, .ref m8, .ref m9, .ref m10, .ref m11])), (m6, .inl (cI, 210, .inl (fun j => nI (g3_152 j))))] := hD
                            obtain ⟨x155, e155⟩ : ∃ zz9 : Int32, zz9 = (nI i2) + 1 := ⟨_, rfl⟩
                            refine lv_iinc (v := x155) (lv' := [(2, .int x155), (0, .ref mx)]) hx hb dX4_back_155 hl (k := 1) rfl (by rw [e155]; rfl) (by decide) rfl (fun ls hl => ?_)
                            obtain rfl : x155 = nI (i2 + 1) := e155.trans (nI_1 i2)
                            refine lv_goto (tgt := 131) hx hb dX4_back_158 (by decide) ?_
                            exact ih131 (i2 + 1) g3_152 (by omega) (by omega) h152.1 (hnm_ex (by omega) hv4 h152) _ _ _ (hP.sub [3, 0, 4, 1, 2] rfl) (hD.sub [3, 0, 4, 1, 2] (by decide) rfl) hS (lv_sub hl [1, 0] rfl)
                      exact LP131 _ 0 w2 (Nat.lt_succ_self _) (by omega) hw2 (sv_zero (by decide) (fun j hj => hz2 j (by omega))) _ _ _ (hP.sub [0, 1, 2, 3, 4] rfl) (hD.sub [0, 1, 2, 3, 4] (by decide) rfl) hS (lv_sub hl [1, 0] rfl)
                    · have hlt : i < 210 := Nat.lt_of_not_le (fun h => c113 (nI_le h (by omega)))
                      refine lv_aload_n hx hb dX4_back_116 rfl (lv_at hl 0 rfl) ?_
                      refine va_get (D := (dC, dI)) (ci := 4) (v := .ref m6) (C := RX4) (T := TX4) (N := 12) hx hb hts hinX4 hown hK hP 0 rfl rfl 6 (by decide) (hts (.fieldLink RX4 13 "NumberContentsModel" "row" "[I") (by decide +kernel)) (fun _ h9 => h9) rfl dX4_back_117 ?_
                      refine lv_iload_n hx hb dX4_back_120 rfl (lv_at hl 1 rfl) ?_
                      refine lv_iconst (v := (nI 0)) hx hb dX4_back_121 (by decide) ?_
                      refine va_iast hx hb hK hP hD hS 2 0 rfl rfl (vp_in_nI (by omega) (by omega)) dX4_back_122 (fun H locs hP hD hS => ?_)
                      have hP : va_P (dC, dI) vwCl [(mx, .inr (4, [.int 0, .int (nI n), .int (nI dn), .int (nI bn), .int (nI wn), .ref m5, .ref m6, .ref m7, .ref m8, .ref m9, .ref m10, .ref m11])), (m5, .inl (cI, 40, .inl (fun j => nI (z j)))), (m6, .inl (cI, 210, .inl (upd (fun j => nI (w2 j)) (nI i).toNatClampNeg (nI 0)))), (m8, .inl (cI, 500, .inl (fun j => nI (wr j)))), (m9, .inl (cB, 8000, .inl (fun j => sb_b (g j))))] H := hP
                      have hD : va_D A [(mx, .inr (4, [.int 0, .int (nI n), .int (nI dn), .int (nI bn), .int (nI wn), .ref m5, .ref m6, .ref m7, .ref m8, .ref m9, .ref m10, .ref m11])), (m5, .inl (cI, 40, .inl (fun j => nI (z j)))), (m6, .inl (cI, 210, .inl (upd (fun j => nI (w2 j)) (nI i).toNatClampNeg (nI 0)))), (m8, .inl (cI, 500, .inl (fun j => nI (wr j)))), (m9, .inl (cB, 8000, .inl (fun j => sb_b (g j))))] := hD
                      obtain ⟨f122, e122⟩ : ∃ zz9 : Nat → Int32, zz9 = upd (fun j => nI (w2 j)) (nI i).toNatClampNeg (nI 0) := ⟨_, rfl⟩
                      rw [← e122] at hP hD
                      obtain rfl : f122 = fun j => nI (va_up w2 i 0 j) := e122.trans (upg (by omega))
                      obtain ⟨x123, e123⟩ : ∃ zz9 : Int32, zz9 = (nI i) + 1 := ⟨_, rfl⟩
                      refine lv_iinc (v := x123) (lv' := [(2, .int x123), (0, .ref mx)]) hx hb dX4_back_123 hl (k := 1) rfl (by rw [e123]; rfl) (by decide) rfl (fun ls hl => ?_)
                      obtain rfl : x123 = nI (i + 1) := e123.trans (nI_1 i)
                      refine lv_goto (tgt := 109) hx hb dX4_back_126 (by decide) ?_
                      exact ih109 (i + 1) (va_up w2 i 0) (by omega) (by omega) (up_lt hw2 (by decide)) (fun j h => by by_cases e : j = i; rw [e, va_up_self]; rw [va_up_ne _ _ e]; exact hz2 j (by omega)) _ _ _ (hP.sub [0, 1, 2, 3, 4] rfl) (hD.sub [0, 1, 2, 3, 4] (by decide) rfl) hS (lv_sub hl [1, 0] rfl)
                exact LP109 _ 0 rw (Nat.lt_succ_self _) (by omega) hrw (fun j h => absurd h (by omega)) _ _ _ (hP.sub [0, 1, 2, 3, 4] rfl) (hD.sub [0, 1, 2, 3, 4] (by decide) rfl) hS (lv_sub hl [1, 0] rfl)
              · first | exact absurd c102 (by decide) | exact (c102 (by decide)).elim
            · refine lv_iconst (v := 1) hx hb dX4_back_90 (by decide) ?_
              refine lv_goto (tgt := 95) hx hb dX4_back_91 (by decide) ?_
              refine va_put (D := (dC, dI)) (ci := 4) (v := .int 1) (ty := .int) (C := RX4) (T := TX4) (N := 12) hx hb hts hinX4 tyX4 tyX4_ok nmX4 hown hK hP hD hS 0 rfl rfl 0 (by decide) (hts (.fieldLink RX4 32 "NumberContentsModel" "thrown" "I") (by decide +kernel)) (fun _ h9 => h9) rfl (by decide +kernel) rfl rfl (Nat.le_of_ble_eq_true rfl) dX4_back_95 (fun H locs hP hD hS => ?_)
              have hP : va_P (dC, dI) vwCl [(mx, .inr (4, [.int 1, .int (nI n), .int (nI dn), .int (nI bn), .int (nI wn), .ref m5, .ref m6, .ref m7, .ref m8, .ref m9, .ref m10, .ref m11])), (m5, .inl (cI, 40, .inl (fun j => nI (z j)))), (m6, .inl (cI, 210, .inl (fun j => nI (rw j)))), (m8, .inl (cI, 500, .inl (fun j => nI (wr j)))), (m9, .inl (cB, 8000, .inl (fun j => sb_b (g j))))] H := hP
              have hD : va_D A [(mx, .inr (4, [.int 1, .int (nI n), .int (nI dn), .int (nI bn), .int (nI wn), .ref m5, .ref m6, .ref m7, .ref m8, .ref m9, .ref m10, .ref m11])), (m5, .inl (cI, 40, .inl (fun j => nI (z j)))), (m6, .inl (cI, 210, .inl (fun j => nI (rw j)))), (m8, .inl (cI, 500, .inl (fun j => nI (wr j)))), (m9, .inl (cB, 8000, .inl (fun j => sb_b (g j))))] := hD
              refine lv_aload_n hx hb dX4_back_98 rfl (lv_at hl 0 rfl) ?_
              refine va_get (D := (dC, dI)) (ci := 4) (v := .int 1) (C := RX4) (T := TX4) (N := 12) hx hb hts hinX4 hown hK hP 0 rfl rfl 0 (by decide) (hts (.fieldLink RX4 32 "NumberContentsModel" "thrown" "I") (by decide +kernel)) (fun _ h9 => h9) rfl dX4_back_99 ?_
              refine lv_if_le (tgt := 107) hx hb dX4_back_102 (by decide) (fun c102 => ?_) (fun c102 => ?_)
              · first | exact absurd c102 (by decide) | exact (c102 (by decide)).elim
              · refine lv_iconst (v := 0) hx hb dX4_back_105 (by decide) ?_
                have hP9 := hP.sub (ws' := [(mx, .inr (4, [.int 1, .int (nI n), .int (nI dn), .int (nI bn), .int (nI wn), .ref m5, .ref m6, .ref m7, .ref m8, .ref m9, .ref m10, .ref m11])), (m5, .inl (cI, 40, .inl (fun j => nI (z j)))), (m6, .inl (cI, 210, .inl (fun j => nI (rw j)))), (m8, .inl (cI, 500, .inl (fun j => nI (wr j)))), (m9, .inl (cB, 8000, .inl (fun j => sb_b (g j))))]) [0, 1, 2, 3, 4] rfl
                have hD9 := hD.sub (ws' := [(mx, .inr (4, [.int 1, .int (nI n), .int (nI dn), .int (nI bn), .int (nI wn), .ref m5, .ref m6, .ref m7, .ref m8, .ref m9, .ref m10, .ref m11])), (m5, .inl (cI, 40, .inl (fun j => nI (z j)))), (m6, .inl (cI, 210, .inl (fun j => nI (rw j)))), (m8, .inl (cI, 500, .inl (fun j => nI (wr j)))), (m9, .inl (cB, 8000, .inl (fun j => sb_b (g j))))]) [0, 1, 2, 3, 4] (by decide) rfl
                have hK9 := hK.sub (tys' := [(cI, .int), (cB, .byte)]) [0, 1] rfl
                exact W.iret (v := 0) hx hb hr (fun tS htS hW => ⟨⟨0, (1, n, g, z, rw), rfl, ⟨hrw, Or.inl ⟨rfl, rfl, rfl, rfl, fun y => ite_r hge c87 y.2⟩⟩, by rw [htS]; exact hP9, va_K.moved hW.alike hK9, hD9⟩, hS.F htS⟩) hS.2.2 dX4_back_106
          · have hlt : k < wn := Nat.lt_of_not_le (fun h => c32 (nI_le h (by omega)))
            refine lv_iload_n hx hb dX4_back_35 rfl (lv_at hl 1 rfl) ?_
            refine lv_if_eq (tgt := 77) hx hb dX4_back_36 (by decide) (fun c36 => ?_) (fun c36 => ?_)
            · refine lv_iconst (v := 0) hx hb dX4_back_77 (by decide) ?_
              refine lv_istore_n (lv' := [(1, .int 0), (0, .ref mx), (2, .int (nI k))]) hx hb dX4_back_78 rfl hl (by decide) rfl (fun ls hl => ?_)
              obtain ⟨x79, e79⟩ : ∃ zz9 : Int32, zz9 = (nI k) + 1 := ⟨_, rfl⟩
              refine lv_iinc (v := x79) (lv' := [(2, .int x79), (1, .int 0), (0, .ref mx)]) hx hb dX4_back_79 hl (k := 2) rfl (by rw [e79]; rfl) (by decide) rfl (fun ls hl => ?_)
              obtain rfl : x79 = nI (k + 1) := e79.trans (nI_1 k)
              refine lv_goto (tgt := 27) hx hb dX4_back_82 (by decide) ?_
              exact ih27 (k + 1) 0 (by omega) (by omega) (by first | exact gd_n hgd c36 | exact Or.inr ⟨rfl, fun y => by have := y.2.2 k hlt; omega⟩) _ _ _ (hP.sub [0, 1, 2, 3, 4] rfl) (hD.sub [0, 1, 2, 3, 4] (by decide) rfl) hS (lv_sub hl [2, 1, 0] rfl)
            · refine lv_aload_n hx hb dX4_back_39 rfl (lv_at hl 0 rfl) ?_
              refine va_get (D := (dC, dI)) (ci := 4) (v := .ref m8) (C := RX4) (T := TX4) (N := 12) hx hb hts hinX4 hown hK hP 0 rfl rfl 8 (by decide) (hts (.fieldLink RX4 19 "NumberContentsModel" "out" "[I") (by decide +kernel)) (fun _ h9 => h9) rfl dX4_back_40 ?_
              refine lv_iload_n hx hb dX4_back_43 rfl (lv_at hl 2 rfl) ?_
              refine va_iald hx hb hK hP 3 0 rfl rfl (vp_in_nI (by omega) (by omega)) dX4_back_44 ?_
              refine lv_topi (fun x44 e44 => ?_)
              obtain rfl : x44 = nI (wr k) := e44.trans (atg (by omega))
              refine lv_bipush (v := (nI 127)) hx hb dX4_back_45 (by decide) ?_
              refine lv_icmp_le (tgt := 54) hx hb dX4_back_47 (by decide) (fun c47 => ?_) (fun c47 => ?_)
              · have hb47 : ¬ 128 ≤ wr k := (by have := (nI_leI (by have := hwr k; omega) (by omega)).mp c47; omega)
                refine lv_iconst (v := 0) hx hb dX4_back_54 (by decide) ?_
                refine lv_iload_n hx hb dX4_back_55 rfl (lv_at hl 2 rfl) ?_
                refine lv_aload_n hx hb dX4_back_56 rfl (lv_at hl 0 rfl) ?_
                refine va_get (D := (dC, dI)) (ci := 4) (v := .int (nI wn)) (C := RX4) (T := TX4) (N := 12) hx hb hts hinX4 hown hK hP 0 rfl rfl 4 (by decide) (hts (.fieldLink RX4 75 "NumberContentsModel" "outMany" "I") (by decide +kernel)) (fun _ h9 => h9) rfl dX4_back_57 ?_
                refine lv_iconst (v := 1) hx hb dX4_back_60 (by decide) ?_
                refine lv_isub hx hb dX4_back_61 ?_
                refine lv_topi (fun x61 e61 => ?_)
                obtain rfl : x61 = nI (wn - 1) := e61.trans (nI_m1 (by omega))
                refine lv_icmp_ge (tgt := 69) hx hb dX4_back_62 (by decide) (fun c62 => ?_) (fun c62 => ?_)
                · have hb62 : ¬ k < wn - 1 := (by have := (nI_leI (by omega) (by omega)).mp c62; omega)
                  refine lv_iconst (v := 0) hx hb dX4_back_69 (by decide) ?_
                  refine lv_icmp_ne (tgt := 77) hx hb dX4_back_70 (by decide) (fun c70 => ?_) (fun c70 => ?_)
                  · first | exact absurd c70 (by decide) | exact (c70 (by decide)).elim
                  · refine lv_iconst (v := 1) hx hb dX4_back_73 (by decide) ?_
                    refine lv_goto (tgt := 78) hx hb dX4_back_74 (by decide) ?_
                    refine lv_istore_n (lv' := [(1, .int 1), (0, .ref mx), (2, .int (nI k))]) hx hb dX4_back_78 rfl hl (by decide) rfl (fun ls hl => ?_)
                    obtain ⟨x79, e79⟩ : ∃ zz9 : Int32, zz9 = (nI k) + 1 := ⟨_, rfl⟩
                    refine lv_iinc (v := x79) (lv' := [(2, .int x79), (1, .int 1), (0, .ref mx)]) hx hb dX4_back_79 hl (k := 2) rfl (by rw [e79]; rfl) (by decide) rfl (fun ls hl => ?_)
                    obtain rfl : x79 = nI (k + 1) := e79.trans (nI_1 k)
                    refine lv_goto (tgt := 27) hx hb dX4_back_82 (by decide) ?_
                    exact ih27 (k + 1) 1 (by omega) (by omega) (gd_y hgd c36 (by omega)) _ _ _ (hP.sub [0, 1, 2, 3, 4] rfl) (hD.sub [0, 1, 2, 3, 4] (by decide) rfl) hS (lv_sub hl [2, 1, 0] rfl)
                · have hb62 : k < wn - 1 := Nat.lt_of_not_le (fun y => c62 (nI_le y (by omega)))
                  refine lv_iconst (v := 1) hx hb dX4_back_65 (by decide) ?_
                  refine lv_goto (tgt := 70) hx hb dX4_back_66 (by decide) ?_
                  refine lv_icmp_ne (tgt := 77) hx hb dX4_back_70 (by decide) (fun c70 => ?_) (fun c70 => ?_)
                  · refine lv_iconst (v := 0) hx hb dX4_back_77 (by decide) ?_
                    refine lv_istore_n (lv' := [(1, .int 0), (0, .ref mx), (2, .int (nI k))]) hx hb dX4_back_78 rfl hl (by decide) rfl (fun ls hl => ?_)
                    obtain ⟨x79, e79⟩ : ∃ zz9 : Int32, zz9 = (nI k) + 1 := ⟨_, rfl⟩
                    refine lv_iinc (v := x79) (lv' := [(2, .int x79), (1, .int 0), (0, .ref mx)]) hx hb dX4_back_79 hl (k := 2) rfl (by rw [e79]; rfl) (by decide) rfl (fun ls hl => ?_)
                    obtain rfl : x79 = nI (k + 1) := e79.trans (nI_1 k)
                    refine lv_goto (tgt := 27) hx hb dX4_back_82 (by decide) ?_
                    exact ih27 (k + 1) 0 (by omega) (by omega) (by first | exact gd_n hgd c36 | exact Or.inr ⟨rfl, fun y => by have := y.2.2 k hlt; omega⟩) _ _ _ (hP.sub [0, 1, 2, 3, 4] rfl) (hD.sub [0, 1, 2, 3, 4] (by decide) rfl) hS (lv_sub hl [2, 1, 0] rfl)
                  · first | exact absurd c70 (by decide) | exact (c70 (by decide)).elim
              · have hb47 : 128 ≤ wr k := Nat.lt_of_not_le (fun y => c47 (nI_le y (by omega)))
                refine lv_iconst (v := 1) hx hb dX4_back_50 (by decide) ?_
                refine lv_goto (tgt := 55) hx hb dX4_back_51 (by decide) ?_
                refine lv_iload_n hx hb dX4_back_55 rfl (lv_at hl 2 rfl) ?_
                refine lv_aload_n hx hb dX4_back_56 rfl (lv_at hl 0 rfl) ?_
                refine va_get (D := (dC, dI)) (ci := 4) (v := .int (nI wn)) (C := RX4) (T := TX4) (N := 12) hx hb hts hinX4 hown hK hP 0 rfl rfl 4 (by decide) (hts (.fieldLink RX4 75 "NumberContentsModel" "outMany" "I") (by decide +kernel)) (fun _ h9 => h9) rfl dX4_back_57 ?_
                refine lv_iconst (v := 1) hx hb dX4_back_60 (by decide) ?_
                refine lv_isub hx hb dX4_back_61 ?_
                refine lv_topi (fun x61 e61 => ?_)
                obtain rfl : x61 = nI (wn - 1) := e61.trans (nI_m1 (by omega))
                refine lv_icmp_ge (tgt := 69) hx hb dX4_back_62 (by decide) (fun c62 => ?_) (fun c62 => ?_)
                · have hb62 : ¬ k < wn - 1 := (by have := (nI_leI (by omega) (by omega)).mp c62; omega)
                  refine lv_iconst (v := 0) hx hb dX4_back_69 (by decide) ?_
                  refine lv_icmp_ne (tgt := 77) hx hb dX4_back_70 (by decide) (fun c70 => ?_) (fun c70 => ?_)
                  · refine lv_iconst (v := 0) hx hb dX4_back_77 (by decide) ?_
                    refine lv_istore_n (lv' := [(1, .int 0), (0, .ref mx), (2, .int (nI k))]) hx hb dX4_back_78 rfl hl (by decide) rfl (fun ls hl => ?_)
                    obtain ⟨x79, e79⟩ : ∃ zz9 : Int32, zz9 = (nI k) + 1 := ⟨_, rfl⟩
                    refine lv_iinc (v := x79) (lv' := [(2, .int x79), (1, .int 0), (0, .ref mx)]) hx hb dX4_back_79 hl (k := 2) rfl (by rw [e79]; rfl) (by decide) rfl (fun ls hl => ?_)
                    obtain rfl : x79 = nI (k + 1) := e79.trans (nI_1 k)
                    refine lv_goto (tgt := 27) hx hb dX4_back_82 (by decide) ?_
                    exact ih27 (k + 1) 0 (by omega) (by omega) (by first | exact gd_n hgd c36 | exact Or.inr ⟨rfl, fun y => by have := y.2.2 k hlt; omega⟩) _ _ _ (hP.sub [0, 1, 2, 3, 4] rfl) (hD.sub [0, 1, 2, 3, 4] (by decide) rfl) hS (lv_sub hl [2, 1, 0] rfl)
                  · first | exact absurd c70 (by decide) | exact (c70 (by decide)).elim
                · have hb62 : k < wn - 1 := Nat.lt_of_not_le (fun y => c62 (nI_le y (by omega)))
                  refine lv_iconst (v := 1) hx hb dX4_back_65 (by decide) ?_
                  refine lv_goto (tgt := 70) hx hb dX4_back_66 (by decide) ?_
                  refine lv_icmp_ne (tgt := 77) hx hb dX4_back_70 (by decide) (fun c70 => ?_) (fun c70 => ?_)
                  · first | exact absurd c70 (by decide) | exact (c70 (by decide)).elim
                  · refine lv_iconst (v := 1) hx hb dX4_back_73 (by decide) ?_
                    refine lv_goto (tgt := 78) hx hb dX4_back_74 (by decide) ?_
                    refine lv_istore_n (lv' := [(1, .int 1), (0, .ref mx), (2, .int (nI k))]) hx hb dX4_back_78 rfl hl (by decide) rfl (fun ls hl => ?_)
                    obtain ⟨x79, e79⟩ : ∃ zz9 : Int32, zz9 = (nI k) + 1 := ⟨_, rfl⟩
                    refine lv_iinc (v := x79) (lv' := [(2, .int x79), (1, .int 1), (0, .ref mx)]) hx hb dX4_back_79 hl (k := 2) rfl (by rw [e79]; rfl) (by decide) rfl (fun ls hl => ?_)
                    obtain rfl : x79 = nI (k + 1) := e79.trans (nI_1 k)
                    refine lv_goto (tgt := 27) hx hb dX4_back_82 (by decide) ?_
                    exact ih27 (k + 1) 1 (by omega) (by omega) (gd_y hgd c36 (by omega)) _ _ _ (hP.sub [0, 1, 2, 3, 4] rfl) (hD.sub [0, 1, 2, 3, 4] (by decide) rfl) hS (lv_sub hl [2, 1, 0] rfl)
      exact LP27 _ 0 0 (Nat.lt_succ_self _) (by omega) (by first | exact Or.inr ⟨rfl, fun y => y.2.1 (nI_inj (hwr 0) (by decide) c16)⟩ | exact Or.inr ⟨rfl, fun y => absurd ((nI_le0 (by omega)).mp c4) (by have := y.1; omega)⟩) _ _ _ (hP.sub [0, 1, 2, 3, 4] rfl) (hD.sub [0, 1, 2, 3, 4] (by decide) rfl) hS (lv_sub hl [2, 1, 0] rfl)
    · refine lv_iconst (v := 1) hx hb dX4_back_19 (by decide) ?_
      refine lv_goto (tgt := 24) hx hb dX4_back_20 (by decide) ?_
      refine lv_istore_n (lv' := [(1, .int 1), (0, .ref mx)]) hx hb dX4_back_24 rfl hl (by decide) rfl (fun ls hl => ?_)
      refine lv_iconst (v := (nI 0)) hx hb dX4_back_25 (by decide) ?_
      refine lv_istore_n (lv' := [(2, .int (nI 0)), (1, .int 1), (0, .ref mx)]) hx hb dX4_back_26 rfl hl (by decide) rfl (fun ls hl => ?_)
      have LP27 : ∀ (n9 : Nat) (k : Nat) (gd : Int32) (hm : (wn - k) < n9) (hk : k ≤ wn) (hgd : (gd = 1 ∧ 1 ≤ wn ∧ wr 0 ≠ 128 ∧ ∀ j, j < k → (128 ≤ wr j ↔ j < wn - 1)) ∨ (gd = 0 ∧ ¬ GR wn wr)) (H : Heap) (locs : List Loc) (ls : Array Slot) (hP : va_P (dC, dI) vwCl [(mx, .inr (4, [.int th, .int (nI n), .int (nI dn), .int (nI bn), .int (nI wn), .ref m5, .ref m6, .ref m7, .ref m8, .ref m9, .ref m10, .ref m11])), (m5, .inl (cI, 40, .inl (fun j => nI (z j)))), (m6, .inl (cI, 210, .inl (fun j => nI (rw j)))), (m8, .inl (cI, 500, .inl (fun j => nI (wr j)))), (m9, .inl (cB, 8000, .inl (fun j => sb_b (g j))))] H) (hD : va_D A [(mx, .inr (4, [.int th, .int (nI n), .int (nI dn), .int (nI bn), .int (nI wn), .ref m5, .ref m6, .ref m7, .ref m8, .ref m9, .ref m10, .ref m11])), (m5, .inl (cI, 40, .inl (fun j => nI (z j)))), (m6, .inl (cI, 210, .inl (fun j => nI (rw j)))), (m8, .inl (cI, 500, .inl (fun j => nI (wr j)))), (m9, .inl (cB, 8000, .inl (fun j => sb_b (g j))))]) (hS : va_S A s.heap H locs) (hl : lv_has ls 3 [(0, .ref mx), (1, .int gd), (2, .int (nI k))]), W p l e (headSpec wsX4_back ({ frames := 3, cells := 0, slots := 0, locals := 66 } : Room)).room s m ([.ref mx]).toArray below meth c H locs 0 0 (MQ below (va_Qi (fun (r : Int32) (uS : Int32 × Nat × (Nat → Nat) × (Nat → Nat) × (Nat → Nat)) => match uS with | (th3, n3, g3, z3, rw3) => (∀ j, rw3 j < 256) ∧ ((th3 = 1 ∧ n3 = n ∧ g3 = g ∧ z3 = z ∧ ¬ (wn ≤ 229 ∧ GR wn wr)) ∨ (th3 = 0 ∧ n3 = n + 1 ∧ (wn ≤ 229 ∧ GR wn wr) ∧ KEPTM n g z g3 z3 (hn7 wr wn) r) ∨ (th3 = 2 ∧ n3 = n ∧ g3 = g ∧ z3 = z ∧ (wn ≤ 229 ∧ GR wn wr) ∧ NOKEEP n (hn7 wr wn)))) (fun (uS : Int32 × Nat × (Nat → Nat) × (Nat → Nat) × (Nat → Nat)) (tS : State) => match uS with | (th3, n3, g3, z3, rw3) => va_P (dC, dI) vwCl [(mx, .inr (4, [.int th3, .int (nI n3), .int (nI dn), .int (nI bn), .int (nI wn), .ref m5, .ref m6, .ref m7, .ref m8, .ref m9, .ref m10, .ref m11])), (m5, .inl (cI, 40, .inl (fun j => nI (z3 j)))), (m6, .inl (cI, 210, .inl (fun j => nI (rw3 j)))), (m8, .inl (cI, 500, .inl (fun j => nI (wr j)))), (m9, .inl (cB, 8000, .inl (fun j => sb_b (g3 j))))] tS.heap ∧ va_K (dC, dI) vwCl [(cI, .int), (cB, .byte)] tS ∧ va_D A [(mx, .inr (4, [.int th3, .int (nI n3), .int (nI dn), .int (nI bn), .int (nI wn), .ref m5, .ref m6, .ref m7, .ref m8, .ref m9, .ref m10, .ref m11])), (m5, .inl (cI, 40, .inl (fun j => nI (z3 j)))), (m6, .inl (cI, 210, .inl (fun j => nI (rw3 j)))), (m8, .inl (cI, 500, .inl (fun j => nI (wr j)))), (m9, .inl (cB, 8000, .inl (fun j => sb_b (g3 j))))]) A) ([.ref mx]).toArray s 0 0 A) (F0 m 27 ls []) := by
        intro n9
        induction n9 with
        | zero => intro k gd hm; exact absurd hm (Nat.not_lt_zero _)
        | succ n9 ih =>
          intro k gd hm hk hgd H locs ls hP hD hS hl
          have ih27 := ih
          refine lv_iload_n hx hb dX4_back_27 rfl (lv_at hl 2 rfl) ?_
          refine lv_aload_n hx hb dX4_back_28 rfl (lv_at hl 0 rfl) ?_
          refine va_get (D := (dC, dI)) (ci := 4) (v := .int (nI wn)) (C := RX4) (T := TX4) (N := 12) hx hb hts hinX4 hown hK hP 0 rfl rfl 4 (by decide) (hts (.fieldLink RX4 75 "NumberContentsModel" "outMany" "I") (by decide +kernel)) (fun _ h9 => h9) rfl dX4_back_29 ?_
          refine lv_icmp_ge (tgt := 85) hx hb dX4_back_32 (by decide) (fun c32 => ?_) (fun c32 => ?_)
          · obtain rfl : wn = k := Nat.le_antisymm ((nI_leI (by omega) (by omega)).mp c32) hk
            have hge := gd_end hgd
            refine lv_aload_n hx hb dX4_back_85 rfl (lv_at hl 0 rfl) ?_
            refine lv_iload_n hx hb dX4_back_86 rfl (lv_at hl 1 rfl) ?_
            refine lv_if_ne (tgt := 94) hx hb dX4_back_87 (by decide) (fun c87 => ?_) (fun c87 => ?_)
            · refine lv_iconst (v := 0) hx hb dX4_back_94 (by decide) ?_
              refine va_put (D := (dC, dI)) (ci := 4) (v := .int 0) (ty := .int) (C := RX4) (T := TX4) (N := 12) hx hb hts hinX4 tyX4 tyX4_ok nmX4 hown hK hP hD hS 0 rfl rfl 0 (by decide) (hts (.fieldLink RX4 32 "NumberContentsModel" "thrown" "I") (by decide +kernel)) (fun _ h9 => h9) rfl (by decide +kernel) rfl rfl (Nat.le_of_ble_eq_true rfl) dX4_back_95 (fun H locs hP hD hS => ?_)
              have hP : va_P (dC, dI) vwCl [(mx, .inr (4, [.int 0, .int (nI n), .int (nI dn), .int (nI bn), .int (nI wn), .ref m5, .ref m6, .ref m7, .ref m8, .ref m9, .ref m10, .ref m11])), (m5, .inl (cI, 40, .inl (fun j => nI (z j)))), (m6, .inl (cI, 210, .inl (fun j => nI (rw j)))), (m8, .inl (cI, 500, .inl (fun j => nI (wr j)))), (m9, .inl (cB, 8000, .inl (fun j => sb_b (g j))))] H := hP
              have hD : va_D A [(mx, .inr (4, [.int 0, .int (nI n), .int (nI dn), .int (nI bn), .int (nI wn), .ref m5, .ref m6, .ref m7, .ref m8, .ref m9, .ref m10, .ref m11])), (m5, .inl (cI, 40, .inl (fun j => nI (z j)))), (m6, .inl (cI, 210, .inl (fun j => nI (rw j)))), (m8, .inl (cI, 500, .inl (fun j => nI (wr j)))), (m9, .inl (cB, 8000, .inl (fun j => sb_b (g j))))] := hD
              refine lv_aload_n hx hb dX4_back_98 rfl (lv_at hl 0 rfl) ?_
              refine va_get (D := (dC, dI)) (ci := 4) (v := .int 0) (C := RX4) (T := TX4) (N := 12) hx hb hts hinX4 hown hK hP 0 rfl rfl 0 (by decide) (hts (.fieldLink RX4 32 "NumberContentsModel" "thrown" "I") (by decide +kernel)) (fun _ h9 => h9) rfl dX4_back_99 ?_
              refine lv_if_le (tgt := 107) hx hb dX4_back_102 (by decide) (fun c102 => ?_) (fun c102 => ?_)
              · have hgr := ite_s hge c87
                have hw229 := gr_229 hwg hgr
                refine lv_iconst (v := (nI 0)) hx hb dX4_back_107 (by decide) ?_
                refine lv_istore_n (lv' := [(2, .int (nI 0)), (0, .ref mx), (1, .int gd)]) hx hb dX4_back_108 rfl hl (by decide) rfl (fun ls hl => ?_)
                have LP109 : ∀ (n9 : Nat) (i : Nat) (w2 : Nat → Nat) (hm : (210 - i) < n9) (hi : i ≤ 210) (hw2 : ∀ j, w2 j < 256) (hz2 : ∀ j, j < i → w2 j = 0) (H : Heap) (locs : List Loc) (ls : Array Slot) (hP : va_P (dC, dI) vwCl [(mx, .inr (4, [.int 0, .int (nI n), .int (nI dn), .int (nI bn), .int (nI wn), .ref m5, .ref m6, .ref m7, .ref m8, .ref m9, .ref m10, .ref m11])), (m5, .inl (cI, 40, .inl (fun j => nI (z j)))), (m6, .inl (cI, 210, .inl (fun j => nI (w2 j)))), (m8, .inl (cI, 500, .inl (fun j => nI (wr j)))), (m9, .inl (cB, 8000, .inl (fun j => sb_b (g j))))] H) (hD : va_D A [(mx, .inr (4, [.int 0, .int (nI n), .int (nI dn), .int (nI bn), .int (nI wn), .ref m5, .ref m6, .ref m7, .ref m8, .ref m9, .ref m10, .ref m11])), (m5, .inl (cI, 40, .inl (fun j => nI (z j)))), (m6, .inl (cI, 210, .inl (fun j => nI (w2 j)))), (m8, .inl (cI, 500, .inl (fun j => nI (wr j)))), (m9, .inl (cB, 8000, .inl (fun j => sb_b (g j))))]) (hS : va_S A s.heap H locs) (hl : lv_has ls 3 [(0, .ref mx), (2, .int (nI i))]), W p l e (headSpec wsX4_back ({ frames := 3, cells := 0, slots := 0, locals := 66 } : Room)).room s m ([.ref mx]).toArray below meth c H locs 0 0 (MQ below (va_Qi (fun (r : Int32) (uS : Int32 × Nat × (Nat → Nat) × (Nat → Nat) × (Nat → Nat)) => match uS with | (th3, n3, g3, z3, rw3) => (∀ j, rw3 j < 256) ∧ ((th3 = 1 ∧ n3 = n ∧ g3 = g ∧ z3 = z ∧ ¬ (wn ≤ 229 ∧ GR wn wr)) ∨ (th3 = 0 ∧ n3 = n + 1 ∧ (wn ≤ 229 ∧ GR wn wr) ∧ KEPTM n g z g3 z3 (hn7 wr wn) r) ∨ (th3 = 2 ∧ n3 = n ∧ g3 = g ∧ z3 = z ∧ (wn ≤ 229 ∧ GR wn wr) ∧ NOKEEP n (hn7 wr wn)))) (fun (uS : Int32 × Nat × (Nat → Nat) × (Nat → Nat) × (Nat → Nat)) (tS : State) => match uS with | (th3, n3, g3, z3, rw3) => va_P (dC, dI) vwCl [(mx, .inr (4, [.int th3, .int (nI n3), .int (nI dn), .int (nI bn), .int (nI wn), .ref m5, .ref m6, .ref m7, .ref m8, .ref m9, .ref m10, .ref m11])), (m5, .inl (cI, 40, .inl (fun j => nI (z3 j)))), (m6, .inl (cI, 210, .inl (fun j => nI (rw3 j)))), (m8, .inl (cI, 500, .inl (fun j => nI (wr j)))), (m9, .inl (cB, 8000, .inl (fun j => sb_b (g3 j))))] tS.heap ∧ va_K (dC, dI) vwCl [(cI, .int), (cB, .byte)] tS ∧ va_D A [(mx, .inr (4, [.int th3, .int (nI n3), .int (nI dn), .int (nI bn), .int (nI wn), .ref m5, .ref m6, .ref m7, .ref m8, .ref m9, .ref m10, .ref m11])), (m5, .inl (cI, 40, .inl (fun j => nI (z3 j)))), (m6, .inl (cI, 210, .inl (fun j => nI (rw3 j)))), (m8, .inl (cI, 500, .inl (fun j => nI (wr j)))), (m9, .inl (cB, 8000, .inl (fun j => sb_b (g3 j))))]) A) ([.ref mx]).toArray s 0 0 A) (F0 m 109 ls []) := by
                  intro n9
                  induction n9 with
                  | zero => intro i w2 hm; exact absurd hm (Nat.not_lt_zero _)
                  | succ n9 ih =>
                    intro i w2 hm hi hw2 hz2 H locs ls hP hD hS hl
                    have ih109 := ih
                    refine lv_iload_n hx hb dX4_back_109 rfl (lv_at hl 1 rfl) ?_
                    refine lv_sipush (v := (nI 210)) hx hb dX4_back_110 (by decide) ?_
                    refine lv_icmp_ge (tgt := 129) hx hb dX4_back_113 (by decide) (fun c113 => ?_) (fun c113 => ?_)
                    · obtain rfl : i = 210 := Nat.le_antisymm hi ((nI_leI (by omega) (by omega)).mp c113)
                      refine lv_iconst (v := (nI 0)) hx hb dX4_back_129 (by decide) ?_
                      refine lv_istore_n (lv' := [(2, .int (nI 0)), (0, .ref mx)]) hx hb dX4_back_130 rfl hl (by decide) rfl (fun ls hl => ?_)
                      have LP131 : ∀ (n9 : Nat) (i2 : Nat) (w4 : Nat → Nat) (hm : (wn - i2) < n9) (hi2 : i2 ≤ wn) (hw4 : ∀ j, w4 j < 256) (hv4 : sv w4 210 = (hn7 wr i2 : Int)) (H : Heap) (locs : List Loc) (ls : Array Slot) (hP : va_P (dC, dI) vwCl [(mx, .inr (4, [.int 0, .int (nI n), .int (nI dn), .int (nI bn), .int (nI wn), .ref m5, .ref m6, .ref m7, .ref m8, .ref m9, .ref m10, .ref m11])), (m5, .inl (cI, 40, .inl (fun j => nI (z j)))), (m6, .inl (cI, 210, .inl (fun j => nI (w4 j)))), (m8, .inl (cI, 500, .inl (fun j => nI (wr j)))), (m9, .inl (cB, 8000, .inl (fun j => sb_b (g j))))] H) (hD : va_D A [(mx, .inr (4, [.int 0, .int (nI n), .int (nI dn), .int (nI bn), .int (nI wn), .ref m5, .ref m6, .ref m7, .ref m8, .ref m9, .ref m10, .ref m11])), (m5, .inl (cI, 40, .inl (fun j => nI (z j)))), (m6, .inl (cI, 210, .inl (fun j => nI (w4 j)))), (m8, .inl (cI, 500, .inl (fun j => nI (wr j)))), (m9, .inl (cB, 8000, .inl (fun j => sb_b (g j))))]) (hS : va_S A s.heap H locs) (hl : lv_has ls 3 [(0, .ref mx), (2, .int (nI i2))]), W p l e (headSpec wsX4_back ({ frames := 3, cells := 0, slots := 0, locals := 66 } : Room)).room s m ([.ref mx]).toArray below meth c H locs 0 0 (MQ below (va_Qi (fun (r : Int32) (uS : Int32 × Nat × (Nat → Nat) × (Nat → Nat) × (Nat → Nat)) => match uS with | (th3, n3, g3, z3, rw3) => (∀ j, rw3 j < 256) ∧ ((th3 = 1 ∧ n3 = n ∧ g3 = g ∧ z3 = z ∧ ¬ (wn ≤ 229 ∧ GR wn wr)) ∨ (th3 = 0 ∧ n3 = n + 1 ∧ (wn ≤ 229 ∧ GR wn wr) ∧ KEPTM n g z g3 z3 (hn7 wr wn) r) ∨ (th3 = 2 ∧ n3 = n ∧ g3 = g ∧ z3 = z ∧ (wn ≤ 229 ∧ GR wn wr) ∧ NOKEEP n (hn7 wr wn)))) (fun (uS : Int32 × Nat × (Nat → Nat) × (Nat → Nat) × (Nat → Nat)) (tS : State) => match uS with | (th3, n3, g3, z3, rw3) => va_P (dC, dI) vwCl [(mx, .inr (4, [.int th3, .int (nI n3), .int (nI dn), .int (nI bn), .int (nI wn), .ref m5, .ref m6, .ref m7, .ref m8, .ref m9, .ref m10, .ref m11])), (m5, .inl (cI, 40, .inl (fun j => nI (z3 j)))), (m6, .inl (cI, 210, .inl (fun j => nI (rw3 j)))), (m8, .inl (cI, 500, .inl (fun j => nI (wr j)))), (m9, .inl (cB, 8000, .inl (fun j => sb_b (g3 j))))] tS.heap ∧ va_K (dC, dI) vwCl [(cI, .int), (cB, .byte)] tS ∧ va_D A [(mx, .inr (4, [.int th3, .int (nI n3), .int (nI dn), .int (nI bn), .int (nI wn), .ref m5, .ref m6, .ref m7, .ref m8, .ref m9, .ref m10, .ref m11])), (m5, .inl (cI, 40, .inl (fun j => nI (z3 j)))), (m6, .inl (cI, 210, .inl (fun j => nI (rw3 j)))), (m8, .inl (cI, 500, .inl (fun j => nI (wr j)))), (m9, .inl (cB, 8000, .inl (fun j => sb_b (g3 j))))]) A) ([.ref mx]).toArray s 0 0 A) (F0 m 131 ls []) := by
                        intro n9
                        induction n9 with
                        | zero => intro i2 w4 hm; exact absurd hm (Nat.not_lt_zero _)
                        | succ n9 ih =>
                          intro i2 w4 hm hi2 hw4 hv4 H locs ls hP hD hS hl
                          have ih131 := ih
                          refine lv_iload_n hx hb dX4_back_131 rfl (lv_at hl 1 rfl) ?_
                          refine lv_aload_n hx hb dX4_back_132 rfl (lv_at hl 0 rfl) ?_
                          refine va_get (D := (dC, dI)) (ci := 4) (v := .int (nI wn)) (C := RX4) (T := TX4) (N := 12) hx hb hts hinX4 hown hK hP 0 rfl rfl 4 (by decide) (hts (.fieldLink RX4 75 "NumberContentsModel" "outMany" "I") (by decide +kernel)) (fun _ h9 => h9) rfl dX4_back_133 ?_
                          refine lv_icmp_ge (tgt := 161) hx hb dX4_back_136 (by decide) (fun c136 => ?_) (fun c136 => ?_)
                          · obtain rfl : wn = i2 := Nat.le_antisymm ((nI_leI (by omega) (by omega)).mp c136) hi2
                            refine lv_aload_n hx hb dX4_back_161 rfl (lv_at hl 0 rfl) ?_
                            refine lv_iconst (v := 2) hx hb dX4_back_162 (by decide) ?_
                            have hPc := hP.sub (ws' := [(mx, .inr (4, [.int 0, .int (nI n), .int (nI dn), .int (nI bn), .int (nI wn), .ref m5, .ref m6, .ref m7, .ref m8, .ref m9, .ref m10, .ref m11])), (m5, .inl (cI, 40, .inl (fun j => nI (z j)))), (m6, .inl (cI, 210, .inl (fun j => nI (w4 j)))), (m9, .inl (cB, 8000, .inl (fun j => sb_b (g j))))]) [0, 1, 2, 4] rfl
                            have hKc := hK.sub (tys' := [(cI, .int), (cB, .byte)]) [0, 1] rfl
                            have hDc := hD.sub (ws' := [(mx, .inr (4, [.int 0, .int (nI n), .int (nI dn), .int (nI bn), .int (nI wn), .ref m5, .ref m6, .ref m7, .ref m8, .ref m9, .ref m10, .ref m11])), (m5, .inl (cI, 40, .inl (fun j => nI (z j)))), (m6, .inl (cI, 210, .inl (fun j => nI (w4 j)))), (m9, .inl (cB, 8000, .inl (fun j => sb_b (g j))))]) [0, 1, 2, 4] (by decide) rfl
                            have hFc := va_free (wc := [(mx, .inr (4, [.int 0, .int (nI n), .int (nI dn), .int (nI bn), .int (nI wn), .ref m5, .ref m6, .ref m7, .ref m8, .ref m9, .ref m10, .ref m11])), (m5, .inl (cI, 40, .inl (fun j => nI (z j)))), (m6, .inl (cI, 210, .inl (fun j => nI (w4 j)))), (m9, .inl (cB, 8000, .inl (fun j => sb_b (g j))))]) hD hS hA [0, 1, 2, 4] rfl
                            refine va_calli (va_runV (As := [.int 2]) (rest := []) ⟨hx, hb, hml, hown, hts⟩ (c_X4_keep l dC dI cI cB mx m5 m6 m7 m8 m9 m10 m11 n dn bn wn 0 g z w4 2 H.size hI hw4 (Or.inl rfl)) (cwV 1 hts gX4_back_X4_keep rfl rfl rfl (by decide +kernel) ⟨Nat.le_of_ble_eq_true rfl, Nat.le_of_ble_eq_true rfl⟩) ⟨fun a U g mk q => by obtain ⟨q0, q1, qP, qK, qD⟩ := q; exact ⟨q0, q1, qP, va_K.moved (u := U) (U := U.calling g mk a) (Vm.Alike.refl U.vm) qK, qD⟩, va_recv hKc hPc (ci := 4) (q0 := 0) rfl rfl, fun U hU hW => ⟨rfl, by rw [hU], by rw [hU]; exact hPc, va_K.moved hW.alike hKc, hDc.weaken (fun _ _ _ _ => trivial)⟩⟩ rfl rfl hl.1 rfl (lv_room (Nat.le_of_ble_eq_true rfl)) dX4_back_163 ⟨Nat.le_of_ble_eq_true rfl, Nat.le_of_ble_eq_true rfl⟩) hS (fun q _ h => hFc q h) hFc (fun r163 uS tS H1 locs htS hvm h163 hB hzS hkS hS => ?_)
                            obtain ⟨th3_163, n3_163, g3_163, z3_163⟩ := uS
                            obtain ⟨hP1, hK1, hD1⟩ := hB
                            rw [htS] at hP1
                            have hK1 := va_K.moved hvm.symm hK1
                            try dsimp only at h163
                            obtain ⟨hP, hD⟩ := va_join (wr := [(m8, .inl (cI, 500, .inl (fun j => nI (wr j))))]) (w1 := [(mx, .inr (4, [.int th3_163, .int (nI n3_163), .int (nI dn), .int (nI bn), .int (nI wn), .ref m5, .ref m6, .ref m7, .ref m8, .ref m9, .ref m10, .ref m11])), (m5, .inl (cI, 40, .inl (fun j => nI (z3_163 j)))), (m6, .inl (cI, 210, .inl (fun j => nI (w4 j)))), (m9, .inl (cB, 8000, .inl (fun j => sb_b (g3_163 j))))]) hP hD [0, 1, 2, 4] [3] rfl rfl (by decide) (by decide) hkS hFc hP1 hD1
                            generalize H1 = H at hP hS ⊢
                            have hP : va_P (dC, dI) vwCl [(m8, .inl (cI, 500, .inl (fun j => nI (wr j)))), (mx, .inr (4, [.int th3_163, .int (nI n3_163), .int (nI dn), .int (nI bn), .int (nI wn), .ref m5, .ref m6, .ref m7, .ref m8, .ref m9, .ref m10, .ref m11])), (m5, .inl (cI, 40, .inl (fun j => nI (z3_163 j)))), (m6, .inl (cI, 210, .inl (fun j => nI (w4 j)))), (m9, .inl (cB, 8000, .inl (fun j => sb_b (g3_163 j))))] H := hP
                            have hD : va_D A [(m8, .inl (cI, 500, .inl (fun j => nI (wr j)))), (mx, .inr (4, [.int th3_163, .int (nI n3_163), .int (nI dn), .int (nI bn), .int (nI wn), .ref m5, .ref m6, .ref m7, .ref m8, .ref m9, .ref m10, .ref m11])), (m5, .inl (cI, 40, .inl (fun j => nI (z3_163 j)))), (m6, .inl (cI, 210, .inl (fun j => nI (w4 j)))), (m9, .inl (cB, 8000, .inl (fun j => sb_b (g3_163 j))))] := hD
                            rw [hv4] at h163
                            have hP9 := hP.sub (ws' := [(mx, .inr (4, [.int th3_163, .int (nI n3_163), .int (nI dn), .int (nI bn), .int (nI wn), .ref m5, .ref m6, .ref m7, .ref m8, .ref m9, .ref m10, .ref m11])), (m5, .inl (cI, 40, .inl (fun j => nI (z3_163 j)))), (m6, .inl (cI, 210, .inl (fun j => nI (w4 j)))), (m8, .inl (cI, 500, .inl (fun j => nI (wr j)))), (m9, .inl (cB, 8000, .inl (fun j => sb_b (g3_163 j))))]) [1, 2, 3, 0, 4] rfl
                            have hD9 := hD.sub (ws' := [(mx, .inr (4, [.int th3_163, .int (nI n3_163), .int (nI dn), .int (nI bn), .int (nI wn), .ref m5, .ref m6, .ref m7, .ref m8, .ref m9, .ref m10, .ref m11])), (m5, .inl (cI, 40, .inl (fun j => nI (z3_163 j)))), (m6, .inl (cI, 210, .inl (fun j => nI (w4 j)))), (m8, .inl (cI, 500, .inl (fun j => nI (wr j)))), (m9, .inl (cB, 8000, .inl (fun j => sb_b (g3_163 j))))]) [1, 2, 3, 0, 4] (by decide) rfl
                            have hK9 := hK.sub (tys' := [(cI, .int), (cB, .byte)]) [0, 1] rfl
                            exact W.iret (v := r163) hx hb hr (fun tS htS hW => ⟨⟨r163, (th3_163, n3_163, g3_163, z3_163, w4), rfl, ⟨hw4, Or.inr (h163.elim (fun y => Or.inl ⟨y.1, y.2.1, ⟨hw229, hgr⟩, y.2.2⟩) (fun y => Or.inr ⟨y.1, y.2.1, y.2.2.1, y.2.2.2.1, ⟨hw229, hgr⟩, y.2.2.2.2⟩))⟩, by rw [htS]; exact hP9, va_K.moved hW.alike hK9, hD9⟩, hS.F htS⟩) hS.2.2 dX4_back_166
                          · have hlt : i2 < wn := Nat.lt_of_not_le (fun h => c136 (nI_le h (by omega)))
                            refine lv_aload_n hx hb dX4_back_139 rfl (lv_at hl 0 rfl) ?_
                            refine lv_sipush (v := (nI 128)) hx hb dX4_back_140 (by decide) ?_
                            refine lv_aload_n hx hb dX4_back_143 rfl (lv_at hl 0 rfl) ?_
                            refine va_get (D := (dC, dI)) (ci := 4) (v := .ref m8) (C := RX4) (T := TX4) (N := 12) hx hb hts hinX4 hown hK hP 0 rfl rfl 8 (by decide) (hts (.fieldLink RX4 19 "NumberContentsModel" "out" "[I") (by decide +kernel)) (fun _ h9 => h9) rfl dX4_back_144 ?_
                            refine lv_iload_n hx hb dX4_back_147 rfl (lv_at hl 1 rfl) ?_
                            refine va_iald hx hb hK hP 3 0 rfl rfl (vp_in_nI (by omega) (by omega)) dX4_back_148 ?_
                            refine lv_topi (fun x148 e148 => ?_)
                            obtain rfl : x148 = nI (wr i2) := e148.trans (atg (by omega))
                            refine lv_bipush (v := (nI 127)) hx hb dX4_back_149 (by decide) ?_
                            refine lv_iand hx hb dX4_back_151 ?_
                            refine lv_topi (fun x151 e151 => ?_)
                            obtain rfl : x151 = nI (wr i2 % 2 ^ 7) := e151.trans (pk_andN (by have := hwr i2; omega) 7 (by decide))
                            have hPc := hP.sub (ws' := [(mx, .inr (4, [.int 0, .int (nI n), .int (nI dn), .int (nI bn), .int (nI wn), .ref m5, .ref m6, .ref m7, .ref m8, .ref m9, .ref m10, .ref m11])), (m6, .inl (cI, 210, .inl (fun j => nI (w4 j))))]) [0, 2] rfl
                            have hKc := hK.sub (tys' := [(cI, .int)]) [0] rfl
                            have hDc := hD.sub (ws' := [(mx, .inr (4, [.int 0, .int (nI n), .int (nI dn), .int (nI bn), .int (nI wn), .ref m5, .ref m6, .ref m7, .ref m8, .ref m9, .ref m10, .ref m11])), (m6, .inl (cI, 210, .inl (fun j => nI (w4 j))))]) [0, 2] (by decide) rfl
                            have hFc := va_free (wc := [(mx, .inr (4, [.int 0, .int (nI n), .int (nI dn), .int (nI bn), .int (nI wn), .ref m5, .ref m6, .ref m7, .ref m8, .ref m9, .ref m10, .ref m11])), (m6, .inl (cI, 210, .inl (fun j => nI (w4 j))))]) hD hS hA [0, 2] rfl
                            refine va_callv (va_runV (As := [.int (nI 128), .int (nI (wr i2 % 2 ^ 7))]) (rest := []) ⟨hx, hb, hml, hown, hts⟩ (c_X4_times l dC dI cI mx m5 m6 m7 m8 m9 m10 m11 n dn bn wn 0 w4 (nI 128) (nI (wr i2 % 2 ^ 7)) H.size hw4) (cwV 2 hts gX4_back_X4_times rfl rfl rfl (by decide +kernel) ⟨Nat.le_of_ble_eq_true rfl, Nat.le_of_ble_eq_true rfl⟩) ⟨fun a U g mk q => by obtain ⟨q0, q1, qP, qK, qD⟩ := q; exact ⟨q0, q1, qP, va_K.moved (u := U) (U := U.calling g mk a) (Vm.Alike.refl U.vm) qK, qD⟩, va_recv hKc hPc (ci := 4) (q0 := 0) rfl rfl, fun U hU hW => ⟨rfl, by rw [hU], by rw [hU]; exact hPc, va_K.moved hW.alike hKc, hDc.weaken (fun _ _ _ _ => trivial)⟩⟩ rfl rfl hl.1 rfl (lv_room (Nat.le_of_ble_eq_true rfl)) dX4_back_152 ⟨Nat.le_of_ble_eq_true rfl, Nat.le_of_ble_eq_true rfl⟩) hS (fun q _ h => hFc q h) hFc (fun uS tS H1 locs htS hvm h152 hB hzS hkS hS => ?_)
                            obtain ⟨g3_152, rfl⟩ : ∃ z, z = uS := ⟨_, rfl⟩
                            obtain ⟨hP1, hK1, hD1⟩ := hB
                            rw [htS] at hP1
                            have hK1 := va_K.moved hvm.symm hK1
                            try dsimp only at h152
                            obtain ⟨hP, hD⟩ := va_join (wr := [(m5, .inl (cI, 40, .inl (fun j => nI (z j)))), (m8, .inl (cI, 500, .inl (fun j => nI (wr j)))), (m9, .inl (cB, 8000, .inl (fun j => sb_b (g j))))]) (w1 := [(mx, .inr (4, [.int 0, .int (nI n), .int (nI dn), .int (nI bn), .int (nI wn), .ref m5, .ref m6, .ref m7, .ref m8, .ref m9, .ref m10, .ref m11])), (m6, .inl (cI, 210, .inl (fun j => nI (g3_152 j))))]) hP hD [0, 2] [1, 3, 4] rfl rfl (by decide) (by decide) hkS hFc hP1 hD1
                            generalize H1 = H at hP hS ⊢
                            have hP : va_P (dC, dI) vwCl [(m5, .inl (cI, 40, .inl (fun j => nI (z j)))), (m8, .inl (cI, 500, .inl (fun j => nI (wr j)))), (m9, .inl (cB, 8000, .inl (fun j => sb_b (g j)))), (mx, .inr (4, [.int 0, .int (nI n), .int (nI dn), .int (nI bn), .int (nI wn), .ref m5, .ref m6, .ref m7, .ref m8, .ref m9, .ref m10, .ref m11])), (m6, .inl (cI, 210, .inl (fun j => nI (g3_152 j))))] H := hP
                            have hD : va_D A [(m5, .inl (cI, 40, .inl (fun j => nI (z j)))), (m8, .inl (cI, 500, .inl (fun j => nI (wr j)))), (m9, .inl (cB, 8000, .inl (fun j => sb_b (g j)))), (mx, .inr (4, [.int 0, .int (nI n), .int (nI dn), .int (nI bn), .int (nI wn), .ref m5, .ref m6, .ref m7, .ref m8, .ref m9, .ref m10, .ref m11])), (m6, .inl (cI, 210, .inl (fun j => nI (g3_152 j))))] := hD
                            obtain ⟨x155, e155⟩ : ∃ zz9 : Int32, zz9 = (nI i2) + 1 := ⟨_, rfl⟩
                            refine lv_iinc (v := x155) (lv' := [(2, .int x155), (0, .ref mx)]) hx hb dX4_back_155 hl (k := 1) rfl (by rw [e155]; rfl) (by decide) rfl (fun ls hl => ?_)
                            obtain rfl : x155 = nI (i2 + 1) := e155.trans (nI_1 i2)
                            refine lv_goto (tgt := 131) hx hb dX4_back_158 (by decide) ?_
                            exact ih131 (i2 + 1) g3_152 (by omega) (by omega) h152.1 (hnm_ex (by omega) hv4 h152) _ _ _ (hP.sub [3, 0, 4, 1, 2] rfl) (hD.sub [3, 0, 4, 1, 2] (by decide) rfl) hS (lv_sub hl [1, 0] rfl)
                      exact LP131 _ 0 w2 (Nat.lt_succ_self _) (by omega) hw2 (sv_zero (by decide) (fun j hj => hz2 j (by omega))) _ _ _ (hP.sub [0, 1, 2, 3, 4] rfl) (hD.sub [0, 1, 2, 3, 4] (by decide) rfl) hS (lv_sub hl [1, 0] rfl)
                    · have hlt : i < 210 := Nat.lt_of_not_le (fun h => c113 (nI_le h (by omega)))
                      refine lv_aload_n hx hb dX4_back_116 rfl (lv_at hl 0 rfl) ?_
                      refine va_get (D := (dC, dI)) (ci := 4) (v := .ref m6) (C := RX4) (T := TX4) (N := 12) hx hb hts hinX4 hown hK hP 0 rfl rfl 6 (by decide) (hts (.fieldLink RX4 13 "NumberContentsModel" "row" "[I") (by decide +kernel)) (fun _ h9 => h9) rfl dX4_back_117 ?_
                      refine lv_iload_n hx hb dX4_back_120 rfl (lv_at hl 1 rfl) ?_
                      refine lv_iconst (v := (nI 0)) hx hb dX4_back_121 (by decide) ?_
                      refine va_iast hx hb hK hP hD hS 2 0 rfl rfl (vp_in_nI (by omega) (by omega)) dX4_back_122 (fun H locs hP hD hS => ?_)
                      have hP : va_P (dC, dI) vwCl [(mx, .inr (4, [.int 0, .int (nI n), .int (nI dn), .int (nI bn), .int (nI wn), .ref m5, .ref m6, .ref m7, .ref m8, .ref m9, .ref m10, .ref m11])), (m5, .inl (cI, 40, .inl (fun j => nI (z j)))), (m6, .inl (cI, 210, .inl (upd (fun j => nI (w2 j)) (nI i).toNatClampNeg (nI 0)))), (m8, .inl (cI, 500, .inl (fun j => nI (wr j)))), (m9, .inl (cB, 8000, .inl (fun j => sb_b (g j))))] H := hP
                      have hD : va_D A [(mx, .inr (4, [.int 0, .int (nI n), .int (nI dn), .int (nI bn), .int (nI wn), .ref m5, .ref m6, .ref m7, .ref m8, .ref m9, .ref m10, .ref m11])), (m5, .inl (cI, 40, .inl (fun j => nI (z j)))), (m6, .inl (cI, 210, .inl (upd (fun j => nI (w2 j)) (nI i).toNatClampNeg (nI 0)))), (m8, .inl (cI, 500, .inl (fun j => nI (wr j)))), (m9, .inl (cB, 8000, .inl (fun j => sb_b (g j))))] := hD
                      obtain ⟨f122, e122⟩ : ∃ zz9 : Nat → Int32, zz9 = upd (fun j => nI (w2 j)) (nI i).toNatClampNeg (nI 0) := ⟨_, rfl⟩
                      rw [← e122] at hP hD
                      obtain rfl : f122 = fun j => nI (va_up w2 i 0 j) := e122.trans (upg (by omega))
                      obtain ⟨x123, e123⟩ : ∃ zz9 : Int32, zz9 = (nI i) + 1 := ⟨_, rfl⟩
                      refine lv_iinc (v := x123) (lv' := [(2, .int x123), (0, .ref mx)]) hx hb dX4_back_123 hl (k := 1) rfl (by rw [e123]; rfl) (by decide) rfl (fun ls hl => ?_)
                      obtain rfl : x123 = nI (i + 1) := e123.trans (nI_1 i)
                      refine lv_goto (tgt := 109) hx hb dX4_back_126 (by decide) ?_
                      exact ih109 (i + 1) (va_up w2 i 0) (by omega) (by omega) (up_lt hw2 (by decide)) (fun j h => by by_cases e : j = i; rw [e, va_up_self]; rw [va_up_ne _ _ e]; exact hz2 j (by omega)) _ _ _ (hP.sub [0, 1, 2, 3, 4] rfl) (hD.sub [0, 1, 2, 3, 4] (by decide) rfl) hS (lv_sub hl [1, 0] rfl)
                exact LP109 _ 0 rw (Nat.lt_succ_self _) (by omega) hrw (fun j h => absurd h (by omega)) _ _ _ (hP.sub [0, 1, 2, 3, 4] rfl) (hD.sub [0, 1, 2, 3, 4] (by decide) rfl) hS (lv_sub hl [1, 0] rfl)
              · first | exact absurd c102 (by decide) | exact (c102 (by decide)).elim
            · refine lv_iconst (v := 1) hx hb dX4_back_90 (by decide) ?_
              refine lv_goto (tgt := 95) hx hb dX4_back_91 (by decide) ?_
              refine va_put (D := (dC, dI)) (ci := 4) (v := .int 1) (ty := .int) (C := RX4) (T := TX4) (N := 12) hx hb hts hinX4 tyX4 tyX4_ok nmX4 hown hK hP hD hS 0 rfl rfl 0 (by decide) (hts (.fieldLink RX4 32 "NumberContentsModel" "thrown" "I") (by decide +kernel)) (fun _ h9 => h9) rfl (by decide +kernel) rfl rfl (Nat.le_of_ble_eq_true rfl) dX4_back_95 (fun H locs hP hD hS => ?_)
              have hP : va_P (dC, dI) vwCl [(mx, .inr (4, [.int 1, .int (nI n), .int (nI dn), .int (nI bn), .int (nI wn), .ref m5, .ref m6, .ref m7, .ref m8, .ref m9, .ref m10, .ref m11])), (m5, .inl (cI, 40, .inl (fun j => nI (z j)))), (m6, .inl (cI, 210, .inl (fun j => nI (rw j)))), (m8, .inl (cI, 500, .inl (fun j => nI (wr j)))), (m9, .inl (cB, 8000, .inl (fun j => sb_b (g j))))] H := hP
              have hD : va_D A [(mx, .inr (4, [.int 1, .int (nI n), .int (nI dn), .int (nI bn), .int (nI wn), .ref m5, .ref m6, .ref m7, .ref m8, .ref m9, .ref m10, .ref m11])), (m5, .inl (cI, 40, .inl (fun j => nI (z j)))), (m6, .inl (cI, 210, .inl (fun j => nI (rw j)))), (m8, .inl (cI, 500, .inl (fun j => nI (wr j)))), (m9, .inl (cB, 8000, .inl (fun j => sb_b (g j))))] := hD
              refine lv_aload_n hx hb dX4_back_98 rfl (lv_at hl 0 rfl) ?_
              refine va_get (D := (dC, dI)) (ci := 4) (v := .int 1) (C := RX4) (T := TX4) (N := 12) hx hb hts hinX4 hown hK hP 0 rfl rfl 0 (by decide) (hts (.fieldLink RX4 32 "NumberContentsModel" "thrown" "I") (by decide +kernel)) (fun _ h9 => h9) rfl dX4_back_99 ?_
              refine lv_if_le (tgt := 107) hx hb dX4_back_102 (by decide) (fun c102 => ?_) (fun c102 => ?_)
              · first | exact absurd c102 (by decide) | exact (c102 (by decide)).elim
              · refine lv_iconst (v := 0) hx hb dX4_back_105 (by decide) ?_
                have hP9 := hP.sub (ws' := [(mx, .inr (4, [.int 1, .int (nI n), .int (nI dn), .int (nI bn), .int (nI wn), .ref m5, .ref m6, .ref m7, .ref m8, .ref m9, .ref m10, .ref m11])), (m5, .inl (cI, 40, .inl (fun j => nI (z j)))), (m6, .inl (cI, 210, .inl (fun j => nI (rw j)))), (m8, .inl (cI, 500, .inl (fun j => nI (wr j)))), (m9, .inl (cB, 8000, .inl (fun j => sb_b (g j))))]) [0, 1, 2, 3, 4] rfl
                have hD9 := hD.sub (ws' := [(mx, .inr (4, [.int 1, .int (nI n), .int (nI dn), .int (nI bn), .int (nI wn), .ref m5, .ref m6, .ref m7, .ref m8, .ref m9, .ref m10, .ref m11])), (m5, .inl (cI, 40, .inl (fun j => nI (z j)))), (m6, .inl (cI, 210, .inl (fun j => nI (rw j)))), (m8, .inl (cI, 500, .inl (fun j => nI (wr j)))), (m9, .inl (cB, 8000, .inl (fun j => sb_b (g j))))]) [0, 1, 2, 3, 4] (by decide) rfl
                have hK9 := hK.sub (tys' := [(cI, .int), (cB, .byte)]) [0, 1] rfl
                exact W.iret (v := 0) hx hb hr (fun tS htS hW => ⟨⟨0, (1, n, g, z, rw), rfl, ⟨hrw, Or.inl ⟨rfl, rfl, rfl, rfl, fun y => ite_r hge c87 y.2⟩⟩, by rw [htS]; exact hP9, va_K.moved hW.alike hK9, hD9⟩, hS.F htS⟩) hS.2.2 dX4_back_106
          · have hlt : k < wn := Nat.lt_of_not_le (fun h => c32 (nI_le h (by omega)))
            refine lv_iload_n hx hb dX4_back_35 rfl (lv_at hl 1 rfl) ?_
            refine lv_if_eq (tgt := 77) hx hb dX4_back_36 (by decide) (fun c36 => ?_) (fun c36 => ?_)
            · refine lv_iconst (v := 0) hx hb dX4_back_77 (by decide) ?_
              refine lv_istore_n (lv' := [(1, .int 0), (0, .ref mx), (2, .int (nI k))]) hx hb dX4_back_78 rfl hl (by decide) rfl (fun ls hl => ?_)
              obtain ⟨x79, e79⟩ : ∃ zz9 : Int32, zz9 = (nI k) + 1 := ⟨_, rfl⟩
              refine lv_iinc (v := x79) (lv' := [(2, .int x79), (1, .int 0), (0, .ref mx)]) hx hb dX4_back_79 hl (k := 2) rfl (by rw [e79]; rfl) (by decide) rfl (fun ls hl => ?_)
              obtain rfl : x79 = nI (k + 1) := e79.trans (nI_1 k)
              refine lv_goto (tgt := 27) hx hb dX4_back_82 (by decide) ?_
              exact ih27 (k + 1) 0 (by omega) (by omega) (by first | exact gd_n hgd c36 | exact Or.inr ⟨rfl, fun y => by have := y.2.2 k hlt; omega⟩) _ _ _ (hP.sub [0, 1, 2, 3, 4] rfl) (hD.sub [0, 1, 2, 3, 4] (by decide) rfl) hS (lv_sub hl [2, 1, 0] rfl)
            · refine lv_aload_n hx hb dX4_back_39 rfl (lv_at hl 0 rfl) ?_
              refine va_get (D := (dC, dI)) (ci := 4) (v := .ref m8) (C := RX4) (T := TX4) (N := 12) hx hb hts hinX4 hown hK hP 0 rfl rfl 8 (by decide) (hts (.fieldLink RX4 19 "NumberContentsModel" "out" "[I") (by decide +kernel)) (fun _ h9 => h9) rfl dX4_back_40 ?_
              refine lv_iload_n hx hb dX4_back_43 rfl (lv_at hl 2 rfl) ?_
              refine va_iald hx hb hK hP 3 0 rfl rfl (vp_in_nI (by omega) (by omega)) dX4_back_44 ?_
              refine lv_topi (fun x44 e44 => ?_)
              obtain rfl : x44 = nI (wr k) := e44.trans (atg (by omega))
              refine lv_bipush (v := (nI 127)) hx hb dX4_back_45 (by decide) ?_
              refine lv_icmp_le (tgt := 54) hx hb dX4_back_47 (by decide) (fun c47 => ?_) (fun c47 => ?_)
              · have hb47 : ¬ 128 ≤ wr k := (by have := (nI_leI (by have := hwr k; omega) (by omega)).mp c47; omega)
                refine lv_iconst (v := 0) hx hb dX4_back_54 (by decide) ?_
                refine lv_iload_n hx hb dX4_back_55 rfl (lv_at hl 2 rfl) ?_
                refine lv_aload_n hx hb dX4_back_56 rfl (lv_at hl 0 rfl) ?_
                refine va_get (D := (dC, dI)) (ci := 4) (v := .int (nI wn)) (C := RX4) (T := TX4) (N := 12) hx hb hts hinX4 hown hK hP 0 rfl rfl 4 (by decide) (hts (.fieldLink RX4 75 "NumberContentsModel" "outMany" "I") (by decide +kernel)) (fun _ h9 => h9) rfl dX4_back_57 ?_
                refine lv_iconst (v := 1) hx hb dX4_back_60 (by decide) ?_
                refine lv_isub hx hb dX4_back_61 ?_
                refine lv_topi (fun x61 e61 => ?_)
                obtain rfl : x61 = nI (wn - 1) := e61.trans (nI_m1 (by omega))
                refine lv_icmp_ge (tgt := 69) hx hb dX4_back_62 (by decide) (fun c62 => ?_) (fun c62 => ?_)
                · have hb62 : ¬ k < wn - 1 := (by have := (nI_leI (by omega) (by omega)).mp c62; omega)
                  refine lv_iconst (v := 0) hx hb dX4_back_69 (by decide) ?_
                  refine lv_icmp_ne (tgt := 77) hx hb dX4_back_70 (by decide) (fun c70 => ?_) (fun c70 => ?_)
                  · first | exact absurd c70 (by decide) | exact (c70 (by decide)).elim
                  · refine lv_iconst (v := 1) hx hb dX4_back_73 (by decide) ?_
                    refine lv_goto (tgt := 78) hx hb dX4_back_74 (by decide) ?_
                    refine lv_istore_n (lv' := [(1, .int 1), (0, .ref mx), (2, .int (nI k))]) hx hb dX4_back_78 rfl hl (by decide) rfl (fun ls hl => ?_)
                    obtain ⟨x79, e79⟩ : ∃ zz9 : Int32, zz9 = (nI k) + 1 := ⟨_, rfl⟩
                    refine lv_iinc (v := x79) (lv' := [(2, .int x79), (1, .int 1), (0, .ref mx)]) hx hb dX4_back_79 hl (k := 2) rfl (by rw [e79]; rfl) (by decide) rfl (fun ls hl => ?_)
                    obtain rfl : x79 = nI (k + 1) := e79.trans (nI_1 k)
                    refine lv_goto (tgt := 27) hx hb dX4_back_82 (by decide) ?_
                    exact ih27 (k + 1) 1 (by omega) (by omega) (gd_y hgd c36 (by omega)) _ _ _ (hP.sub [0, 1, 2, 3, 4] rfl) (hD.sub [0, 1, 2, 3, 4] (by decide) rfl) hS (lv_sub hl [2, 1, 0] rfl)
                · have hb62 : k < wn - 1 := Nat.lt_of_not_le (fun y => c62 (nI_le y (by omega)))
                  refine lv_iconst (v := 1) hx hb dX4_back_65 (by decide) ?_
                  refine lv_goto (tgt := 70) hx hb dX4_back_66 (by decide) ?_
                  refine lv_icmp_ne (tgt := 77) hx hb dX4_back_70 (by decide) (fun c70 => ?_) (fun c70 => ?_)
                  · refine lv_iconst (v := 0) hx hb dX4_back_77 (by decide) ?_
                    refine lv_istore_n (lv' := [(1, .int 0), (0, .ref mx), (2, .int (nI k))]) hx hb dX4_back_78 rfl hl (by decide) rfl (fun ls hl => ?_)
                    obtain ⟨x79, e79⟩ : ∃ zz9 : Int32, zz9 = (nI k) + 1 := ⟨_, rfl⟩
                    refine lv_iinc (v := x79) (lv' := [(2, .int x79), (1, .int 0), (0, .ref mx)]) hx hb dX4_back_79 hl (k := 2) rfl (by rw [e79]; rfl) (by decide) rfl (fun ls hl => ?_)
                    obtain rfl : x79 = nI (k + 1) := e79.trans (nI_1 k)
                    refine lv_goto (tgt := 27) hx hb dX4_back_82 (by decide) ?_
                    exact ih27 (k + 1) 0 (by omega) (by omega) (by first | exact gd_n hgd c36 | exact Or.inr ⟨rfl, fun y => by have := y.2.2 k hlt; omega⟩) _ _ _ (hP.sub [0, 1, 2, 3, 4] rfl) (hD.sub [0, 1, 2, 3, 4] (by decide) rfl) hS (lv_sub hl [2, 1, 0] rfl)
                  · first | exact absurd c70 (by decide) | exact (c70 (by decide)).elim
              · have hb47 : 128 ≤ wr k := Nat.lt_of_not_le (fun y => c47 (nI_le y (by omega)))
                refine lv_iconst (v := 1) hx hb dX4_back_50 (by decide) ?_
                refine lv_goto (tgt := 55) hx hb dX4_back_51 (by decide) ?_
                refine lv_iload_n hx hb dX4_back_55 rfl (lv_at hl 2 rfl) ?_
                refine lv_aload_n hx hb dX4_back_56 rfl (lv_at hl 0 rfl) ?_
                refine va_get (D := (dC, dI)) (ci := 4) (v := .int (nI wn)) (C := RX4) (T := TX4) (N := 12) hx hb hts hinX4 hown hK hP 0 rfl rfl 4 (by decide) (hts (.fieldLink RX4 75 "NumberContentsModel" "outMany" "I") (by decide +kernel)) (fun _ h9 => h9) rfl dX4_back_57 ?_
                refine lv_iconst (v := 1) hx hb dX4_back_60 (by decide) ?_
                refine lv_isub hx hb dX4_back_61 ?_
                refine lv_topi (fun x61 e61 => ?_)
                obtain rfl : x61 = nI (wn - 1) := e61.trans (nI_m1 (by omega))
                refine lv_icmp_ge (tgt := 69) hx hb dX4_back_62 (by decide) (fun c62 => ?_) (fun c62 => ?_)
                · have hb62 : ¬ k < wn - 1 := (by have := (nI_leI (by omega) (by omega)).mp c62; omega)
                  refine lv_iconst (v := 0) hx hb dX4_back_69 (by decide) ?_
                  refine lv_icmp_ne (tgt := 77) hx hb dX4_back_70 (by decide) (fun c70 => ?_) (fun c70 => ?_)
                  · refine lv_iconst (v := 0) hx hb dX4_back_77 (by decide) ?_
                    refine lv_istore_n (lv' := [(1, .int 0), (0, .ref mx), (2, .int (nI k))]) hx hb dX4_back_78 rfl hl (by decide) rfl (fun ls hl => ?_)
                    obtain ⟨x79, e79⟩ : ∃ zz9 : Int32, zz9 = (nI k) + 1 := ⟨_, rfl⟩
                    refine lv_iinc (v := x79) (lv' := [(2, .int x79), (1, .int 0), (0, .ref mx)]) hx hb dX4_back_79 hl (k := 2) rfl (by rw [e79]; rfl) (by decide) rfl (fun ls hl => ?_)
                    obtain rfl : x79 = nI (k + 1) := e79.trans (nI_1 k)
                    refine lv_goto (tgt := 27) hx hb dX4_back_82 (by decide) ?_
                    exact ih27 (k + 1) 0 (by omega) (by omega) (by first | exact gd_n hgd c36 | exact Or.inr ⟨rfl, fun y => by have := y.2.2 k hlt; omega⟩) _ _ _ (hP.sub [0, 1, 2, 3, 4] rfl) (hD.sub [0, 1, 2, 3, 4] (by decide) rfl) hS (lv_sub hl [2, 1, 0] rfl)
                  · first | exact absurd c70 (by decide) | exact (c70 (by decide)).elim
                · have hb62 : k < wn - 1 := Nat.lt_of_not_le (fun y => c62 (nI_le y (by omega)))
                  refine lv_iconst (v := 1) hx hb dX4_back_65 (by decide) ?_
                  refine lv_goto (tgt := 70) hx hb dX4_back_66 (by decide) ?_
                  refine lv_icmp_ne (tgt := 77) hx hb dX4_back_70 (by decide) (fun c70 => ?_) (fun c70 => ?_)
                  · first | exact absurd c70 (by decide) | exact (c70 (by decide)).elim
                  · refine lv_iconst (v := 1) hx hb dX4_back_73 (by decide) ?_
                    refine lv_goto (tgt := 78) hx hb dX4_back_74 (by decide) ?_
                    refine lv_istore_n (lv' := [(1, .int 1), (0, .ref mx), (2, .int (nI k))]) hx hb dX4_back_78 rfl hl (by decide) rfl (fun ls hl => ?_)
                    obtain ⟨x79, e79⟩ : ∃ zz9 : Int32, zz9 = (nI k) + 1 := ⟨_, rfl⟩
                    refine lv_iinc (v := x79) (lv' := [(2, .int x79), (1, .int 1), (0, .ref mx)]) hx hb dX4_back_79 hl (k := 2) rfl (by rw [e79]; rfl) (by decide) rfl (fun ls hl => ?_)
                    obtain rfl : x79 = nI (k + 1) := e79.trans (nI_1 k)
                    refine lv_goto (tgt := 27) hx hb dX4_back_82 (by decide) ?_
                    exact ih27 (k + 1) 1 (by omega) (by omega) (gd_y hgd c36 (by omega)) _ _ _ (hP.sub [0, 1, 2, 3, 4] rfl) (hD.sub [0, 1, 2, 3, 4] (by decide) rfl) hS (lv_sub hl [2, 1, 0] rfl)
      exact LP27 _ 0 1 (Nat.lt_succ_self _) (by omega) (Or.inl ⟨rfl, hwn1, fun y => c16 (by rw [y]), fun j h => absurd h (by omega)⟩) _ _ _ (hP.sub [0, 1, 2, 3, 4] rfl) (hD.sub [0, 1, 2, 3, 4] (by decide) rfl) hS (lv_sub hl [2, 1, 0] rfl)

