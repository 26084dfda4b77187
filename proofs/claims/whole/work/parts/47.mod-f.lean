theorem mv_ng {g z : Nat → Nat} {a : Nat} (hg : ∀ j, g j < 256) (h : 128 ≤ g (200 * a)) : mval g z a < 0 := by
  have h1 := bv_lt (fun j => hg (200 * a + (z a - 1 - j))) (z a)
  unfold mval sv
  simp only [Nat.sub_self, Nat.add_zero]
  rw [if_pos h]
  omega
theorem mv_nn {g z : Nat → Nat} {a : Nat} (h : ¬ 128 ≤ g (200 * a)) : 0 ≤ mval g z a := by
  unfold mval sv
  simp only [Nat.sub_self, Nat.add_zero]
  rw [if_neg h]
  omega
theorem pm_v {w : Nat → Nat} {x : Int} (hw : ∀ j, w j < 256) (e : sv w 210 = x) (h0 : 0 ≤ x) : bv w 210 = x.natAbs := by
  by_cases h : 128 ≤ w 209
  · have := sv_ng hw h; omega
  · rw [sv_nn h] at e; omega
theorem dq_step {N B k q rs b : Nat} (hB : 0 < B) (hv : b = N / B ^ k) (h : b = B * q + rs) (hr : rs < B) : rs = N / B ^ k % B ∧ q = N / B ^ (k + 1) := by
  rw [← hv, h, Nat.pow_succ, ← Nat.div_div_eq_div_mul, ← hv, h]
  refine ⟨?_, ?_⟩
  · rw [Nat.mul_add_mod, Nat.mod_eq_of_lt hr]
  · rw [Nat.mul_add_div hB, Nat.div_eq_of_lt hr, Nat.add_zero]
def MOR (B N k : Nat) (mo : Int32) : Prop := (mo = 1 ∧ (k = 0 ∨ B ^ k ≤ N)) ∨ (mo = 0 ∧ 1 ≤ k ∧ N < B ^ k ∧ (k = 1 ∨ B ^ (k - 1) ≤ N))
theorem mor_k {B N k m : Nat} {mo : Int32} (hB : 0 < B) (h : MOR B N k mo) (h0 : ¬ mo = 0) (hN : N < B ^ m) (hm : 0 < m) : k < m := by
  rcases h with ⟨_, h | h⟩ | ⟨h, _⟩
  · omega
  · rcases Nat.lt_or_ge k m with h1 | h1
    · exact h1
    · have := Nat.pow_le_pow_right hB h1; omega
  · exact absurd h h0
theorem mor_step {B N k : Nat} {mo r : Int32} {w : Nat → Nat} (hB : 0 < B) (h : MOR B N k mo) (h0 : ¬ mo = 0) (hq : bv w 210 = N / B ^ (k + 1)) (hr : (r = 1 ∧ ∀ j, j < 210 → w j = 0) ∨ (r = 0 ∧ ¬ ∀ j, j < 210 → w j = 0)) :
    (r = 0 → MOR B N (k + 1) 1) ∧ (¬ r = 0 → MOR B N (k + 1) 0) := by
  have hp : 0 < B ^ (k + 1) := Nat.pow_pos hB
  refine ⟨fun e => Or.inl ⟨rfl, Or.inr ?_⟩, fun e => Or.inr ⟨rfl, by omega, ?_, ?_⟩⟩
  · rcases Nat.lt_or_ge N (B ^ (k + 1)) with h1 | h1
    · rw [Nat.div_eq_of_lt h1] at hq
      exact absurd (bv_z 210 hq) (ite_r hr e)
    · exact h1
  · have h2 := bv_zero (ite_s hr e)
    rw [hq] at h2
    exact Nat.lt_of_div_eq_zero hp h2
  · rcases h with ⟨_, h | h⟩ | ⟨h, _⟩
    · exact Or.inl (by omega)
    · exact Or.inr h
    · exact absurd h h0
theorem pm_d {f0 k N rs : Nat} {wr2 : Nat → Nat} (hd : ∀ j, j < k → wr2 (f0 + j) = 48 + N / 10 ^ j % 10) (hr : rs = N / 10 ^ k % 10) : ∀ j, j < k + 1 → va_up wr2 (f0 + k) (48 + rs) (f0 + j) = 48 + N / 10 ^ j % 10 := by
  intro j hj
  by_cases e : j = k
  · rw [e, va_up_self, hr]
  · rw [va_up_ne _ _ (by omega)]; exact hd j (by omega)
theorem pm_0 {y : Int} {k : Nat} {wr g2 : Nat → Nat} (hy : 0 ≤ y) (hm : 1 ≤ k ∧ y.natAbs < 10 ^ k ∧ (k = 1 ∨ 10 ^ (k - 1) ≤ y.natAbs)) (hk : k ≤ 486) (hd : ∀ j, j < k → wr (0 + j) = 48 + y.natAbs / 10 ^ j % 10)
    (h2 : ∀ j, 0 ≤ j → j < 0 + k → g2 j = wr (0 + k - 1 - (j - 0))) : PR y (0 + k) g2 := by
  obtain ⟨a, c, d⟩ := hm
  refine ⟨k, a, hk, c, d, by rw [if_neg (by omega)]; omega, fun z => absurd z (by omega), fun j hj => ?_⟩
  have e := hd (k - 1 - j) (by omega)
  rw [if_neg (by omega), Nat.add_zero, h2 j (by omega) (by omega), show 0 + k - 1 - (j - 0) = 0 + (k - 1 - j) from by omega, e]
theorem pm_1 {y : Int} {k : Nat} {wr g2 : Nat → Nat} (hy : y < 0) (hm : 1 ≤ k ∧ y.natAbs < 10 ^ k ∧ (k = 1 ∨ 10 ^ (k - 1) ≤ y.natAbs)) (hk : k ≤ 486) (h0 : wr 0 = 45) (hd : ∀ j, j < k → wr (1 + j) = 48 + y.natAbs / 10 ^ j % 10)
    (h1 : ∀ j, j < 1 → g2 j = wr j) (h2 : ∀ j, 1 ≤ j → j < 1 + k → g2 j = wr (1 + k - 1 - (j - 1))) : PR y (1 + k) g2 := by
  obtain ⟨a, c, d⟩ := hm
  refine ⟨k, a, hk, c, d, by rw [if_pos hy]; omega, fun _ => (h1 0 (by omega)).trans h0, fun j hj => ?_⟩
  have e := hd (k - 1 - j) (by omega)
  rw [if_pos hy, h2 (j + 1) (by omega) (by omega), show 1 + k - 1 - (j + 1 - 1) = 1 + (k - 1 - j) from by omega, e]
theorem mor_end {B N k : Nat} {mo : Int32} (h : MOR B N k mo) (h0 : mo = 0) : 1 ≤ k ∧ N < B ^ k ∧ (k = 1 ∨ B ^ (k - 1) ≤ N) := by
  rcases h with ⟨h, _⟩ | ⟨_, h⟩
  · rw [h0] at h; exact absurd h (by decide)
  · exact h

set_option maxHeartbeats 4000000 in
set_option maxRecDepth 100000 in
theorem c_X4_print (l : Launch) (dC : Nat → ClassId) (dI : Nat → Nat → Nat) (cI cB : ClassId) (mx m5 m6 m7 m8 m9 m10 m11 n dn bn wn : Nat) (th : Int32) (g z rw wr : Nat → Nat) (a9 : Int32) (sz : Nat) (hI : XM n g z) (hrw : ∀ j, rw j < 256) (hwr : ∀ j, wr j < 256) : Met l yX4_print wsX4_print ({ frames := 3, cells := 0, slots := 0, locals := 66 } : Room) (va_Pc [.ref mx, .int a9] (fun U => U.heap.size = sz ∧ va_P (dC, dI) vwCl [(mx, .inr (4, [.int th, .int (nI n), .int (nI dn), .int (nI bn), .int (nI wn), .ref m5, .ref m6, .ref m7, .ref m8, .ref m9, .ref m10, .ref m11])), (m5, .inl (cI, 40, .inl (fun j => nI (z j)))), (m6, .inl (cI, 210, .inl (fun j => nI (rw j)))), (m8, .inl (cI, 500, .inl (fun j => nI (wr j)))), (m9, .inl (cB, 8000, .inl (fun j => sb_b (g j))))] U.heap ∧ va_K (dC, dI) vwCl [(cI, .int), (cB, .byte)] U ∧ va_D (fun _ => True) [(mx, .inr (4, [.int th, .int (nI n), .int (nI dn), .int (nI bn), .int (nI wn), .ref m5, .ref m6, .ref m7, .ref m8, .ref m9, .ref m10, .ref m11])), (m5, .inl (cI, 40, .inl (fun j => nI (z j)))), (m6, .inl (cI, 210, .inl (fun j => nI (rw j)))), (m8, .inl (cI, 500, .inl (fun j => nI (wr j)))), (m9, .inl (cB, 8000, .inl (fun j => sb_b (g j))))])) (va_Qi (fun (r : Int32) (uS : Int32 × Nat × (Nat → Nat) × (Nat → Nat)) => match uS with | (th3, wn3, wr3, rw3) => (∀ j, rw3 j < 256) ∧ (∀ j, wr3 j < 256) ∧ ((th3 = 1 ∧ wn3 = wn ∧ wr3 = wr ∧ ¬ vp_in a9 n) ∨ (th3 = 0 ∧ ∃ aA, a9 = nI aA ∧ aA < n ∧ r = nI wn3 ∧ PR (mval g z aA) wn3 wr3))) (fun (uS : Int32 × Nat × (Nat → Nat) × (Nat → Nat)) (tS : State) => match uS with | (th3, wn3, wr3, rw3) => va_P (dC, dI) vwCl [(mx, .inr (4, [.int th3, .int (nI n), .int (nI dn), .int (nI bn), .int (nI wn3), .ref m5, .ref m6, .ref m7, .ref m8, .ref m9, .ref m10, .ref m11])), (m5, .inl (cI, 40, .inl (fun j => nI (z j)))), (m6, .inl (cI, 210, .inl (fun j => nI (rw3 j)))), (m8, .inl (cI, 500, .inl (fun j => nI (wr3 j)))), (m9, .inl (cB, 8000, .inl (fun j => sb_b (g j))))] tS.heap ∧ va_K (dC, dI) vwCl [(cI, .int), (cB, .byte)] tS ∧ va_D (va_A [(mx, .inr (4, [.int th, .int (nI n), .int (nI dn), .int (nI bn), .int (nI wn), .ref m5, .ref m6, .ref m7, .ref m8, .ref m9, .ref m10, .ref m11])), (m5, .inl (cI, 40, .inl (fun j => nI (z j)))), (m6, .inl (cI, 210, .inl (fun j => nI (rw j)))), (m8, .inl (cI, 500, .inl (fun j => nI (wr j)))), (m9, .inl (cB, 8000, .inl (fun j => sb_b (g j))))] sz) [(mx, .inr (4, [.int th3, .int (nI n), .int (nI dn), .int (nI bn), .int (nI wn3), .ref m5, .ref m6, .ref m7, .ref m8, .ref m9, .ref m10, .ref m11])), (m5, .inl (cI, 40, .inl (fun j => nI (z j)))), (m6, .inl (cI, 210, .inl (fun j => nI (rw3 j)))), (m8, .inl (cI, 500, .inl (fun j => nI (wr3 j)))), (m9, .inl (cB, 8000, .inl (fun j => sb_b (g j))))]) (va_A [(mx, .inr (4, [.int th, .int (nI n), .int (nI dn), .int (nI bn), .int (nI wn), .ref m5, .ref m6, .ref m7, .ref m8, .ref m9, .ref m10, .ref m11])), (m5, .inl (cI, 40, .inl (fun j => nI (z j)))), (m6, .inl (cI, 210, .inl (fun j => nI (rw j)))), (m8, .inl (cI, 500, .inl (fun j => nI (wr j)))), (m9, .inl (cB, 8000, .inl (fun j => sb_b (g j))))] sz)) 0 0 (va_A [(mx, .inr (4, [.int th, .int (nI n), .int (nI dn), .int (nI bn), .int (nI wn), .ref m5, .ref m6, .ref m7, .ref m8, .ref m9, .ref m10, .ref m11])), (m5, .inl (cI, 40, .inl (fun j => nI (z j)))), (m6, .inl (cI, 210, .inl (fun j => nI (rw j)))), (m8, .inl (cI, 500, .inl (fun j => nI (wr j)))), (m9, .inl (cB, 8000, .inl (fun j => sb_b (g j))))] sz) := by
  refine Met.ofW (cc := cX4_print) (maxL := 4) (ret := (some .int)) (by decide) rfl ?_
  intro p e s m args below meth c s₁ B hml hv
  obtain ⟨rfl, hsz, hP, hK, hD0⟩ := hv
  have hx := B.exec
  have hb := B.bytes
  have hr := B.returns
  have hts := atoms_spec (ws := wsX4_print) B.pre
  have hown : s.vm.findClass RX4 = some m.cls := findClass_of_methodNamed B.named
  have hlocks := B.notSynchronized
  subst hsz
  have hD := hD0.self (sz := s.heap.size)
  generalize hAe : va_A [(mx, .inr (4, [.int th, .int (nI n), .int (nI dn), .int (nI bn), .int (nI wn), .ref m5, .ref m6, .ref m7, .ref m8, .ref m9, .ref m10, .ref m11])), (m5, .inl (cI, 40, .inl (fun j => nI (z j)))), (m6, .inl (cI, 210, .inl (fun j => nI (rw j)))), (m8, .inl (cI, 500, .inl (fun j => nI (wr j)))), (m9, .inl (cB, 8000, .inl (fun j => sb_b (g j))))] s.heap.size = A at hD ⊢
  have hA : ∀ q : Nat, s.heap.size ≤ q → A q := fun q h => by rw [← hAe]; exact Or.inr h
  have hS : va_S A s.heap s.heap [] := va_S.rf
  have hinX4 : ∀ w ∈ wsX40, w ∈ wsX4_print := by decide +kernel
  have hl := lv_entry ([.ref mx, .int a9]) (n := 4) (Nat.le_of_ble_eq_true rfl)
  rw [lg_entry_eq]
  generalize (lg_sl ([.ref mx, .int a9]) ++ List.replicate (4 - (lg_sl ([.ref mx, .int a9])).length) Slot.unset).toArray = ls at hl ⊢
  have hl : lv_has ls 4 [(0, .ref mx), (1, .int a9)] := hl
  obtain ⟨hg, hn, hz, hq⟩ := id hI
  refine lv_aload_n hx hb dX4_print_0 rfl (lv_at hl 0 rfl) ?_
  refine lv_aload_n hx hb dX4_print_1 rfl (lv_at hl 0 rfl) ?_
  refine lv_iload_n hx hb dX4_print_2 rfl (lv_at hl 1 rfl) ?_
  have hPc := hP.sub (ws' := [(mx, .inr (4, [.int th, .int (nI n), .int (nI dn), .int (nI bn), .int (nI wn), .ref m5, .ref m6, .ref m7, .ref m8, .ref m9, .ref m10, .ref m11]))]) [0] rfl
  have hKc := hK.sub (tys' := []) [] rfl
  refine vp_callSi (W.runV (As := [.int a9]) (rest := [.ref mx]) ⟨hx, hb, hml, hown, hts⟩ (c_X4_isPlace l dC dI cI mx m5 m6 m7 m8 m9 m10 m11 n dn bn wn th a9 hn) (cwV 1 hts gX4_print_X4_isPlace rfl rfl rfl (by decide +kernel) ⟨Nat.le_of_ble_eq_true rfl, Nat.le_of_ble_eq_true rfl⟩) ⟨fun a U g mk q => by obtain ⟨q0, qP, qK⟩ := q; exact ⟨q0, qP, va_K.moved (u := U) (U := U.calling g mk a) (Vm.Alike.refl U.vm) qK⟩, va_recv hK hP (ci := 4) (q0 := 0) rfl rfl, fun U hU hW => ⟨rfl, by rw [hU]; exact hPc, va_K.moved hW.alike hKc⟩⟩ rfl rfl hl.1 rfl (lv_room (Nat.le_of_ble_eq_true rfl)) dX4_print_3 ⟨Nat.le_of_ble_eq_true rfl, Nat.le_of_ble_eq_true rfl⟩) (fun r3 h3 => ?_)
  refine lv_if_ne (tgt := 13) hx hb dX4_print_6 (by decide) (fun c6 => ?_) (fun c6 => ?_)
  · refine lv_iconst (v := 0) hx hb dX4_print_13 (by decide) ?_
    refine va_put (D := (dC, dI)) (ci := 4) (v := .int 0) (ty := .int) (C := RX4) (T := TX4) (N := 12) hx hb hts hinX4 tyX4 tyX4_ok nmX4 hown hK hP hD hS 0 rfl rfl 0 (by decide) (hts (.fieldLink RX4 32 "NumberContentsModel" "thrown" "I") (by decide +kernel)) (fun _ h9 => h9) rfl (by decide +kernel) rfl rfl (Nat.le_of_ble_eq_true rfl) dX4_print_14 (fun H locs hP hD hS => ?_)
    have hP : va_P (dC, dI) vwCl [(mx, .inr (4, [.int 0, .int (nI n), .int (nI dn), .int (nI bn), .int (nI wn), .ref m5, .ref m6, .ref m7, .ref m8, .ref m9, .ref m10, .ref m11])), (m5, .inl (cI, 40, .inl (fun j => nI (z j)))), (m6, .inl (cI, 210, .inl (fun j => nI (rw j)))), (m8, .inl (cI, 500, .inl (fun j => nI (wr j)))), (m9, .inl (cB, 8000, .inl (fun j => sb_b (g j))))] H := hP
    have hD : va_D A [(mx, .inr (4, [.int 0, .int (nI n), .int (nI dn), .int (nI bn), .int (nI wn), .ref m5, .ref m6, .ref m7, .ref m8, .ref m9, .ref m10, .ref m11])), (m5, .inl (cI, 40, .inl (fun j => nI (z j)))), (m6, .inl (cI, 210, .inl (fun j => nI (rw j)))), (m8, .inl (cI, 500, .inl (fun j => nI (wr j)))), (m9, .inl (cB, 8000, .inl (fun j => sb_b (g j))))] := hD
    refine lv_aload_n hx hb dX4_print_17 rfl (lv_at hl 0 rfl) ?_
    refine va_get (D := (dC, dI)) (ci := 4) (v := .int 0) (C := RX4) (T := TX4) (N := 12) hx hb hts hinX4 hown hK hP 0 rfl rfl 0 (by decide) (hts (.fieldLink RX4 32 "NumberContentsModel" "thrown" "I") (by decide +kernel)) (fun _ h9 => h9) rfl dX4_print_18 ?_
    refine lv_if_le (tgt := 26) hx hb dX4_print_21 (by decide) (fun c21 => ?_) (fun c21 => ?_)
    · obtain ⟨a, ha, rfl⟩ := vp_in_of (ite_s h3 c6) (by omega)
      have hza := hz a ha
      refine lv_aload_n hx hb dX4_print_26 rfl (lv_at hl 0 rfl) ?_
      refine lv_aload_n hx hb dX4_print_27 rfl (lv_at hl 0 rfl) ?_
      refine va_get (D := (dC, dI)) (ci := 4) (v := .ref m6) (C := RX4) (T := TX4) (N := 12) hx hb hts hinX4 hown hK hP 0 rfl rfl 6 (by decide) (hts (.fieldLink RX4 13 "NumberContentsModel" "row" "[I") (by decide +kernel)) (fun _ h9 => h9) rfl dX4_print_28 ?_
      refine lv_iload_n hx hb dX4_print_31 rfl (lv_at hl 1 rfl) ?_
      have hPc := hP.sub (ws' := [(mx, .inr (4, [.int 0, .int (nI n), .int (nI dn), .int (nI bn), .int (nI wn), .ref m5, .ref m6, .ref m7, .ref m8, .ref m9, .ref m10, .ref m11])), (m5, .inl (cI, 40, .inl (fun j => nI (z j)))), (m9, .inl (cB, 8000, .inl (fun j => sb_b (g j)))), (m6, .inl (cI, 210, .inl (fun j => nI (rw j))))]) [0, 1, 4, 2] rfl
      have hKc := hK.sub (tys' := [(cI, .int), (cB, .byte)]) [0, 1] rfl
      have hDc := hD.sub (ws' := [(mx, .inr (4, [.int 0, .int (nI n), .int (nI dn), .int (nI bn), .int (nI wn), .ref m5, .ref m6, .ref m7, .ref m8, .ref m9, .ref m10, .ref m11])), (m5, .inl (cI, 40, .inl (fun j => nI (z j)))), (m9, .inl (cB, 8000, .inl (fun j => sb_b (g j)))), (m6, .inl (cI, 210, .inl (fun j => nI (rw j))))]) [0, 1, 4, 2] (by decide) rfl
      have hFc := va_free (wc := [(mx, .inr (4, [.int 0, .int (nI n), .int (nI dn), .int (nI bn), .int (nI wn), .ref m5, .ref m6, .ref m7, .ref m8, .ref m9, .ref m10, .ref m11])), (m5, .inl (cI, 40, .inl (fun j => nI (z j)))), (m9, .inl (cB, 8000, .inl (fun j => sb_b (g j)))), (m6, .inl (cI, 210, .inl (fun j => nI (rw j))))]) hD hS hA [0, 1, 4, 2] rfl
      refine va_callv (va_runV (As := [.ref m6, .int (nI a)]) (rest := []) ⟨hx, hb, hml, hown, hts⟩ (c_X4_fill l dC dI cI cB mx m5 m6 m7 m8 m9 m10 m11 n dn bn wn 0 g z rw m6 a H.size hI ha hrw) (cwV 2 hts gX4_print_X4_fill rfl rfl rfl (by decide +kernel) ⟨Nat.le_of_ble_eq_true rfl, Nat.le_of_ble_eq_true rfl⟩) ⟨fun a U g mk q => by obtain ⟨q0, q1, qP, qK, qD⟩ := q; exact ⟨q0, q1, qP, va_K.moved (u := U) (U := U.calling g mk a) (Vm.Alike.refl U.vm) qK, qD⟩, va_recv hKc hPc (ci := 4) (q0 := 0) rfl rfl, fun U hU hW => ⟨rfl, by rw [hU], by rw [hU]; exact hPc, va_K.moved hW.alike hKc, hDc.weaken (fun _ _ _ _ => trivial)⟩⟩ rfl rfl hl.1 rfl (lv_room (Nat.le_of_ble_eq_true rfl)) dX4_print_32 ⟨Nat.le_of_ble_eq_true rfl, Nat.le_of_ble_eq_true rfl⟩) hS (fun q _ h => hFc q h) hFc (fun uS tS H1 locs htS hvm h32 hB hzS hkS hS => ?_)
      obtain ⟨f3_32, rfl⟩ : ∃ z, z = uS := ⟨_, rfl⟩
      obtain ⟨hP1, hK1, hD1⟩ := hB
      rw [htS] at hP1
      have hK1 := va_K.moved hvm.symm hK1
      try dsimp only at h32
      obtain ⟨hP, hD⟩ := va_join (wr := [(m8, .inl (cI, 500, .inl (fun j => nI (wr j))))]) (w1 := [(mx, .inr (4, [.int 0, .int (nI n), .int (nI dn), .int (nI bn), .int (nI wn), .ref m5, .ref m6, .ref m7, .ref m8, .ref m9, .ref m10, .ref m11])), (m5, .inl (cI, 40, .inl (fun j => nI (z j)))), (m9, .inl (cB, 8000, .inl (fun j => sb_b (g j)))), (m6, .inl (cI, 210, .inl (fun j => nI (f3_32 j))))]) hP hD [0, 1, 4, 2] [3] rfl rfl (by decide) (by decide) hkS hFc hP1 hD1
      generalize H1 = H at hP hS ⊢
      have hP : va_P (dC, dI) vwCl [(m8, .inl (cI, 500, .inl (fun j => nI (wr j)))), (mx, .inr (4, [.int 0, .int (nI n), .int (nI dn), .int (nI bn), .int (nI wn), .ref m5, .ref m6, .ref m7, .ref m8, .ref m9, .ref m10, .ref m11])), (m5, .inl (cI, 40, .inl (fun j => nI (z j)))), (m9, .inl (cB, 8000, .inl (fun j => sb_b (g j)))), (m6, .inl (cI, 210, .inl (fun j => nI (f3_32 j))))] H := hP
      have hD : va_D A [(m8, .inl (cI, 500, .inl (fun j => nI (wr j)))), (mx, .inr (4, [.int 0, .int (nI n), .int (nI dn), .int (nI bn), .int (nI wn), .ref m5, .ref m6, .ref m7, .ref m8, .ref m9, .ref m10, .ref m11])), (m5, .inl (cI, 40, .inl (fun j => nI (z j)))), (m9, .inl (cB, 8000, .inl (fun j => sb_b (g j)))), (m6, .inl (cI, 210, .inl (fun j => nI (f3_32 j))))] := hD
      refine lv_aload_n hx hb dX4_print_35 rfl (lv_at hl 0 rfl) ?_
      refine lv_iconst (v := (nI 0)) hx hb dX4_print_36 (by decide) ?_
      refine va_put (D := (dC, dI)) (ci := 4) (v := .int (nI 0)) (ty := .int) (C := RX4) (T := TX4) (N := 12) hx hb hts hinX4 tyX4 tyX4_ok nmX4 hown hK hP hD hS 1 rfl rfl 4 (by decide) (hts (.fieldLink RX4 75 "NumberContentsModel" "outMany" "I") (by decide +kernel)) (fun _ h9 => h9) rfl (by decide +kernel) rfl rfl (Nat.le_of_ble_eq_true rfl) dX4_print_37 (fun H locs hP hD hS => ?_)
      have hP : va_P (dC, dI) vwCl [(m8, .inl (cI, 500, .inl (fun j => nI (wr j)))), (mx, .inr (4, [.int 0, .int (nI n), .int (nI dn), .int (nI bn), .int (nI 0), .ref m5, .ref m6, .ref m7, .ref m8, .ref m9, .ref m10, .ref m11])), (m5, .inl (cI, 40, .inl (fun j => nI (z j)))), (m9, .inl (cB, 8000, .inl (fun j => sb_b (g j)))), (m6, .inl (cI, 210, .inl (fun j => nI (f3_32 j))))] H := hP
      have hD : va_D A [(m8, .inl (cI, 500, .inl (fun j => nI (wr j)))), (mx, .inr (4, [.int 0, .int (nI n), .int (nI dn), .int (nI bn), .int (nI 0), .ref m5, .ref m6, .ref m7, .ref m8, .ref m9, .ref m10, .ref m11])), (m5, .inl (cI, 40, .inl (fun j => nI (z j)))), (m9, .inl (cB, 8000, .inl (fun j => sb_b (g j)))), (m6, .inl (cI, 210, .inl (fun j => nI (f3_32 j))))] := hD
      refine lv_aload_n hx hb dX4_print_40 rfl (lv_at hl 0 rfl) ?_
      refine lv_aload_n hx hb dX4_print_41 rfl (lv_at hl 0 rfl) ?_
      refine va_get (D := (dC, dI)) (ci := 4) (v := .ref m6) (C := RX4) (T := TX4) (N := 12) hx hb hts hinX4 hown hK hP 1 rfl rfl 6 (by decide) (hts (.fieldLink RX4 13 "NumberContentsModel" "row" "[I") (by decide +kernel)) (fun _ h9 => h9) rfl dX4_print_42 ?_
      have hPc := hP.sub (ws' := [(mx, .inr (4, [.int 0, .int (nI n), .int (nI dn), .int (nI bn), .int (nI 0), .ref m5, .ref m6, .ref m7, .ref m8, .ref m9, .ref m10, .ref m11])), (m6, .inl (cI, 210, .inl (fun j => nI (f3_32 j))))]) [1, 4] rfl
      have hKc := hK.sub (tys' := [(cI, .int)]) [0] rfl
      refine vp_callSi (W.runV (As := [.ref m6]) (rest := []) ⟨hx, hb, hml, hown, hts⟩ (c_X4_isBelow l dC dI cI mx m5 m6 m7 m8 m9 m10 m11 n dn bn 0 0 f3_32 h32.1) (cwV 1 hts gX4_print_X4_isBelow rfl rfl rfl (by decide +kernel) ⟨Nat.le_of_ble_eq_true rfl, Nat.le_of_ble_eq_true rfl⟩) ⟨fun a U g mk q => by obtain ⟨q0, qP, qK⟩ := q; exact ⟨q0, qP, va_K.moved (u := U) (U := U.calling g mk a) (Vm.Alike.refl U.vm) qK⟩, va_recv hK hP (ci := 4) (q0 := 1) rfl rfl, fun U hU hW => ⟨rfl, by rw [hU]; exact hPc, va_K.moved hW.alike hKc⟩⟩ rfl rfl hl.1 rfl (lv_room (Nat.le_of_ble_eq_true rfl)) dX4_print_45 ⟨Nat.le_of_ble_eq_true rfl, Nat.le_of_ble_eq_true rfl⟩) (fun r45 h45 => ?_)
      refine lv_if_eq (tgt := 70) hx hb dX4_print_48 (by decide) (fun c48 => ?_) (fun c48 => ?_)
      · have hN70 : (∀ j, f3_32 j < 256) ∧ bv f3_32 210 = (mval g z a).natAbs := (by first | exact ⟨h54.1, (pm_v h54.1 (ngm_ex (mval_fit hg hza) h32.2 h54) (by have := sv_ng h32.1 (ite_s h45 c48); have := h32.2; omega)).trans (Int.natAbs_neg _)⟩ | exact ⟨h32.1, pm_v h32.1 h32.2 (by have := sv_nn (ite_r h45 c48); have := h32.2; omega)⟩)
        have hN486 := (na_lt (mval_fit hg hza)).1
        refine lv_aload_n hx hb dX4_print_70 rfl (lv_at hl 0 rfl) ?_
        refine va_get (D := (dC, dI)) (ci := 4) (v := .int (nI 0)) (C := RX4) (T := TX4) (N := 12) hx hb hts hinX4 hown hK hP 1 rfl rfl 4 (by decide) (hts (.fieldLink RX4 75 "NumberContentsModel" "outMany" "I") (by decide +kernel)) (fun _ h9 => h9) rfl dX4_print_71 ?_
        refine lv_istore_n (lv' := [(2, .int (nI 0)), (0, .ref mx), (1, .int (nI a))]) hx hb dX4_print_74 rfl hl (by decide) rfl (fun ls hl => ?_)
        refine lv_iconst (v := 1) hx hb dX4_print_75 (by decide) ?_
        refine lv_istore_n (lv' := [(3, .int 1), (2, .int (nI 0)), (0, .ref mx), (1, .int (nI a))]) hx hb dX4_print_76 rfl hl (by decide) rfl (fun ls hl => ?_)
        have LP77 : ∀ (n9 : Nat) (k : Nat) (mo : Int32) (w2 u2 : Nat → Nat) (hm : (487 - k) < n9) (hk : k ≤ 486) (hw2 : ∀ j, w2 j < 256) (hv : bv w2 210 = (mval g z a).natAbs / 10 ^ k) (hu2 : ∀ j, u2 j < 256) (hd : ∀ j, j < k → u2 (0 + j) = 48 + (mval g z a).natAbs / 10 ^ j % 10) (hmo : MOR 10 (mval g z a).natAbs k mo) (H : Heap) (locs : List Loc) (ls : Array Slot) (hP : va_P (dC, dI) vwCl [(mx, .inr (4, [.int 0, .int (nI n), .int (nI dn), .int (nI bn), .int (nI (0 + k)), .ref m5, .ref m6, .ref m7, .ref m8, .ref m9, .ref m10, .ref m11])), (m5, .inl (cI, 40, .inl (fun j => nI (z j)))), (m6, .inl (cI, 210, .inl (fun j => nI (w2 j)))), (m8, .inl (cI, 500, .inl (fun j => nI (u2 j)))), (m9, .inl (cB, 8000, .inl (fun j => sb_b (g j))))] H) (hD : va_D A [(mx, .inr (4, [.int 0, .int (nI n), .int (nI dn), .int (nI bn), .int (nI (0 + k)), .ref m5, .ref m6, .ref m7, .ref m8, .ref m9, .ref m10, .ref m11])), (m5, .inl (cI, 40, .inl (fun j => nI (z j)))), (m6, .inl (cI, 210, .inl (fun j => nI (w2 j)))), (m8, .inl (cI, 500, .inl (fun j => nI (u2 j)))), (m9, .inl (cB, 8000, .inl (fun j => sb_b (g j))))]) (hS : va_S A s.heap H locs) (hl : lv_has ls 4 [(0, .ref mx), (1, .int (nI a)), (2, .int (nI 0)), (3, .int mo)]), W p l e (headSpec wsX4_print ({ frames := 3, cells := 0, slots := 0, locals := 66 } : Room)).room s m ([.ref mx, .int (nI a)]).toArray below meth c H locs 0 0 (MQ below (va_Qi (fun (r : Int32) (uS : Int32 × Nat × (Nat → Nat) × (Nat → Nat)) => match uS with | (th3, wn3, wr3, rw3) => (∀ j, rw3 j < 256) ∧ (∀ j, wr3 j < 256) ∧ ((th3 = 1 ∧ wn3 = wn ∧ wr3 = wr ∧ ¬ vp_in (nI a) n) ∨ (th3 = 0 ∧ ∃ aA, (nI a) = nI aA ∧ aA < n ∧ r = nI wn3 ∧ PR (mval g z aA) wn3 wr3))) (fun (uS : Int32 × Nat × (Nat → Nat) × (Nat → Nat)) (tS : State) => match uS with | (th3, wn3, wr3, rw3) => va_P (dC, dI) vwCl [(mx, .inr (4, [.int th3, .int (nI n), .int (nI dn), .int (nI bn), .int (nI wn3), .ref m5, .ref m6, .ref m7, .ref m8, .ref m9, .ref m10, .ref m11])), (m5, .inl (cI, 40, .inl (fun j => nI (z j)))), (m6, .inl (cI, 210, .inl (fun j => nI (rw3 j)))), (m8, .inl (cI, 500, .inl (fun j => nI (wr3 j)))), (m9, .inl (cB, 8000, .inl (fun j => sb_b (g j))))] tS.heap ∧ va_K (dC, dI) vwCl [(cI, .int), (cB, .byte)] tS ∧ va_D A [(mx, .inr (4, [.int th3, .int (nI n), .int (nI dn), .int (nI bn), .int (nI wn3), .ref m5, .ref m6, .ref m7, .ref m8, .ref m9, .ref m10, .ref m11])), (m5, .inl (cI, 40, .inl (fun j => nI (z j)))), (m6, .inl (cI, 210, .inl (fun j => nI (rw3 j)))), (m8, .inl (cI, 500, .inl (fun j => nI (wr3 j)))), (m9, .inl (cB, 8000, .inl (fun j => sb_b (g j))))]) A) ([.ref mx, .int (nI a)]).toArray s 0 0 A) (F0 m 77 ls []) := by
          intro n9
          induction n9 with
          | zero => intro k mo w2 u2 hm; exact absurd hm (Nat.not_lt_zero _)
          | succ n9 ih =>
            intro k mo w2 u2 hm hk hw2 hv hu2 hd hmo H locs ls hP hD hS hl
            have ih77 := ih
            refine lv_iload_n hx hb dX4_print_77 rfl (lv_at hl 3 rfl) ?_
            refine lv_if_eq (tgt := 125) hx hb dX4_print_78 (by decide) (fun c78 => ?_) (fun c78 => ?_)
            · have hme := mor_end hmo c78
              refine lv_aload_n hx hb dX4_print_125 rfl (lv_at hl 0 rfl) ?_
              refine lv_iload_n hx hb dX4_print_126 rfl (lv_at hl 2 rfl) ?_
              have hPc := hP.sub (ws' := [(mx, .inr (4, [.int 0, .int (nI n), .int (nI dn), .int (nI bn), .int (nI (0 + k)), .ref m5, .ref m6, .ref m7, .ref m8, .ref m9, .ref m10, .ref m11])), (m8, .inl (cI, 500, .inl (fun j => nI (u2 j))))]) [0, 3] rfl
              have hKc := hK.sub (tys' := [(cI, .int)]) [0] rfl
              have hDc := hD.sub (ws' := [(mx, .inr (4, [.int 0, .int (nI n), .int (nI dn), .int (nI bn), .int (nI (0 + k)), .ref m5, .ref m6, .ref m7, .ref m8, .ref m9, .ref m10, .ref m11])), (m8, .inl (cI, 500, .inl (fun j => nI (u2 j))))]) [0, 3] (by decide) rfl
              have hFc := va_free (wc := [(mx, .inr (4, [.int 0, .int (nI n), .int (nI dn), .int (nI bn), .int (nI (0 + k)), .ref m5, .ref m6, .ref m7, .ref m8, .ref m9, .ref m10, .ref m11])), (m8, .inl (cI, 500, .inl (fun j => nI (u2 j))))]) hD hS hA [0, 3] rfl
              refine va_callv (va_runV (As := [.int (nI 0)]) (rest := []) ⟨hx, hb, hml, hown, hts⟩ (c_X4_turn l dC dI cI mx m5 m6 m7 m8 m9 m10 m11 n dn bn (0 + k) 0 u2 0 H.size ⟨by omega, by omega⟩ hu2) (cwV 1 hts gX4_print_X4_turn rfl rfl rfl (by decide +kernel) ⟨Nat.le_of_ble_eq_true rfl, Nat.le_of_ble_eq_true rfl⟩) ⟨fun a U g mk q => by obtain ⟨q0, q1, qP, qK, qD⟩ := q; exact ⟨q0, q1, qP, va_K.moved (u := U) (U := U.calling g mk a) (Vm.Alike.refl U.vm) qK, qD⟩, va_recv hKc hPc (ci := 4) (q0 := 0) rfl rfl, fun U hU hW => ⟨rfl, by rw [hU], by rw [hU]; exact hPc, va_K.moved hW.alike hKc, hDc.weaken (fun _ _ _ _ => trivial)⟩⟩ rfl rfl hl.1 rfl (lv_room (Nat.le_of_ble_eq_true rfl)) dX4_print_127 ⟨Nat.le_of_ble_eq_true rfl, Nat.le_of_ble_eq_true rfl⟩) hS (fun q _ h => hFc q h) hFc (fun uS tS H1 locs htS hvm h127 hB hzS hkS hS => ?_)
              obtain ⟨g2_127, rfl⟩ : ∃ z, z = uS := ⟨_, rfl⟩
              obtain ⟨hP1, hK1, hD1⟩ := hB
              rw [htS] at hP1
              have hK1 := va_K.moved hvm.symm hK1
              try dsimp only at h127
              obtain ⟨hP, hD⟩ := va_join (wr := [(m5, .inl (cI, 40, .inl (fun j => nI (z j)))), (m6, .inl (cI, 210, .inl (fun j => nI (w2 j)))), (m9, .inl (cB, 8000, .inl (fun j => sb_b (g j))))]) (w1 := [(mx, .inr (4, [.int 0, .int (nI n), .int (nI dn), .int (nI bn), .int (nI (0 + k)), .ref m5, .ref m6, .ref m7, .ref m8, .ref m9, .ref m10, .ref m11])), (m8, .inl (cI, 500, .inl (fun j => nI (g2_127 j))))]) hP hD [0, 3] [1, 2, 4] rfl rfl (by decide) (by decide) hkS hFc hP1 hD1
              generalize H1 = H at hP hS ⊢
              have hP : va_P (dC, dI) vwCl [(m5, .inl (cI, 40, .inl (fun j => nI (z j)))), (m6, .inl (cI, 210, .inl (fun j => nI (w2 j)))), (m9, .inl (cB, 8000, .inl (fun j => sb_b (g j)))), (mx, .inr (4, [.int 0, .int (nI n), .int (nI dn), .int (nI bn), .int (nI (0 + k)), .ref m5, .ref m6, .ref m7, .ref m8, .ref m9, .ref m10, .ref m11])), (m8, .inl (cI, 500, .inl (fun j => nI (g2_127 j))))] H := hP
              have hD : va_D A [(m5, .inl (cI, 40, .inl (fun j => nI (z j)))), (m6, .inl (cI, 210, .inl (fun j => nI (w2 j)))), (m9, .inl (cB, 8000, .inl (fun j => sb_b (g j)))), (mx, .inr (4, [.int 0, .int (nI n), .int (nI dn), .int (nI bn), .int (nI (0 + k)), .ref m5, .ref m6, .ref m7, .ref m8, .ref m9, .ref m10, .ref m11])), (m8, .inl (cI, 500, .inl (fun j => nI (g2_127 j))))] := hD
              refine lv_aload_n hx hb dX4_print_130 rfl (lv_at hl 0 rfl) ?_
              refine va_get (D := (dC, dI)) (ci := 4) (v := .int (nI (0 + k))) (C := RX4) (T := TX4) (N := 12) hx hb hts hinX4 hown hK hP 3 rfl rfl 4 (by decide) (hts (.fieldLink RX4 75 "NumberContentsModel" "outMany" "I") (by decide +kernel)) (fun _ h9 => h9) rfl dX4_print_131 ?_
              have hP9 := hP.sub (ws' := [(mx, .inr (4, [.int 0, .int (nI n), .int (nI dn), .int (nI bn), .int (nI (0 + k)), .ref m5, .ref m6, .ref m7, .ref m8, .ref m9, .ref m10, .ref m11])), (m5, .inl (cI, 40, .inl (fun j => nI (z j)))), (m6, .inl (cI, 210, .inl (fun j => nI (w2 j)))), (m8, .inl (cI, 500, .inl (fun j => nI (g2_127 j)))), (m9, .inl (cB, 8000, .inl (fun j => sb_b (g j))))]) [3, 0, 1, 4, 2] rfl
              have hD9 := hD.sub (ws' := [(mx, .inr (4, [.int 0, .int (nI n), .int (nI dn), .int (nI bn), .int (nI (0 + k)), .ref m5, .ref m6, .ref m7, .ref m8, .ref m9, .ref m10, .ref m11])), (m5, .inl (cI, 40, .inl (fun j => nI (z j)))), (m6, .inl (cI, 210, .inl (fun j => nI (w2 j)))), (m8, .inl (cI, 500, .inl (fun j => nI (g2_127 j)))), (m9, .inl (cB, 8000, .inl (fun j => sb_b (g j))))]) [3, 0, 1, 4, 2] (by decide) rfl
              have hK9 := hK.sub (tys' := [(cI, .int), (cB, .byte)]) [0, 1] rfl
              exact W.iret (v := (nI (0 + k))) hx hb hr (fun tS htS hW => ⟨⟨(nI (0 + k)), (0, (0 + k), g2_127, w2), rfl, ⟨hw2, h127.1, Or.inr ⟨rfl, a, rfl, ha, rfl, (by first | exact pm_1 (by have := sv_ng h32.1 (ite_s h45 c48); have := h32.2; omega) hme hk hm45 hd h127.2.1 h127.2.2.1 | exact pm_0 (by have := sv_nn (ite_r h45 c48); have := h32.2; omega) hme hk hd h127.2.2.1)⟩⟩, by rw [htS]; exact hP9, va_K.moved hW.alike hK9, hD9⟩, hS.F htS⟩) hS.2.2 dX4_print_134
            · have hk486 := mor_k (by decide) hmo c78 hN486 (by decide)
              refine lv_aload_n hx hb dX4_print_81 rfl (lv_at hl 0 rfl) ?_
              refine va_get (D := (dC, dI)) (ci := 4) (v := .ref m8) (C := RX4) (T := TX4) (N := 12) hx hb hts hinX4 hown hK hP 0 rfl rfl 8 (by decide) (hts (.fieldLink RX4 19 "NumberContentsModel" "out" "[I") (by decide +kernel)) (fun _ h9 => h9) rfl dX4_print_82 ?_
              refine lv_aload_n hx hb dX4_print_85 rfl (lv_at hl 0 rfl) ?_
              refine va_get (D := (dC, dI)) (ci := 4) (v := .int (nI (0 + k))) (C := RX4) (T := TX4) (N := 12) hx hb hts hinX4 hown hK hP 0 rfl rfl 4 (by decide) (hts (.fieldLink RX4 75 "NumberContentsModel" "outMany" "I") (by decide +kernel)) (fun _ h9 => h9) rfl dX4_print_86 ?_
              refine lv_bipush (v := (nI 48)) hx hb dX4_print_89 (by decide) ?_
              refine lv_aload_n hx hb dX4_print_91 rfl (lv_at hl 0 rfl) ?_
              refine lv_bipush (v := (nI 10)) hx hb dX4_print_92 (by decide) ?_
              have hPc := hP.sub (ws' := [(mx, .inr (4, [.int 0, .int (nI n), .int (nI dn), .int (nI bn), .int (nI (0 + k)), .ref m5, .ref m6, .ref m7, .ref m8, .ref m9, .ref m10, .ref m11])), (m6, .inl (cI, 210, .inl (fun j => nI (w2 j))))]) [0, 2] rfl
              have hKc := hK.sub (tys' := [(cI, .int)]) [0] rfl
              have hDc := hD.sub (ws' := [(mx, .inr (4, [.int 0, .int (nI n), .int (nI dn), .int (nI bn), .int (nI (0 + k)), .ref m5, .ref m6, .ref m7, .ref m8, .ref m9, .ref m10, .ref m11])), (m6, .inl (cI, 210, .inl (fun j => nI (w2 j))))]) [0, 2] (by decide) rfl
              have hFc := va_free (wc := [(mx, .inr (4, [.int 0, .int (nI n), .int (nI dn), .int (nI bn), .int (nI (0 + k)), .ref m5, .ref m6, .ref m7, .ref m8, .ref m9, .ref m10, .ref m11])), (m6, .inl (cI, 210, .inl (fun j => nI (w2 j))))]) hD hS hA [0, 2] rfl
              refine va_calli (va_runV (As := [.int (nI 10)]) (rest := [.int (nI 48), .int (nI (0 + k)), .ref m8]) ⟨hx, hb, hml, hown, hts⟩ (c_X4_divided l dC dI cI mx m5 m6 m7 m8 m9 m10 m11 n dn bn (0 + k) 0 w2 10 H.size hw2 (by decide)) (cwV 1 hts gX4_print_X4_divided rfl rfl rfl (by decide +kernel) ⟨Nat.le_of_ble_eq_true rfl, Nat.le_of_ble_eq_true rfl⟩) ⟨fun a U g mk q => by obtain ⟨q0, q1, qP, qK, qD⟩ := q; exact ⟨q0, q1, qP, va_K.moved (u := U) (U := U.calling g mk a) (Vm.Alike.refl U.vm) qK, qD⟩, va_recv hKc hPc (ci := 4) (q0 := 0) rfl rfl, fun U hU hW => ⟨rfl, by rw [hU], by rw [hU]; exact hPc, va_K.moved hW.alike hKc, hDc.weaken (fun _ _ _ _ => trivial)⟩⟩ rfl rfl hl.1 rfl (lv_room (Nat.le_of_ble_eq_true rfl)) dX4_print_94 ⟨Nat.le_of_ble_eq_true rfl, Nat.le_of_ble_eq_true rfl⟩) hS (fun q _ h => hFc q h) hFc (fun r94 uS tS H1 locs htS hvm h94 hB hzS hkS hS => ?_)
              obtain ⟨g3_94, rfl⟩ : ∃ z, z = uS := ⟨_, rfl⟩
              obtain ⟨hP1, hK1, hD1⟩ := hB
              rw [htS] at hP1
              have hK1 := va_K.moved hvm.symm hK1
              try dsimp only at h94
              obtain ⟨hP, hD⟩ := va_join (wr := [(m5, .inl (cI, 40, .inl (fun j => nI (z j)))), (m8, .inl (cI, 500, .inl (fun j => nI (u2 j)))), (m9, .inl (cB, 8000, .inl (fun j => sb_b (g j))))]) (w1 := [(mx, .inr (4, [.int 0, .int (nI n), .int (nI dn), .int (nI bn), .int (nI (0 + k)), .ref m5, .ref m6, .ref m7, .ref m8, .ref m9, .ref m10, .ref m11])), (m6, .inl (cI, 210, .inl (fun j => nI (g3_94 j))))]) hP hD [0, 2] [1, 3, 4] rfl rfl (by decide) (by decide) hkS hFc hP1 hD1
              generalize H1 = H at hP hS ⊢
              have hP : va_P (dC, dI) vwCl [(m5, .inl (cI, 40, .inl (fun j => nI (z j)))), (m8, .inl (cI, 500, .inl (fun j => nI (u2 j)))), (m9, .inl (cB, 8000, .inl (fun j => sb_b (g j)))), (mx, .inr (4, [.int 0, .int (nI n), .int (nI dn), .int (nI bn), .int (nI (0 + k)), .ref m5, .ref m6, .ref m7, .ref m8, .ref m9, .ref m10, .ref m11])), (m6, .inl (cI, 210, .inl (fun j => nI (g3_94 j))))] H := hP
              have hD : va_D A [(m5, .inl (cI, 40, .inl (fun j => nI (z j)))), (m8, .inl (cI, 500, .inl (fun j => nI (u2 j)))), (m9, .inl (cB, 8000, .inl (fun j => sb_b (g j)))), (mx, .inr (4, [.int 0, .int (nI n), .int (nI dn), .int (nI bn), .int (nI (0 + k)), .ref m5, .ref m6, .ref m7, .ref m8, .ref m9, .ref m10, .ref m11])), (m6, .inl (cI, 210, .inl (fun j => nI (g3_94 j))))] := hD
              obtain ⟨rs, rfl, hr2, hr3, hr4⟩ := h94
              refine lv_iadd hx hb dX4_print_97 ?_
              refine lv_topi (fun x97 e97 => ?_)
              obtain rfl : x97 = nI (48 + rs) := e97.trans (nI_add _ _)
              refine va_iast hx hb hK hP hD hS 1 0 rfl rfl (vp_in_nI (by omega) (by omega)) dX4_print_98 (fun H locs hP hD hS => ?_)
              have hP : va_P (dC, dI) vwCl [(m5, .inl (cI, 40, .inl (fun j => nI (z j)))), (m8, .inl (cI, 500, .inl (upd (fun j => nI (u2 j)) (nI (0 + k)).toNatClampNeg (nI (48 + rs))))), (m9, .inl (cB, 8000, .inl (fun j => sb_b (g j)))), (mx, .inr (4, [.int 0, .int (nI n), .int (nI dn), .int (nI bn), .int (nI (0 + k)), .ref m5, .ref m6, .ref m7, .ref m8, .ref m9, .ref m10, .ref m11])), (m6, .inl (cI, 210, .inl (fun j => nI (g3_94 j))))] H := hP
              have hD : va_D A [(m5, .inl (cI, 40, .inl (fun j => nI (z j)))), (m8, .inl (cI, 500, .inl (upd (fun j => nI (u2 j)) (nI (0 + k)).toNatClampNeg (nI (48 + rs))))), (m9, .inl (cB, 8000, .inl (fun j => sb_b (g j)))), (mx, .inr (4, [.int 0, .int (nI n), .int (nI dn), .int (nI bn), .int (nI (0 + k)), .ref m5, .ref m6, .ref m7, .ref m8, .ref m9, .ref m10, .ref m11])), (m6, .inl (cI, 210, .inl (fun j => nI (g3_94 j))))] := hD
              obtain ⟨f98, e98⟩ : ∃ zz9 : Nat → Int32, zz9 = upd (fun j => nI (u2 j)) (nI (0 + k)).toNatClampNeg (nI (48 + rs)) := ⟨_, rfl⟩
              rw [← e98] at hP hD
              obtain rfl : f98 = fun j => nI (va_up u2 (0 + k) (48 + rs) j) := e98.trans (upg (by omega))
              refine lv_aload_n hx hb dX4_print_99 rfl (lv_at hl 0 rfl) ?_
              refine lv_dup hx hb dX4_print_100 rfl ?_
              refine va_get (D := (dC, dI)) (ci := 4) (v := .int (nI (0 + k))) (C := RX4) (T := TX4) (N := 12) hx hb hts hinX4 hown hK hP 3 rfl rfl 4 (by decide) (hts (.fieldLink RX4 75 "NumberContentsModel" "outMany" "I") (by decide +kernel)) (fun _ h9 => h9) rfl dX4_print_101 ?_
              refine lv_iconst (v := 1) hx hb dX4_print_104 (by decide) ?_
              refine lv_iadd hx hb dX4_print_105 ?_
              refine lv_topi (fun x105 e105 => ?_)
              obtain rfl : x105 = nI (0 + k + 1) := e105.trans (nI_1 _)
              refine va_put (D := (dC, dI)) (ci := 4) (v := .int (nI (0 + k + 1))) (ty := .int) (C := RX4) (T := TX4) (N := 12) hx hb hts hinX4 tyX4 tyX4_ok nmX4 hown hK hP hD hS 3 rfl rfl 4 (by decide) (hts (.fieldLink RX4 75 "NumberContentsModel" "outMany" "I") (by decide +kernel)) (fun _ h9 => h9) rfl (by decide +kernel) rfl rfl (Nat.le_of_ble_eq_true rfl) dX4_print_106 (fun H locs hP hD hS => ?_)
              have hP : va_P (dC, dI) vwCl [(m5, .inl (cI, 40, .inl (fun j => nI (z j)))), (m8, .inl (cI, 500, .inl (fun j => nI (va_up u2 (0 + k) (48 + rs) j)))), (m9, .inl (cB, 8000, .inl (fun j => sb_b (g j)))), (mx, .inr (4, [.int 0, .int (nI n), .int (nI dn), .int (nI bn), .int (nI (0 + k + 1)), .ref m5, .ref m6, .ref m7, .ref m8, .ref m9, .ref m10, .ref m11])), (m6, .inl (cI, 210, .inl (fun j => nI (g3_94 j))))] H := hP
              have hD : va_D A [(m5, .inl (cI, 40, .inl (fun j => nI (z j)))), (m8, .inl (cI, 500, .inl (fun j => nI (va_up u2 (0 + k) (48 + rs) j)))), (m9, .inl (cB, 8000, .inl (fun j => sb_b (g j)))), (mx, .inr (4, [.int 0, .int (nI n), .int (nI dn), .int (nI bn), .int (nI (0 + k + 1)), .ref m5, .ref m6, .ref m7, .ref m8, .ref m9, .ref m10, .ref m11])), (m6, .inl (cI, 210, .inl (fun j => nI (g3_94 j))))] := hD
              refine lv_aload_n hx hb dX4_print_109 rfl (lv_at hl 0 rfl) ?_
              have hPc := hP.sub (ws' := [(mx, .inr (4, [.int 0, .int (nI n), .int (nI dn), .int (nI bn), .int (nI (0 + k + 1)), .ref m5, .ref m6, .ref m7, .ref m8, .ref m9, .ref m10, .ref m11])), (m6, .inl (cI, 210, .inl (fun j => nI (g3_94 j))))]) [3, 4] rfl
              have hKc := hK.sub (tys' := [(cI, .int)]) [0] rfl
              refine vp_callSi (W.runV (As := []) (rest := []) ⟨hx, hb, hml, hown, hts⟩ (c_X4_isNone l dC dI cI mx m5 m6 m7 m8 m9 m10 m11 n dn bn (0 + k + 1) 0 g3_94 hr4) (cwV 0 hts gX4_print_X4_isNone rfl rfl rfl (by decide +kernel) ⟨Nat.le_of_ble_eq_true rfl, Nat.le_of_ble_eq_true rfl⟩) ⟨fun a U g mk q => by obtain ⟨q0, qP, qK⟩ := q; exact ⟨q0, qP, va_K.moved (u := U) (U := U.calling g mk a) (Vm.Alike.refl U.vm) qK⟩, va_recv hK hP (ci := 4) (q0 := 3) rfl rfl, fun U hU hW => ⟨rfl, by rw [hU]; exact hPc, va_K.moved hW.alike hKc⟩⟩ rfl rfl hl.1 rfl (lv_room (Nat.le_of_ble_eq_true rfl)) dX4_print_110 ⟨Nat.le_of_ble_eq_true rfl, Nat.le_of_ble_eq_true rfl⟩) (fun r110 h110 => ?_)
              refine lv_if_ne (tgt := 120) hx hb dX4_print_113 (by decide) (fun c113 => ?_) (fun c113 => ?_)
              · refine lv_iconst (v := 0) hx hb dX4_print_120 (by decide) ?_
                refine lv_istore_n (lv' := [(3, .int 0), (0, .ref mx), (1, .int (nI a)), (2, .int (nI 0))]) hx hb dX4_print_121 rfl hl (by decide) rfl (fun ls hl => ?_)
                refine lv_goto (tgt := 77) hx hb dX4_print_122 (by decide) ?_
                have hdq := dq_step (by decide) hv hr3 hr2
                have hms := mor_step (by decide) hmo c78 hdq.2 h110
                exact ih77 (k + 1) 0 g3_94 (va_up u2 (0 + k) (48 + rs)) (by omega) (by omega) hr4 hdq.2 (up_lt hu2 (by omega)) (pm_d hd hdq.1) (hms.2 c113) _ _ _ (hP.sub [3, 0, 4, 1, 2] rfl) (hD.sub [3, 0, 4, 1, 2] (by decide) rfl) hS (lv_sub hl [1, 2, 3, 0] rfl)
              · refine lv_iconst (v := 1) hx hb dX4_print_116 (by decide) ?_
                refine lv_goto (tgt := 121) hx hb dX4_print_117 (by decide) ?_
                refine lv_istore_n (lv' := [(3, .int 1), (0, .ref mx), (1, .int (nI a)), (2, .int (nI 0))]) hx hb dX4_print_121 rfl hl (by decide) rfl (fun ls hl => ?_)
                refine lv_goto (tgt := 77) hx hb dX4_print_122 (by decide) ?_
                have hdq := dq_step (by decide) hv hr3 hr2
                have hms := mor_step (by decide) hmo c78 hdq.2 h110
                exact ih77 (k + 1) 1 g3_94 (va_up u2 (0 + k) (48 + rs)) (by omega) (by omega) hr4 hdq.2 (up_lt hu2 (by omega)) (pm_d hd hdq.1) (hms.1 c113) _ _ _ (hP.sub [3, 0, 4, 1, 2] rfl) (hD.sub [3, 0, 4, 1, 2] (by decide) rfl) hS (lv_sub hl [1, 2, 3, 0] rfl)
        exact LP77 _ 0 1 f3_32 wr (Nat.lt_succ_self _) (by omega) hN70.1 (by rw [Nat.pow_zero, Nat.div_one]; exact hN70.2) hwr (fun j h => absurd h (by omega)) (Or.inl ⟨rfl, Or.inl rfl⟩) _ _ _ (hP.sub [1, 2, 4, 0, 3] rfl) (hD.sub [1, 2, 4, 0, 3] (by decide) rfl) hS (lv_sub hl [2, 3, 1, 0] rfl)
      · refine lv_aload_n hx hb dX4_print_51 rfl (lv_at hl 0 rfl) ?_
        refine lv_iconst (v := (-1)) hx hb dX4_print_52 (by decide) ?_
        refine lv_iconst (v := 0) hx hb dX4_print_53 (by decide) ?_
        have hPc := hP.sub (ws' := [(mx, .inr (4, [.int 0, .int (nI n), .int (nI dn), .int (nI bn), .int (nI 0), .ref m5, .ref m6, .ref m7, .ref m8, .ref m9, .ref m10, .ref m11])), (m6, .inl (cI, 210, .inl (fun j => nI (f3_32 j))))]) [1, 4] rfl
        have hKc := hK.sub (tys' := [(cI, .int)]) [0] rfl
        have hDc := hD.sub (ws' := [(mx, .inr (4, [.int 0, .int (nI n), .int (nI dn), .int (nI bn), .int (nI 0), .ref m5, .ref m6, .ref m7, .ref m8, .ref m9, .ref m10, .ref m11])), (m6, .inl (cI, 210, .inl (fun j => nI (f3_32 j))))]) [1, 4] (by decide) rfl
        have hFc := va_free (wc := [(mx, .inr (4, [.int 0, .int (nI n), .int (nI dn), .int (nI bn), .int (nI 0), .ref m5, .ref m6, .ref m7, .ref m8, .ref m9, .ref m10, .ref m11])), (m6, .inl (cI, 210, .inl (fun j => nI (f3_32 j))))]) hD hS hA [1, 4] rfl
        refine va_callv (va_runV (As := [.int (-1), .int 0]) (rest := []) ⟨hx, hb, hml, hown, hts⟩ (c_X4_times l dC dI cI mx m5 m6 m7 m8 m9 m10 m11 n dn bn 0 0 f3_32 (-1) 0 H.size h32.1) (cwV 2 hts gX4_print_X4_times rfl rfl rfl (by decide +kernel) ⟨Nat.le_of_ble_eq_true rfl, Nat.le_of_ble_eq_true rfl⟩) ⟨fun a U g mk q => by obtain ⟨q0, q1, qP, qK, qD⟩ := q; exact ⟨q0, q1, qP, va_K.moved (u := U) (U := U.calling g mk a) (Vm.Alike.refl U.vm) qK, qD⟩, va_recv hKc hPc (ci := 4) (q0 := 0) rfl rfl, fun U hU hW => ⟨rfl, by rw [hU], by rw [hU]; exact hPc, va_K.moved hW.alike hKc, hDc.weaken (fun _ _ _ _ => trivial)⟩⟩ rfl rfl hl.1 rfl (lv_room (Nat.le_of_ble_eq_true rfl)) dX4_print_54 ⟨Nat.le_of_ble_eq_true rfl, Nat.le_of_ble_eq_true rfl⟩) hS (fun q _ h => hFc q h) hFc (fun uS tS H1 locs htS hvm h54 hB hzS hkS hS => ?_)
        obtain ⟨g3_54, rfl⟩ : ∃ z, z = uS := ⟨_, rfl⟩
        obtain ⟨hP1, hK1, hD1⟩ := hB
        rw [htS] at hP1
        have hK1 := va_K.moved hvm.symm hK1
        try dsimp only at h54
        obtain ⟨hP, hD⟩ := va_join (wr := [(m8, .inl (cI, 500, .inl (fun j => nI (wr j)))), (m5, .inl (cI, 40, .inl (fun j => nI (z j)))), (m9, .inl (cB, 8000, .inl (fun j => sb_b (g j))))]) (w1 := [(mx, .inr (4, [.int 0, .int (nI n), .int (nI dn), .int (nI bn), .int (nI 0), .ref m5, .ref m6, .ref m7, .ref m8, .ref m9, .ref m10, .ref m11])), (m6, .inl (cI, 210, .inl (fun j => nI (g3_54 j))))]) hP hD [1, 4] [0, 2, 3] rfl rfl (by decide) (by decide) hkS hFc hP1 hD1
        generalize H1 = H at hP hS ⊢
        have hP : va_P (dC, dI) vwCl [(m8, .inl (cI, 500, .inl (fun j => nI (wr j)))), (m5, .inl (cI, 40, .inl (fun j => nI (z j)))), (m9, .inl (cB, 8000, .inl (fun j => sb_b (g j)))), (mx, .inr (4, [.int 0, .int (nI n), .int (nI dn), .int (nI bn), .int (nI 0), .ref m5, .ref m6, .ref m7, .ref m8, .ref m9, .ref m10, .ref m11])), (m6, .inl (cI, 210, .inl (fun j => nI (g3_54 j))))] H := hP
        have hD : va_D A [(m8, .inl (cI, 500, .inl (fun j => nI (wr j)))), (m5, .inl (cI, 40, .inl (fun j => nI (z j)))), (m9, .inl (cB, 8000, .inl (fun j => sb_b (g j)))), (mx, .inr (4, [.int 0, .int (nI n), .int (nI dn), .int (nI bn), .int (nI 0), .ref m5, .ref m6, .ref m7, .ref m8, .ref m9, .ref m10, .ref m11])), (m6, .inl (cI, 210, .inl (fun j => nI (g3_54 j))))] := hD
        refine lv_aload_n hx hb dX4_print_57 rfl (lv_at hl 0 rfl) ?_
        refine va_get (D := (dC, dI)) (ci := 4) (v := .ref m8) (C := RX4) (T := TX4) (N := 12) hx hb hts hinX4 hown hK hP 3 rfl rfl 8 (by decide) (hts (.fieldLink RX4 19 "NumberContentsModel" "out" "[I") (by decide +kernel)) (fun _ h9 => h9) rfl dX4_print_58 ?_
        refine lv_iconst (v := (nI 0)) hx hb dX4_print_61 (by decide) ?_
        refine lv_bipush (v := (nI 45)) hx hb dX4_print_62 (by decide) ?_
        refine va_iast hx hb hK hP hD hS 0 0 rfl rfl (vp_in_nI (by omega) (by omega)) dX4_print_64 (fun H locs hP hD hS => ?_)
        have hP : va_P (dC, dI) vwCl [(m8, .inl (cI, 500, .inl (upd (fun j => nI (wr j)) (nI 0).toNatClampNeg (nI 45)))), (m5, .inl (cI, 40, .inl (fun j => nI (z j)))), (m9, .inl (cB, 8000, .inl (fun j => sb_b (g j)))), (mx, .inr (4, [.int 0, .int (nI n), .int (nI dn), .int (nI bn), .int (nI 0), .ref m5, .ref m6, .ref m7, .ref m8, .ref m9, .ref m10, .ref m11])), (m6, .inl (cI, 210, .inl (fun j => nI (g3_54 j))))] H := hP
        have hD : va_D A [(m8, .inl (cI, 500, .inl (upd (fun j => nI (wr j)) (nI 0).toNatClampNeg (nI 45)))), (m5, .inl (cI, 40, .inl (fun j => nI (z j)))), (m9, .inl (cB, 8000, .inl (fun j => sb_b (g j)))), (mx, .inr (4, [.int 0, .int (nI n), .int (nI dn), .int (nI bn), .int (nI 0), .ref m5, .ref m6, .ref m7, .ref m8, .ref m9, .ref m10, .ref m11])), (m6, .inl (cI, 210, .inl (fun j => nI (g3_54 j))))] := hD
        obtain ⟨f64, e64⟩ : ∃ zz9 : Nat → Int32, zz9 = upd (fun j => nI (wr j)) (nI 0).toNatClampNeg (nI 45) := ⟨_, rfl⟩
        rw [← e64] at hP hD
        obtain rfl : f64 = fun j => nI (va_up wr 0 45 j) := e64.trans (upg (by omega))
        refine lv_aload_n hx hb dX4_print_65 rfl (lv_at hl 0 rfl) ?_
        refine lv_iconst (v := (nI 1)) hx hb dX4_print_66 (by decide) ?_
        refine va_put (D := (dC, dI)) (ci := 4) (v := .int (nI 1)) (ty := .int) (C := RX4) (T := TX4) (N := 12) hx hb hts hinX4 tyX4 tyX4_ok nmX4 hown hK hP hD hS 3 rfl rfl 4 (by decide) (hts (.fieldLink RX4 75 "NumberContentsModel" "outMany" "I") (by decide +kernel)) (fun _ h9 => h9) rfl (by decide +kernel) rfl rfl (Nat.le_of_ble_eq_true rfl) dX4_print_67 (fun H locs hP hD hS => ?_)
        have hP : va_P (dC, dI) vwCl [(m8, .inl (cI, 500, .inl (fun j => nI (va_up wr 0 45 j)))), (m5, .inl (cI, 40, .inl (fun j => nI (z j)))), (m9, .inl (cB, 8000, .inl (fun j => sb_b (g j)))), (mx, .inr (4, [.int 0, .int (nI n), .int (nI dn), .int (nI bn), .int (nI 1), .ref m5, .ref m6, .ref m7, .ref m8, .ref m9, .ref m10, .ref m11])), (m6, .inl (cI, 210, .inl (fun j => nI (g3_54 j))))] H := hP
        have hD : va_D A [(m8, .inl (cI, 500, .inl (fun j => nI (va_up wr 0 45 j)))), (m5, .inl (cI, 40, .inl (fun j => nI (z j)))), (m9, .inl (cB, 8000, .inl (fun j => sb_b (g j)))), (mx, .inr (4, [.int 0, .int (nI n), .int (nI dn), .int (nI bn), .int (nI 1), .ref m5, .ref m6, .ref m7, .ref m8, .ref m9, .ref m10, .ref m11])), (m6, .inl (cI, 210, .inl (fun j => nI (g3_54 j))))] := hD
        have hN70 : (∀ j, g3_54 j < 256) ∧ bv g3_54 210 = (mval g z a).natAbs := (by first | exact ⟨h54.1, (pm_v h54.1 (ngm_ex (mval_fit hg hza) h32.2 h54) (by have := sv_ng h32.1 (ite_s h45 c48); have := h32.2; omega)).trans (Int.natAbs_neg _)⟩ | exact ⟨h32.1, pm_v h32.1 h32.2 (by have := sv_nn (ite_r h45 c48); have := h32.2; omega)⟩)
        have hN486 := (na_lt (mval_fit hg hza)).1
        refine lv_aload_n hx hb dX4_print_70 rfl (lv_at hl 0 rfl) ?_
        refine va_get (D := (dC, dI)) (ci := 4) (v := .int (nI 1)) (C := RX4) (T := TX4) (N := 12) hx hb hts hinX4 hown hK hP 3 rfl rfl 4 (by decide) (hts (.fieldLink RX4 75 "NumberContentsModel" "outMany" "I") (by decide +kernel)) (fun _ h9 => h9) rfl dX4_print_71 ?_
        refine lv_istore_n (lv' := [(2, .int (nI 1)), (0, .ref mx), (1, .int (nI a))]) hx hb dX4_print_74 rfl hl (by decide) rfl (fun ls hl => ?_)
        refine lv_iconst (v := 1) hx hb dX4_print_75 (by decide) ?_
        refine lv_istore_n (lv' := [(3, .int 1), (2, .int (nI 1)), (0, .ref mx), (1, .int (nI a))]) hx hb dX4_print_76 rfl hl (by decide) rfl (fun ls hl => ?_)
        have LP77 : ∀ (n9 : Nat) (k : Nat) (mo : Int32) (w2 u2 : Nat → Nat) (hm : (487 - k) < n9) (hk : k ≤ 486) (hw2 : ∀ j, w2 j < 256) (hv : bv w2 210 = (mval g z a).natAbs / 10 ^ k) (hu2 : ∀ j, u2 j < 256) (hd : ∀ j, j < k → u2 (1 + j) = 48 + (mval g z a).natAbs / 10 ^ j % 10) (hmo : MOR 10 (mval g z a).natAbs k mo) (hm45 : u2 0 = 45) (H : Heap) (locs : List Loc) (ls : Array Slot) (hP : va_P (dC, dI) vwCl [(mx, .inr (4, [.int 0, .int (nI n), .int (nI dn), .int (nI bn), .int (nI (1 + k)), .ref m5, .ref m6, .ref m7, .ref m8, .ref m9, .ref m10, .ref m11])), (m5, .inl (cI, 40, .inl (fun j => nI (z j)))), (m6, .inl (cI, 210, .inl (fun j => nI (w2 j)))), (m8, .inl (cI, 500, .inl (fun j => nI (u2 j)))), (m9, .inl (cB, 8000, .inl (fun j => sb_b (g j))))] H) (hD : va_D A [(mx, .inr (4, [.int 0, .int (nI n), .int (nI dn), .int (nI bn), .int (nI (1 + k)), .ref m5, .ref m6, .ref m7, .ref m8, .ref m9, .ref m10, .ref m11])), (m5, .inl (cI, 40, .inl (fun j => nI (z j)))), (m6, .inl (cI, 210, .inl (fun j => nI (w2 j)))), (m8, .inl (cI, 500, .inl (fun j => nI (u2 j)))), (m9, .inl (cB, 8000, .inl (fun j => sb_b (g j))))]) (hS : va_S A s.heap H locs) (hl : lv_has ls 4 [(0, .ref mx), (1, .int (nI a)), (2, .int (nI 1)), (3, .int mo)]), W p l e (headSpec wsX4_print ({ frames := 3, cells := 0, slots := 0, locals := 66 } : Room)).room s m ([.ref mx, .int (nI a)]).toArray below meth c H locs 0 0 (MQ below (va_Qi (fun (r : Int32) (uS : Int32 × Nat × (Nat → Nat) × (Nat → Nat)) => match uS with | (th3, wn3, wr3, rw3) => (∀ j, rw3 j < 256) ∧ (∀ j, wr3 j < 256) ∧ ((th3 = 1 ∧ wn3 = wn ∧ wr3 = wr ∧ ¬ vp_in (nI a) n) ∨ (th3 = 0 ∧ ∃ aA, (nI a) = nI aA ∧ aA < n ∧ r = nI wn3 ∧ PR (mval g z aA) wn3 wr3))) (fun (uS : Int32 × Nat × (Nat → Nat) × (Nat → Nat)) (tS : State) => match uS with | (th3, wn3, wr3, rw3) => va_P (dC, dI) vwCl [(mx, .inr (4, [.int th3, .int (nI n), .int (nI dn), .int (nI bn), .int (nI wn3), .ref m5, .ref m6, .ref m7, .ref m8, .ref m9, .ref m10, .ref m11])), (m5, .inl (cI, 40, .inl (fun j => nI (z j)))), (m6, .inl (cI, 210, .inl (fun j => nI (rw3 j)))), (m8, .inl (cI, 500, .inl (fun j => nI (wr3 j)))), (m9, .inl (cB, 8000, .inl (fun j => sb_b (g j))))] tS.heap ∧ va_K (dC, dI) vwCl [(cI, .int), (cB, .byte)] tS ∧ va_D A [(mx, .inr (4, [.int th3, .int (nI n), .int (nI dn), .int (nI bn), .int (nI wn3), .ref m5, .ref m6, .ref m7, .ref m8, .ref m9, .ref m10, .ref m11])), (m5, .inl (cI, 40, .inl (fun j => nI (z j)))), (m6, .inl (cI, 210, .inl (fun j => nI (rw3 j)))), (m8, .inl (cI, 500, .inl (fun j => nI (wr3 j)))), (m9, .inl (cB, 8000, .inl (fun j => sb_b (g j))))]) A) ([.ref mx, .int (nI a)]).toArray s 0 0 A) (F0 m 77 ls []) := by
          intro n9
          induction n9 with
          | zero => intro k mo w2 u2 hm; exact absurd hm (Nat.not_lt_zero _)
          | succ n9 ih =>
            intro k mo w2 u2 hm hk hw2 hv hu2 hd hmo hm45 H locs ls hP hD hS hl
            have ih77 := ih
            refine lv_iload_n hx hb dX4_print_77 rfl (lv_at hl 3 rfl) ?_
            refine lv_if_eq (tgt := 125) hx hb dX4_print_78 (by decide) (fun c78 => ?_) (fun c78 => ?_)
            · have hme := mor_end hmo c78
              refine lv_aload_n hx hb dX4_print_125 rfl (lv_at hl 0 rfl) ?_
              refine lv_iload_n hx hb dX4_print_126 rfl (lv_at hl 2 rfl) ?_
              have hPc := hP.sub (ws' := [(mx, .inr (4, [.int 0, .int (nI n), .int (nI dn), .int (nI bn), .int (nI (1 + k)), .ref m5, .ref m6, .ref m7, .ref m8, .ref m9, .ref m10, .ref m11])), (m8, .inl (cI, 500, .inl (fun j => nI (u2 j))))]) [0, 3] rfl
              have hKc := hK.sub (tys' := [(cI, .int)]) [0] rfl
              have hDc := hD.sub (ws' := [(mx, .inr (4, [.int 0, .int (nI n), .int (nI dn), .int (nI bn), .int (nI (1 + k)), .ref m5, .ref m6, .ref m7, .ref m8, .ref m9, .ref m10, .ref m11])), (m8, .inl (cI, 500, .inl (fun j => nI (u2 j))))]) [0, 3] (by decide) rfl
              have hFc := va_free (wc := [(mx, .inr (4, [.int 0, .int (nI n), .int (nI dn), .int (nI bn), .int (nI (1 + k)), .ref m5, .ref m6, .ref m7, .ref m8, .ref m9, .ref m10, .ref m11])), (m8, .inl (cI, 500, .inl (fun j => nI (u2 j))))]) hD hS hA [0, 3] rfl
              refine va_callv (va_runV (As := [.int (nI 1)]) (rest := []) ⟨hx, hb, hml, hown, hts⟩ (c_X4_turn l dC dI cI mx m5 m6 m7 m8 m9 m10 m11 n dn bn (1 + k) 0 u2 1 H.size ⟨by omega, by omega⟩ hu2) (cwV 1 hts gX4_print_X4_turn rfl rfl rfl (by decide +kernel) ⟨Nat.le_of_ble_eq_true rfl, Nat.le_of_ble_eq_true rfl⟩) ⟨fun a U g mk q => by obtain ⟨q0, q1, qP, qK, qD⟩ := q; exact ⟨q0, q1, qP, va_K.moved (u := U) (U := U.calling g mk a) (Vm.Alike.refl U.vm) qK, qD⟩, va_recv hKc hPc (ci := 4) (q0 := 0) rfl rfl, fun U hU hW => ⟨rfl, by rw [hU], by rw [hU]; exact hPc, va_K.moved hW.alike hKc, hDc.weaken (fun _ _ _ _ => trivial)⟩⟩ rfl rfl hl.1 rfl (lv_room (Nat.le_of_ble_eq_true rfl)) dX4_print_127 ⟨Nat.le_of_ble_eq_true rfl, Nat.le_of_ble_eq_true rfl⟩) hS (fun q _ h => hFc q h) hFc (fun uS tS H1 locs htS hvm h127 hB hzS hkS hS => ?_)
              obtain ⟨g2_127, rfl⟩ : ∃ z, z = uS := ⟨_, rfl⟩
              obtain ⟨hP1, hK1, hD1⟩ := hB
              rw [htS] at hP1
              have hK1 := va_K.moved hvm.symm hK1
              try dsimp only at h127
              obtain ⟨hP, hD⟩ := va_join (wr := [(m5, .inl (cI, 40, .inl (fun j => nI (z j)))), (m6, .inl (cI, 210, .inl (fun j => nI (w2 j)))), (m9, .inl (cB, 8000, .inl (fun j => sb_b (g j))))]) (w1 := [(mx, .inr (4, [.int 0, .int (nI n), .int (nI dn), .int (nI bn), .int (nI (1 + k)), .ref m5, .ref m6, .ref m7, .ref m8, .ref m9, .ref m10, .ref m11])), (m8, .inl (cI, 500, .inl (fun j => nI (g2_127 j))))]) hP hD [0, 3] [1, 2, 4] rfl rfl (by decide) (by decide) hkS hFc hP1 hD1
              generalize H1 = H at hP hS ⊢
              have hP : va_P (dC, dI) vwCl [(m5, .inl (cI, 40, .inl (fun j => nI (z j)))), (m6, .inl (cI, 210, .inl (fun j => nI (w2 j)))), (m9, .inl (cB, 8000, .inl (fun j => sb_b (g j)))), (mx, .inr (4, [.int 0, .int (nI n), .int (nI dn), .int (nI bn), .int (nI (1 + k)), .ref m5, .ref m6, .ref m7, .ref m8, .ref m9, .ref m10, .ref m11])), (m8, .inl (cI, 500, .inl (fun j => nI (g2_127 j))))] H := hP
              have hD : va_D A [(m5, .inl (cI, 40, .inl (fun j => nI (z j)))), (m6, .inl (cI, 210, .inl (fun j => nI (w2 j)))), (m9, .inl (cB, 8000, .inl (fun j => sb_b (g j)))), (mx, .inr (4, [.int 0, .int (nI n), .int (nI dn), .int (nI bn), .int (nI (1 + k)), .ref m5, .ref m6, .ref m7, .ref m8, .ref m9, .ref m10, .ref m11])), (m8, .inl (cI, 500, .inl (fun j => nI (g2_127 j))))] := hD
              refine lv_aload_n hx hb dX4_print_130 rfl (lv_at hl 0 rfl) ?_
              refine va_get (D := (dC, dI)) (ci := 4) (v := .int (nI (1 + k))) (C := RX4) (T := TX4) (N := 12) hx hb hts hinX4 hown hK hP 3 rfl rfl 4 (by decide) (hts (.fieldLink RX4 75 "NumberContentsModel" "outMany" "I") (by decide +kernel)) (fun _ h9 => h9) rfl dX4_print_131 ?_
              have hP9 := hP.sub (ws' := [(mx, .inr (4, [.int 0, .int (nI n), .int (nI dn), .int (nI bn), .int (nI (1 + k)), .ref m5, .ref m6, .ref m7, .ref m8, .ref m9, .ref m10, .ref m11])), (m5, .inl (cI, 40, .inl (fun j => nI (z j)))), (m6, .inl (cI, 210, .inl (fun j => nI (w2 j)))), (m8, .inl (cI, 500, .inl (fun j => nI (g2_127 j)))), (m9, .inl (cB, 8000, .inl (fun j => sb_b (g j))))]) [3, 0, 1, 4, 2] rfl
              have hD9 := hD.sub (ws' := [(mx, .inr (4, [.int 0, .int (nI n), .int (nI dn), .int (nI bn), .int (nI (1 + k)), .ref m5, .ref m6, .ref m7, .ref m8, .ref m9, .ref m10, .ref m11])), (m5, .inl (cI, 40, .inl (fun j => nI (z j)))), (m6, .inl (cI, 210, .inl (fun j => nI (w2 j)))), (m8, .inl (cI, 500, .inl (fun j => nI (g2_127 j)))), (m9, .inl (cB, 8000, .inl (fun j => sb_b (g j))))]) [3, 0, 1, 4, 2] (by decide) rfl
              have hK9 := hK.sub (tys' := [(cI, .int), (cB, .byte)]) [0, 1] rfl
              exact W.iret (v := (nI (1 + k))) hx hb hr (fun tS htS hW => ⟨⟨(nI (1 + k)), (0, (1 + k), g2_127, w2), rfl, ⟨hw2, h127.1, Or.inr ⟨rfl, a, rfl, ha, rfl, (by first | exact pm_1 (by have := sv_ng h32.1 (ite_s h45 c48); have := h32.2; omega) hme hk hm45 hd h127.2.1 h127.2.2.1 | exact pm_0 (by have := sv_nn (ite_r h45 c48); have := h32.2; omega) hme hk hd h127.2.2.1)⟩⟩, by rw [htS]; exact hP9, va_K.moved hW.alike hK9, hD9⟩, hS.F htS⟩) hS.2.2 dX4_print_134
            · have hk486 := mor_k (by decide) hmo c78 hN486 (by decide)
              refine lv_aload_n hx hb dX4_print_81 rfl (lv_at hl 0 rfl) ?_
              refine va_get (D := (dC, dI)) (ci := 4) (v := .ref m8) (C := RX4) (T := TX4) (N := 12) hx hb hts hinX4 hown hK hP 0 rfl rfl 8 (by decide) (hts (.fieldLink RX4 19 "NumberContentsModel" "out" "[I") (by decide +kernel)) (fun _ h9 => h9) rfl dX4_print_82 ?_
              refine lv_aload_n hx hb dX4_print_85 rfl (lv_at hl 0 rfl) ?_
              refine va_get (D := (dC, dI)) (ci := 4) (v := .int (nI (1 + k))) (C := RX4) (T := TX4) (N := 12) hx hb hts hinX4 hown hK hP 0 rfl rfl 4 (by decide) (hts (.fieldLink RX4 75 "NumberContentsModel" "outMany" "I") (by decide +kernel)) (fun _ h9 => h9) rfl dX4_print_86 ?_
              refine lv_bipush (v := (nI 48)) hx hb dX4_print_89 (by decide) ?_
              refine lv_aload_n hx hb dX4_print_91 rfl (lv_at hl 0 rfl) ?_
              refine lv_bipush (v := (nI 10)) hx hb dX4_print_92 (by decide) ?_
              have hPc := hP.sub (ws' := [(mx, .inr (4, [.int 0, .int (nI n), .int (nI dn), .int (nI bn), .int (nI (1 + k)), .ref m5, .ref m6, .ref m7, .ref m8, .ref m9, .ref m10, .ref m11])), (m6, .inl (cI, 210, .inl (fun j => nI (w2 j))))]) [0, 2] rfl
              have hKc := hK.sub (tys' := [(cI, .int)]) [0] rfl
              have hDc := hD.sub (ws' := [(mx, .inr (4, [.int 0, .int (nI n), .int (nI dn), .int (nI bn), .int (nI (1 + k)), .ref m5, .ref m6, .ref m7, .ref m8, .ref m9, .ref m10, .ref m11])), (m6, .inl (cI, 210, .inl (fun j => nI (w2 j))))]) [0, 2] (by decide) rfl
              have hFc := va_free (wc := [(mx, .inr (4, [.int 0, .int (nI n), .int (nI dn), .int (nI bn), .int (nI (1 + k)), .ref m5, .ref m6, .ref m7, .ref m8, .ref m9, .ref m10, .ref m11])), (m6, .inl (cI, 210, .inl (fun j => nI (w2 j))))]) hD hS hA [0, 2] rfl
              refine va_calli (va_runV (As := [.int (nI 10)]) (rest := [.int (nI 48), .int (nI (1 + k)), .ref m8]) ⟨hx, hb, hml, hown, hts⟩ (c_X4_divided l dC dI cI mx m5 m6 m7 m8 m9 m10 m11 n dn bn (1 + k) 0 w2 10 H.size hw2 (by decide)) (cwV 1 hts gX4_print_X4_divided rfl rfl rfl (by decide +kernel) ⟨Nat.le_of_ble_eq_true rfl, Nat.le_of_ble_eq_true rfl⟩) ⟨fun a U g mk q => by obtain ⟨q0, q1, qP, qK, qD⟩ := q; exact ⟨q0, q1, qP, va_K.moved (u := U) (U := U.calling g mk a) (Vm.Alike.refl U.vm) qK, qD⟩, va_recv hKc hPc (ci := 4) (q0 := 0) rfl rfl, fun U hU hW => ⟨rfl, by rw [hU], by rw [hU]; exact hPc, va_K.moved hW.alike hKc, hDc.weaken (fun _ _ _ _ => trivial)⟩⟩ rfl rfl hl.1 rfl (lv_room (Nat.le_of_ble_eq_true rfl)) dX4_print_94 ⟨Nat.le_of_ble_eq_true rfl, Nat.le_of_ble_eq_true rfl⟩) hS (fun q _ h => hFc q h) hFc (fun r94 uS tS H1 locs htS hvm h94 hB hzS hkS hS => ?_)
              obtain ⟨g3_94, rfl⟩ : ∃ z, z = uS := ⟨_, rfl⟩
              obtain ⟨hP1, hK1, hD1⟩ := hB
              rw [htS] at hP1
              have hK1 := va_K.moved hvm.symm hK1
              try dsimp only at h94
              obtain ⟨hP, hD⟩ := va_join (wr := [(m5, .inl (cI, 40, .inl (fun j => nI (z j)))), (m8, .inl (cI, 500, .inl (fun j => nI (u2 j)))), (m9, .inl (cB, 8000, .inl (fun j => sb_b (g j))))]) (w1 := [(mx, .inr (4, [.int 0, .int (nI n), .int (nI dn), .int (nI bn), .int (nI (1 + k)), .ref m5, .ref m6, .ref m7, .ref m8, .ref m9, .ref m10, .ref m11])), (m6, .inl (cI, 210, .inl (fun j => nI (g3_94 j))))]) hP hD [0, 2] [1, 3, 4] rfl rfl (by decide) (by decide) hkS hFc hP1 hD1
              generalize H1 = H at hP hS ⊢
              have hP : va_P (dC, dI) vwCl [(m5, .inl (cI, 40, .inl (fun j => nI (z j)))), (m8, .inl (cI, 500, .inl (fun j => nI (u2 j)))), (m9, .inl (cB, 8000, .inl (fun j => sb_b (g j)))), (mx, .inr (4, [.int 0, .int (nI n), .int (nI dn), .int (nI bn), .int (nI (1 + k)), .ref m5, .ref m6, .ref m7, .ref m8, .ref m9, .ref m10, .ref m11])), (m6, .inl (cI, 210, .inl (fun j => nI (g3_94 j))))] H := hP
              have hD : va_D A [(m5, .inl (cI, 40, .inl (fun j => nI (z j)))), (m8, .inl (cI, 500, .inl (fun j => nI (u2 j)))), (m9, .inl (cB, 8000, .inl (fun j => sb_b (g j)))), (mx, .inr (4, [.int 0, .int (nI n), .int (nI dn), .int (nI bn), .int (nI (1 + k)), .ref m5, .ref m6, .ref m7, .ref m8, .ref m9, .ref m10, .ref m11])), (m6, .inl (cI, 210, .inl (fun j => nI (g3_94 j))))] := hD
              obtain ⟨rs, rfl, hr2, hr3, hr4⟩ := h94
              refine lv_iadd hx hb dX4_print_97 ?_
              refine lv_topi (fun x97 e97 => ?_)
              obtain rfl : x97 = nI (48 + rs) := e97.trans (nI_add _ _)
              refine va_iast hx hb hK hP hD hS 1 0 rfl rfl (vp_in_nI (by omega) (by omega)) dX4_print_98 (fun H locs hP hD hS => ?_)
              have hP : va_P (dC, dI) vwCl [(m5, .inl (cI, 40, .inl (fun j => nI (z j)))), (m8, .inl (cI, 500, .inl (upd (fun j => nI (u2 j)) (nI (1 + k)).toNatClampNeg (nI (48 + rs))))), (m9, .inl (cB, 8000, .inl (fun j => sb_b (g j)))), (mx, .inr (4, [.int 0, .int (nI n), .int (nI dn), .int (nI bn), .int (nI (1 + k)), .ref m5, .ref m6, .ref m7, .ref m8, .ref m9, .ref m10, .ref m11])), (m6, .inl (cI, 210, .inl (fun j => nI (g3_94 j))))] H := hP
              have hD : va_D A [(m5, .inl (cI, 40, .inl (fun j => nI (z j)))), (m8, .inl (cI, 500, .inl (upd (fun j => nI (u2 j)) (nI (1 + k)).toNatClampNeg (nI (48 + rs))))), (m9, .inl (cB, 8000, .inl (fun j => sb_b (g j)))), (mx, .inr (4, [.int 0, .int (nI n), .int (nI dn), .int (nI bn), .int (nI (1 + k)), .ref m5, .ref m6, .ref m7, .ref m8, .ref m9, .ref m10, .ref m11])), (m6, .inl (cI, 210, .inl (fun j => nI (g3_94 j))))] := hD
              obtain ⟨f98, e98⟩ : ∃ zz9 : Nat → Int32, zz9 = upd (fun j => nI (u2 j)) (nI (1 + k)).toNatClampNeg (nI (48 + rs)) := ⟨_, rfl⟩
              rw [← e98] at hP hD
              obtain rfl : f98 = fun j => nI (va_up u2 (1 + k) (48 + rs) j) := e98.trans (upg (by omega))
              refine lv_aload_n hx hb dX4_print_99 rfl (lv_at hl 0 rfl) ?_
              refine lv_dup hx hb dX4_print_100 rfl ?_
              refine va_get (D := (dC, dI)) (ci := 4) (v := .int (nI (1 + k))) (C := RX4) (T := TX4) (N := 12) hx hb hts hinX4 hown hK hP 3 rfl rfl 4 (by decide) (hts (.fieldLink RX4 75 "NumberContentsModel" "outMany" "I") (by decide +kernel)) (fun _ h9 => h9) rfl dX4_print_101 ?_
              refine lv_iconst (v := 1) hx hb dX4_print_104 (by decide) ?_
              refine lv_iadd hx hb dX4_print_105 ?_
              refine lv_topi (fun x105 e105 => ?_)
              obtain rfl : x105 = nI (1 + k + 1) := e105.trans (nI_1 _)
              refine va_put (D := (dC, dI)) (ci := 4) (v := .int (nI (1 + k + 1))) (ty := .int) (C := RX4) (T := TX4) (N := 12) hx hb hts hinX4 tyX4 tyX4_ok nmX4 hown hK hP hD hS 3 rfl rfl 4 (by decide) (hts (.fieldLink RX4 75 "NumberContentsModel" "outMany" "I") (by decide +kernel)) (fun _ h9 => h9) rfl (by decide +kernel) rfl rfl (Nat.le_of_ble_eq_true rfl) dX4_print_106 (fun H locs hP hD hS => ?_)
              have hP : va_P (dC, dI) vwCl [(m5, .inl (cI, 40, .inl (fun j => nI (z j)))), (m8, .inl (cI, 500, .inl (fun j => nI (va_up u2 (1 + k) (48 + rs) j)))), (m9, .inl (cB, 8000, .inl (fun j => sb_b (g j)))), (mx, .inr (4, [.int 0, .int (nI n), .int (nI dn), .int (nI bn), .int (nI (1 + k + 1)), .ref m5, .ref m6, .ref m7, .ref m8, .ref m9, .ref m10, .ref m11])), (m6, .inl (cI, 210, .inl (fun j => nI (g3_94 j))))] H := hP
              have hD : va_D A [(m5, .inl (cI, 40, .inl (fun j => nI (z j)))), (m8, .inl (cI, 500, .inl (fun j => nI (va_up u2 (1 + k) (48 + rs) j)))), (m9, .inl (cB, 8000, .inl (fun j => sb_b (g j)))), (mx, .inr (4, [.int 0, .int (nI n), .int (nI dn), .int (nI bn), .int (nI (1 + k + 1)), .ref m5, .ref m6, .ref m7, .ref m8, .ref m9, .ref m10, .ref m11])), (m6, .inl (cI, 210, .inl (fun j => nI (g3_94 j))))] := hD
              refine lv_aload_n hx hb dX4_print_109 rfl (lv_at hl 0 rfl) ?_
              have hPc := hP.sub (ws' := [(mx, .inr (4, [.int 0, .int (nI n), .int (nI dn), .int (nI bn), .int (nI (1 + k + 1)), .ref m5, .ref m6, .ref m7, .ref m8, .ref m9, .ref m10, .ref m11])), (m6, .inl (cI, 210, .inl (fun j => nI (g3_94 j))))]) [3, 4] rfl
              have hKc := hK.sub (tys' := [(cI, .int)]) [0] rfl
              refine vp_callSi (W.runV (As := []) (rest := []) ⟨hx, hb, hml, hown, hts⟩ (c_X4_isNone l dC dI cI mx m5 m6 m7 m8 m9 m10 m11 n dn bn (1 + k + 1) 0 g3_94 hr4) (cwV 0 hts gX4_print_X4_isNone rfl rfl rfl (by decide +kernel) ⟨Nat.le_of_ble_eq_true rfl, Nat.le_of_ble_eq_true rfl⟩) ⟨fun a U g mk q => by obtain ⟨q0, qP, qK⟩ := q; exact ⟨q0, qP, va_K.moved (u := U) (U := U.calling g mk a) (Vm.Alike.refl U.vm) qK⟩, va_recv hK hP (ci := 4) (q0 := 3) rfl rfl, fun U hU hW => ⟨rfl, by rw [hU]; exact hPc, va_K.moved hW.alike hKc⟩⟩ rfl rfl hl.1 rfl (lv_room (Nat.le_of_ble_eq_true rfl)) dX4_print_110 ⟨Nat.le_of_ble_eq_true rfl, Nat.le_of_ble_eq_true rfl⟩) (fun r110 h110 => ?_)
              refine lv_if_ne (tgt := 120) hx hb dX4_print_113 (by decide) (fun c113 => ?_) (fun c113 => ?_)
              · refine lv_iconst (v := 0) hx hb dX4_print_120 (by decide) ?_
                refine lv_istore_n (lv' := [(3, .int 0), (0, .ref mx), (1, .int (nI a)), (2, .int (nI 1))]) hx hb dX4_print_121 rfl hl (by decide) rfl (fun ls hl => ?_)
                refine lv_goto (tgt := 77) hx hb dX4_print_122 (by decide) ?_
                have hdq := dq_step (by decide) hv hr3 hr2
                have hms := mor_step (by decide) hmo c78 hdq.2 h110
                exact ih77 (k + 1) 0 g3_94 (va_up u2 (1 + k) (48 + rs)) (by omega) (by omega) hr4 hdq.2 (up_lt hu2 (by omega)) (pm_d hd hdq.1) (hms.2 c113) ((va_up_ne _ _ (by omega)).trans hm45) _ _ _ (hP.sub [3, 0, 4, 1, 2] rfl) (hD.sub [3, 0, 4, 1, 2] (by decide) rfl) hS (lv_sub hl [1, 2, 3, 0] rfl)
              · refine lv_iconst (v := 1) hx hb dX4_print_116 (by decide) ?_
                refine lv_goto (tgt := 121) hx hb dX4_print_117 (by decide) ?_
                refine lv_istore_n (lv' := [(3, .int 1), (0, .ref mx), (1, .int (nI a)), (2, .int (nI 1))]) hx hb dX4_print_121 rfl hl (by decide) rfl (fun ls hl => ?_)
                refine lv_goto (tgt := 77) hx hb dX4_print_122 (by decide) ?_
                have hdq := dq_step (by decide) hv hr3 hr2
                have hms := mor_step (by decide) hmo c78 hdq.2 h110
                exact ih77 (k + 1) 1 g3_94 (va_up u2 (1 + k) (48 + rs)) (by omega) (by omega) hr4 hdq.2 (up_lt hu2 (by omega)) (pm_d hd hdq.1) (hms.1 c113) ((va_up_ne _ _ (by omega)).trans hm45) _ _ _ (hP.sub [3, 0, 4, 1, 2] rfl) (hD.sub [3, 0, 4, 1, 2] (by decide) rfl) hS (lv_sub hl [1, 2, 3, 0] rfl)
        exact LP77 _ 0 1 g3_54 (va_up wr 0 45) (Nat.lt_succ_self _) (by omega) hN70.1 (by rw [Nat.pow_zero, Nat.div_one]; exact hN70.2) (up_lt hwr (by decide)) (fun j h => absurd h (by omega)) (Or.inl ⟨rfl, Or.inl rfl⟩) (by rw [va_up_self]) _ _ _ (hP.sub [3, 1, 4, 0, 2] rfl) (hD.sub [3, 1, 4, 0, 2] (by decide) rfl) hS (lv_sub hl [2, 3, 1, 0] rfl)
    · first | exact absurd c21 (by decide) | exact (c21 (by decide)).elim
  · refine lv_iconst (v := 1) hx hb dX4_print_9 (by decide) ?_
    refine lv_goto (tgt := 14) hx hb dX4_print_10 (by decide) ?_
    refine va_put (D := (dC, dI)) (ci := 4) (v := .int 1) (ty := .int) (C := RX4) (T := TX4) (N := 12) hx hb hts hinX4 tyX4 tyX4_ok nmX4 hown hK hP hD hS 0 rfl rfl 0 (by decide) (hts (.fieldLink RX4 32 "NumberContentsModel" "thrown" "I") (by decide +kernel)) (fun _ h9 => h9) rfl (by decide +kernel) rfl rfl (Nat.le_of_ble_eq_true rfl) dX4_print_14 (fun H locs hP hD hS => ?_)
    have hP : va_P (dC, dI) vwCl [(mx, .inr (4, [.int 1, .int (nI n), .int (nI dn), .int (nI bn), .int (nI wn), .ref m5, .ref m6, .ref m7, .ref m8, .ref m9, .ref m10, .ref m11])), (m5, .inl (cI, 40, .inl (fun j => nI (z j)))), (m6, .inl (cI, 210, .inl (fun j => nI (rw j)))), (m8, .inl (cI, 500, .inl (fun j => nI (wr j)))), (m9, .inl (cB, 8000, .inl (fun j => sb_b (g j))))] H := hP
    have hD : va_D A [(mx, .inr (4, [.int 1, .int (nI n), .int (nI dn), .int (nI bn), .int (nI wn), .ref m5, .ref m6, .ref m7, .ref m8, .ref m9, .ref m10, .ref m11])), (m5, .inl (cI, 40, .inl (fun j => nI (z j)))), (m6, .inl (cI, 210, .inl (fun j => nI (rw j)))), (m8, .inl (cI, 500, .inl (fun j => nI (wr j)))), (m9, .inl (cB, 8000, .inl (fun j => sb_b (g j))))] := hD
    refine lv_aload_n hx hb dX4_print_17 rfl (lv_at hl 0 rfl) ?_
    refine va_get (D := (dC, dI)) (ci := 4) (v := .int 1) (C := RX4) (T := TX4) (N := 12) hx hb hts hinX4 hown hK hP 0 rfl rfl 0 (by decide) (hts (.fieldLink RX4 32 "NumberContentsModel" "thrown" "I") (by decide +kernel)) (fun _ h9 => h9) rfl dX4_print_18 ?_
    refine lv_if_le (tgt := 26) hx hb dX4_print_21 (by decide) (fun c21 => ?_) (fun c21 => ?_)
    · first | exact absurd c21 (by decide) | exact (c21 (by decide)).elim
    · refine lv_iconst (v := 0) hx hb dX4_print_24 (by decide) ?_
      have hP9 := hP.sub (ws' := [(mx, .inr (4, [.int 1, .int (nI n), .int (nI dn), .int (nI bn), .int (nI wn), .ref m5, .ref m6, .ref m7, .ref m8, .ref m9, .ref m10, .ref m11])), (m5, .inl (cI, 40, .inl (fun j => nI (z j)))), (m6, .inl (cI, 210, .inl (fun j => nI (rw j)))), (m8, .inl (cI, 500, .inl (fun j => nI (wr j)))), (m9, .inl (cB, 8000, .inl (fun j => sb_b (g j))))]) [0, 1, 2, 3, 4] rfl
      have hD9 := hD.sub (ws' := [(mx, .inr (4, [.int 1, .int (nI n), .int (nI dn), .int (nI bn), .int (nI wn), .ref m5, .ref m6, .ref m7, .ref m8, .ref m9, .ref m10, .ref m11])), (m5, .inl (cI, 40, .inl (fun j => nI (z j)))), (m6, .inl (cI, 210, .inl (fun j => nI (rw j)))), (m8, .inl (cI, 500, .inl (fun j => nI (wr j)))), (m9, .inl (cB, 8000, .inl (fun j => sb_b (g j))))]) [0, 1, 2, 3, 4] (by decide) rfl
      have hK9 := hK.sub (tys' := [(cI, .int), (cB, .byte)]) [0, 1] rfl
      exact W.iret (v := 0) hx hb hr (fun tS htS hW => ⟨⟨0, (1, wn, wr, rw), rfl, ⟨hrw, hwr, Or.inl ⟨rfl, rfl, rfl, ite_r h3 c6⟩⟩, by rw [htS]; exact hP9, va_K.moved hW.alike hK9, hD9⟩, hS.F htS⟩) hS.2.2 dX4_print_25

