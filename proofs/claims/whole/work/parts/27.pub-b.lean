def dgood (v9 n9 : Int32) (v k : Nat) : Prop := v9 = nI v ∧ n9 = nI k ∧ 1 ≤ k ∧ k ≤ 9 ∧ v < 10 ^ k
theorem dg_n {x : Int32} {N : Nat} (hN : N < 100) (h1 : ¬ x < 1) (h2 : ¬ nI N < x) : ∃ k, 1 ≤ k ∧ k ≤ N ∧ x = nI k := by
  rw [Int32.lt_iff_toInt_lt, show (1 : Int32).toInt = 1 from by decide] at h1
  rw [Int32.lt_iff_toInt_lt, nI_toInt (by omega)] at h2
  refine ⟨x.toInt.toNat, by omega, by omega, ?_⟩
  apply Int32.toInt_inj.mp
  rw [nI_toInt (by omega)]
  omega
theorem dg_u {k i : Nat} (hi : i < k) (hk : k ≤ 9) : (i + 1 < k ∧ 10 ^ (k - 1 - i) / 10 = 10 ^ (k - 1 - (i + 1))) ∨ (i + 1 = k ∧ 10 ^ (k - 1 - i) / 10 = 0) := by
  rcases Nat.lt_or_ge (i + 1) k with h | h
  · refine Or.inl ⟨h, ?_⟩
    rw [show k - 1 - i = k - 1 - (i + 1) + 1 from by omega, Nat.pow_succ, Nat.mul_div_cancel _ (by decide)]
  · refine Or.inr ⟨by omega, ?_⟩
    rw [show k - 1 - i = 0 from by omega]
theorem dg_out {k i u : Nat} (hk : k ≤ 9) (hu : (i < k ∧ u = 10 ^ (k - 1 - i)) ∨ (i = k ∧ u = 0)) (c : nI u ≤ 0) : i = k := by
  rcases hu with ⟨h1, h2⟩ | ⟨h1, _⟩
  · exfalso
    have h3 := Nat.pow_pos (n := k - 1 - i) (show 0 < 10 by decide)
    have h4 := p10_lt (show k - 1 - i ≤ 9 by omega)
    rw [← h2] at h3 h4
    have := (nI_le0 (by omega)).mp c
    omega
  · exact h1
theorem by_in {k i : Nat} {s : Int32} (h : s = nI (8 * (k - i)) - 8) (c : ¬ s < 0) : i < k := by
  rcases Nat.lt_or_ge i k with h1 | h1
  · exact h1
  · rw [h, show k - i = 0 from by omega] at c
    exact absurd (by decide) c
theorem by_out {k i : Nat} {s : Int32} (hk : k < 1000) (hi : i ≤ k) (h : s = nI (8 * (k - i)) - 8) (c : s < 0) : i = k := by
  rcases Nat.lt_or_ge i k with h1 | h1
  · rw [h, show (8 : Int32) = nI 8 from rfl, pk_sub (by omega)] at c
    exact absurd c (nI_pos (by omega))
  · omega
def byt (v : Int32) (s : Nat) : Nat := (v.toInt / ((2 ^ s : Nat) : Int) % 256).toNat
theorem byt_lt (v : Int32) (s : Nat) : byt v s < 256 := by unfold byt; omega
theorem low8 (x : Int32) : x.toBitVec.toNat % 2 ^ 8 = (x.toInt % 256).toNat := by
  have h1 : x.toInt = x.toBitVec.toInt := rfl
  rw [h1, BitVec.toInt_eq_toNat_cond]
  have h2 := x.toBitVec.isLt
  split <;> omega
theorem byt_eq (v : Int32) {s : Nat} (hs : s < 32) : (v >>> (nI s &&& 31)).toBitVec.toNat % 2 ^ 8 = byt v s := by
  rw [low8, pk_shr v _ s (s_l s hs), Int.shiftRight_eq_div_pow]
  rfl

set_option maxHeartbeats 4000000 in
set_option maxRecDepth 100000 in
theorem c_X3_digits (l : Launch) (hl9 : l.stackTraces = false) (dC : Nat → ClassId) (dI : Nat → Nat → Nat) (cI : ClassId) (ax ak ad ab ao aw : Nat) (d1 dn : Nat) (dg : Nat → Nat) (v9 n9 : Int32) (sz : Nat) (hdn : dn ≤ 480) (hdg : ∀ j, dg j < 10) : vx_Met l yX3_digits wsX3_digits ({ frames := 6, cells := 1, slots := 6, locals := 85 } : Room) (va_Pc [.ref ax, .int v9, .int n9] (fun U => U.heap.size = sz ∧ va_P (dC, dI) vwCl [(ax, .inr (3, [.ref ak, .ref ad, .ref ab, .ref ao, .ref aw])), (ad, .inr (1, [.ref d1, .int (nI dn)])), (d1, .inl (cI, 480, .inl (fun j => nI (dg j))))] U.heap ∧ va_K (dC, dI) vwCl [(cI, .int)] U ∧ va_D (fun _ => True) [(ax, .inr (3, [.ref ak, .ref ad, .ref ab, .ref ao, .ref aw])), (ad, .inr (1, [.ref d1, .int (nI dn)])), (d1, .inl (cI, 480, .inl (fun j => nI (dg j))))] ∧ tz (va_A [(ax, .inr (3, [.ref ak, .ref ad, .ref ab, .ref ao, .ref aw])), (ad, .inr (1, [.ref d1, .int (nI dn)])), (d1, .inl (cI, 480, .inl (fun j => nI (dg j))))] sz) U U.heap ∧ tw U)) (va_Qi (fun (r : Int32) (uS : Nat × (Nat → Nat)) => match uS with | (dn3, dg3) => ∃ vV kK, dgood v9 n9 vV kK ∧ dn + kK ≤ 480 ∧ dn3 = dn + kK ∧ r = nI (dn + kK) ∧ (∀ j, dg3 j < 10) ∧ (∀ j, j < dn → dg3 j = dg j) ∧ (∀ j, j < kK → dg3 (dn + j) = vV / 10 ^ (kK - 1 - j) % 10)) (fun (uS : Nat × (Nat → Nat)) (tS : State) => match uS with | (dn3, dg3) => va_P (dC, dI) vwCl [(ax, .inr (3, [.ref ak, .ref ad, .ref ab, .ref ao, .ref aw])), (ad, .inr (1, [.ref d1, .int (nI dn3)])), (d1, .inl (cI, 480, .inl (fun j => nI (dg3 j))))] tS.heap ∧ va_K (dC, dI) vwCl [(cI, .int)] tS ∧ va_D (va_A [(ax, .inr (3, [.ref ak, .ref ad, .ref ab, .ref ao, .ref aw])), (ad, .inr (1, [.ref d1, .int (nI dn)])), (d1, .inl (cI, 480, .inl (fun j => nI (dg j))))] sz) [(ax, .inr (3, [.ref ak, .ref ad, .ref ab, .ref ao, .ref aw])), (ad, .inr (1, [.ref d1, .int (nI dn3)])), (d1, .inl (cI, 480, .inl (fun j => nI (dg3 j))))]) (va_A [(ax, .inr (3, [.ref ak, .ref ad, .ref ab, .ref ao, .ref aw])), (ad, .inr (1, [.ref d1, .int (nI dn)])), (d1, .inl (cI, 480, .inl (fun j => nI (dg j))))] sz)) (vx_X (fun (_ : Unit) => True) (fun (E : String) (_ : Unit) (tS : State) => ((E = eIA ∧ ¬ ∃ vV kK, dgood v9 n9 vV kK) ∨ (E = eIS ∧ ∃ vV kK, dgood v9 n9 vV kK ∧ 480 < dn + kK)) ∧ va_P (dC, dI) vwCl [(ax, .inr (3, [.ref ak, .ref ad, .ref ab, .ref ao, .ref aw])), (ad, .inr (1, [.ref d1, .int (nI dn)])), (d1, .inl (cI, 480, .inl (fun j => nI (dg j))))] tS.heap ∧ va_K (dC, dI) vwCl [(cI, .int)] tS ∧ va_D (va_A [(ax, .inr (3, [.ref ak, .ref ad, .ref ab, .ref ao, .ref aw])), (ad, .inr (1, [.ref d1, .int (nI dn)])), (d1, .inl (cI, 480, .inl (fun j => nI (dg j))))] sz) [(ax, .inr (3, [.ref ak, .ref ad, .ref ab, .ref ao, .ref aw])), (ad, .inr (1, [.ref d1, .int (nI dn)])), (d1, .inl (cI, 480, .inl (fun j => nI (dg j))))]) (va_A [(ax, .inr (3, [.ref ak, .ref ad, .ref ab, .ref ao, .ref aw])), (ad, .inr (1, [.ref d1, .int (nI dn)])), (d1, .inl (cI, 480, .inl (fun j => nI (dg j))))] sz)) 1 6 (va_A [(ax, .inr (3, [.ref ak, .ref ad, .ref ab, .ref ao, .ref aw])), (ad, .inr (1, [.ref d1, .int (nI dn)])), (d1, .inl (cI, 480, .inl (fun j => nI (dg j))))] sz) := by
  refine vx_ofW (cc := cX3_digits) (maxL := 4) (ret := (some .int)) (by decide) rfl ?_
  intro p e s m args below meth c s₁ B hml hno hv
  obtain ⟨rfl, hsz, hP, hK, hD0, hZ, hT⟩ := hv
  have hx := B.exec
  have hb := B.bytes
  have hr := B.returns
  have hts := atoms_spec (ws := wsX3_digits) B.pre
  have hown : s.vm.findClass RX3 = some m.cls := findClass_of_methodNamed B.named
  have hlocks := B.notSynchronized
  subst hsz
  have hD := hD0.self (sz := s.heap.size)
  generalize hAe : va_A [(ax, .inr (3, [.ref ak, .ref ad, .ref ab, .ref ao, .ref aw])), (ad, .inr (1, [.ref d1, .int (nI dn)])), (d1, .inl (cI, 480, .inl (fun j => nI (dg j))))] s.heap.size = A at hD hZ ⊢
  have hA : ∀ q : Nat, s.heap.size ≤ q → A q := fun q h => by rw [← hAe]; exact Or.inr h
  have hS : va_S A s.heap s.heap [] := va_S.rf
  have hinX1 : ∀ w ∈ wsX10, w ∈ wsX3_digits := by decide +kernel
  have hinX3 : ∀ w ∈ wsX30, w ∈ wsX3_digits := by decide +kernel
  have hl := lv_entry ([.ref ax, .int v9, .int n9]) (n := 4) (Nat.le_of_ble_eq_true rfl)
  rw [lg_entry_eq]
  generalize (lg_sl ([.ref ax, .int v9, .int n9]) ++ List.replicate (4 - (lg_sl ([.ref ax, .int v9, .int n9])).length) Slot.unset).toArray = ls at hl ⊢
  have hl : lv_has ls 4 [(0, .ref ax), (1, .int v9), (2, .int n9)] := hl
  refine lv_iload_n hx hb dX3_digits_0 rfl (lv_at hl 2 rfl) ?_
  refine lv_iconst (v := 1) hx hb dX3_digits_1 (by decide) ?_
  refine lv_icmp_lt (tgt := 23) hx hb dX3_digits_2 (by decide) (fun c2 => ?_) (fun c2 => ?_)
  · have hat : ∀ w ∈ vx_atS RX3 46 eIA eNs, w.before _ s = true := vx_hat (B := twL) (fun w hw => hts w ((by decide +kernel : ∀ w ∈ (vx_atS RX3 46 eIA eNs).filter goodWord, w ∈ wsX3_digits) w hw)) (by decide +kernel) (fun w hw => hT.use hw)
    obtain ⟨sa, hsa⟩ := hT.2 (44, "not 1 to 9 digits of a number from 0 on") (by decide +kernel)
    have hP9 := hP.sub (ws' := [(ax, .inr (3, [.ref ak, .ref ad, .ref ab, .ref ao, .ref aw])), (ad, .inr (1, [.ref d1, .int (nI dn)])), (d1, .inl (cI, 480, .inl (fun j => nI (dg j))))]) [0, 1, 2] rfl
    have hD9 := hD.sub (ws' := [(ax, .inr (3, [.ref ak, .ref ad, .ref ab, .ref ao, .ref aw])), (ad, .inr (1, [.ref d1, .int (nI dn)])), (d1, .inl (cI, 480, .inl (fun j => nI (dg j))))]) [0, 1, 2] (by decide) rfl
    have hK9 := hK.sub (tys' := [(cI, .int)]) [0] rfl
    exact vx_throwS (mc := 1) (ms := 6) hx hb hl9 hown (by decide +kernel) (by decide +kernel) (hts (.classLink RX3 42 "java/lang/IllegalArgumentException") (by decide +kernel)) (hts (.initialized "java/lang/IllegalArgumentException") (by decide +kernel)) hsa hat (by decide +kernel) hZ.1 hZ.2 hS (hl.1.trans hml.symm) dX3_digits_23 dX3_digits_26 dX3_digits_27 dX3_digits_29 dX3_digits_32 (fun x h => (hno x h).elim) (Nat.le_of_ble_eq_true rfl) (Nat.le_of_ble_eq_true rfl) (Nat.le_of_ble_eq_true rfl) (Nat.le_of_ble_eq_true rfl) hlocks (fun tS haS hzT hkT => ⟨(), trivial, ⟨(by first | exact Or.inl ⟨rfl, fun ⟨v2, k2, e1, e2, e3, e4, e5⟩ => c20 (by have hp2 := p10_lt e4; have ev : v = v2 := (nI_eq (by omega) (by omega)).mp e1; have ek : k = k2 := (nI_eq (by omega) (by omega)).mp e2; rw [ev, ek]; exact nI_lt e5 (by omega))⟩ | exact Or.inl ⟨rfl, fun ⟨v2, k2, e1, e2, e3, e4, e5⟩ => nI_pos (n := v2) (by have := p10_lt e4; omega) (e1 ▸ c12)⟩ | exact Or.inl ⟨rfl, fun ⟨v2, k2, e1, e2, e3, e4, e5⟩ => nI_nlt (a := 9) (b := k2) e4 (by omega) (e2 ▸ c8)⟩ | exact Or.inl ⟨rfl, fun ⟨v2, k2, e1, e2, e3, e4, e5⟩ => nI_lt1 (k := k2) e3 (by omega) (e2 ▸ c2)⟩), th_P hP9 hkT, va_K.moved haS hK9, hD9⟩, th_F hS hzT hkT⟩) hS.2.2 (by omega) (by omega)
  · refine lv_iload_n hx hb dX3_digits_5 rfl (lv_at hl 2 rfl) ?_
    refine lv_bipush (v := (nI 9)) hx hb dX3_digits_6 (by decide) ?_
    refine lv_icmp_gt (tgt := 23) hx hb dX3_digits_8 (by decide) (fun c8 => ?_) (fun c8 => ?_)
    · have hat : ∀ w ∈ vx_atS RX3 46 eIA eNs, w.before _ s = true := vx_hat (B := twL) (fun w hw => hts w ((by decide +kernel : ∀ w ∈ (vx_atS RX3 46 eIA eNs).filter goodWord, w ∈ wsX3_digits) w hw)) (by decide +kernel) (fun w hw => hT.use hw)
      obtain ⟨sa, hsa⟩ := hT.2 (44, "not 1 to 9 digits of a number from 0 on") (by decide +kernel)
      have hP9 := hP.sub (ws' := [(ax, .inr (3, [.ref ak, .ref ad, .ref ab, .ref ao, .ref aw])), (ad, .inr (1, [.ref d1, .int (nI dn)])), (d1, .inl (cI, 480, .inl (fun j => nI (dg j))))]) [0, 1, 2] rfl
      have hD9 := hD.sub (ws' := [(ax, .inr (3, [.ref ak, .ref ad, .ref ab, .ref ao, .ref aw])), (ad, .inr (1, [.ref d1, .int (nI dn)])), (d1, .inl (cI, 480, .inl (fun j => nI (dg j))))]) [0, 1, 2] (by decide) rfl
      have hK9 := hK.sub (tys' := [(cI, .int)]) [0] rfl
      exact vx_throwS (mc := 1) (ms := 6) hx hb hl9 hown (by decide +kernel) (by decide +kernel) (hts (.classLink RX3 42 "java/lang/IllegalArgumentException") (by decide +kernel)) (hts (.initialized "java/lang/IllegalArgumentException") (by decide +kernel)) hsa hat (by decide +kernel) hZ.1 hZ.2 hS (hl.1.trans hml.symm) dX3_digits_23 dX3_digits_26 dX3_digits_27 dX3_digits_29 dX3_digits_32 (fun x h => (hno x h).elim) (Nat.le_of_ble_eq_true rfl) (Nat.le_of_ble_eq_true rfl) (Nat.le_of_ble_eq_true rfl) (Nat.le_of_ble_eq_true rfl) hlocks (fun tS haS hzT hkT => ⟨(), trivial, ⟨(by first | exact Or.inl ⟨rfl, fun ⟨v2, k2, e1, e2, e3, e4, e5⟩ => c20 (by have hp2 := p10_lt e4; have ev : v = v2 := (nI_eq (by omega) (by omega)).mp e1; have ek : k = k2 := (nI_eq (by omega) (by omega)).mp e2; rw [ev, ek]; exact nI_lt e5 (by omega))⟩ | exact Or.inl ⟨rfl, fun ⟨v2, k2, e1, e2, e3, e4, e5⟩ => nI_pos (n := v2) (by have := p10_lt e4; omega) (e1 ▸ c12)⟩ | exact Or.inl ⟨rfl, fun ⟨v2, k2, e1, e2, e3, e4, e5⟩ => nI_nlt (a := 9) (b := k2) e4 (by omega) (e2 ▸ c8)⟩ | exact Or.inl ⟨rfl, fun ⟨v2, k2, e1, e2, e3, e4, e5⟩ => nI_lt1 (k := k2) e3 (by omega) (e2 ▸ c2)⟩), th_P hP9 hkT, va_K.moved haS hK9, hD9⟩, th_F hS hzT hkT⟩) hS.2.2 (by omega) (by omega)
    · refine lv_iload_n hx hb dX3_digits_11 rfl (lv_at hl 1 rfl) ?_
      refine lv_if_lt (tgt := 23) hx hb dX3_digits_12 (by decide) (fun c12 => ?_) (fun c12 => ?_)
      · have hat : ∀ w ∈ vx_atS RX3 46 eIA eNs, w.before _ s = true := vx_hat (B := twL) (fun w hw => hts w ((by decide +kernel : ∀ w ∈ (vx_atS RX3 46 eIA eNs).filter goodWord, w ∈ wsX3_digits) w hw)) (by decide +kernel) (fun w hw => hT.use hw)
        obtain ⟨sa, hsa⟩ := hT.2 (44, "not 1 to 9 digits of a number from 0 on") (by decide +kernel)
        have hP9 := hP.sub (ws' := [(ax, .inr (3, [.ref ak, .ref ad, .ref ab, .ref ao, .ref aw])), (ad, .inr (1, [.ref d1, .int (nI dn)])), (d1, .inl (cI, 480, .inl (fun j => nI (dg j))))]) [0, 1, 2] rfl
        have hD9 := hD.sub (ws' := [(ax, .inr (3, [.ref ak, .ref ad, .ref ab, .ref ao, .ref aw])), (ad, .inr (1, [.ref d1, .int (nI dn)])), (d1, .inl (cI, 480, .inl (fun j => nI (dg j))))]) [0, 1, 2] (by decide) rfl
        have hK9 := hK.sub (tys' := [(cI, .int)]) [0] rfl
        exact vx_throwS (mc := 1) (ms := 6) hx hb hl9 hown (by decide +kernel) (by decide +kernel) (hts (.classLink RX3 42 "java/lang/IllegalArgumentException") (by decide +kernel)) (hts (.initialized "java/lang/IllegalArgumentException") (by decide +kernel)) hsa hat (by decide +kernel) hZ.1 hZ.2 hS (hl.1.trans hml.symm) dX3_digits_23 dX3_digits_26 dX3_digits_27 dX3_digits_29 dX3_digits_32 (fun x h => (hno x h).elim) (Nat.le_of_ble_eq_true rfl) (Nat.le_of_ble_eq_true rfl) (Nat.le_of_ble_eq_true rfl) (Nat.le_of_ble_eq_true rfl) hlocks (fun tS haS hzT hkT => ⟨(), trivial, ⟨(by first | exact Or.inl ⟨rfl, fun ⟨v2, k2, e1, e2, e3, e4, e5⟩ => c20 (by have hp2 := p10_lt e4; have ev : v = v2 := (nI_eq (by omega) (by omega)).mp e1; have ek : k = k2 := (nI_eq (by omega) (by omega)).mp e2; rw [ev, ek]; exact nI_lt e5 (by omega))⟩ | exact Or.inl ⟨rfl, fun ⟨v2, k2, e1, e2, e3, e4, e5⟩ => nI_pos (n := v2) (by have := p10_lt e4; omega) (e1 ▸ c12)⟩ | exact Or.inl ⟨rfl, fun ⟨v2, k2, e1, e2, e3, e4, e5⟩ => nI_nlt (a := 9) (b := k2) e4 (by omega) (e2 ▸ c8)⟩ | exact Or.inl ⟨rfl, fun ⟨v2, k2, e1, e2, e3, e4, e5⟩ => nI_lt1 (k := k2) e3 (by omega) (e2 ▸ c2)⟩), th_P hP9 hkT, va_K.moved haS hK9, hD9⟩, th_F hS hzT hkT⟩) hS.2.2 (by omega) (by omega)
      · obtain ⟨k, hk1, hk9, rfl⟩ := dg_n (by decide) c2 c8
        obtain ⟨v, hv31, rfl⟩ := nI_of c12
        have hpk := p10_lt hk9
        refine lv_iload_n hx hb dX3_digits_15 rfl (lv_at hl 1 rfl) ?_
        refine lv_iload_n hx hb dX3_digits_16 rfl (lv_at hl 2 rfl) ?_
        refine vp_callSi (W.runS (As := [.int (nI k)]) (rest := [.int (nI v)]) ⟨hx, hb, hml, hown, hts⟩ (c_X3_powerOfTen l dC dI k hk9) (va_cwS 1 hts gX3_digits_X3_powerOfTen rfl rfl rfl (by decide +kernel) ⟨Nat.le_of_ble_eq_true rfl, Nat.le_of_ble_eq_true rfl⟩) ⟨fun a U g mk q => q, fun U hU hW => ⟨rfl, trivial⟩⟩ rfl rfl hl.1 rfl (lv_room (Nat.le_of_ble_eq_true rfl)) dX3_digits_17 ⟨Nat.le_of_ble_eq_true rfl, Nat.le_of_ble_eq_true rfl⟩) (fun r17 h17 => ?_)
        obtain rfl : r17 = nI (10 ^ k) := h17
        refine lv_icmp_lt (tgt := 33) hx hb dX3_digits_20 (by decide) (fun c20 => ?_) (fun c20 => ?_)
        · have hvk : v < 10 ^ k := (nI_ltI (by omega) (by omega)).mp c20
          refine lv_aload_n hx hb dX3_digits_33 rfl (lv_at hl 0 rfl) ?_
          refine va_get (D := (dC, dI)) (ci := 3) (v := .ref ad) (C := RX3) (T := TX3) (N := 5) hx hb hts hinX3 hown hK hP 0 rfl rfl 1 (by decide) (hts (.fieldLink RX3 21 "NumberContents" "digitRow" "LNumberContents$Row;") (by decide +kernel)) (fun _ h9 => h9) rfl dX3_digits_34 ?_
          refine lv_iload_n hx hb dX3_digits_37 rfl (lv_at hl 2 rfl) ?_
          have hPc := hP.sub (ws' := [(ad, .inr (1, [.ref d1, .int (nI dn)])), (d1, .inl (cI, 480, .inl (fun j => nI (dg j))))]) [1, 2] rfl
          have hKc := hK.sub (tys' := [(cI, .int)]) [0] rfl
          refine vp_callSi (W.runV (As := [.int (nI k)]) (rest := []) ⟨hx, hb, hml, hown, hts⟩ (c_X1_hasRoom l dC dI cI ad d1 480 dn (fun j => nI (dg j)) (nI k) hdn (by omega)) (cwV 1 hts gX3_digits_X1_hasRoom rfl rfl rfl (by decide +kernel) ⟨Nat.le_of_ble_eq_true rfl, Nat.le_of_ble_eq_true rfl⟩) ⟨fun a U g mk q => by obtain ⟨q0, qP, qK⟩ := q; exact ⟨q0, qP, va_K.moved (u := U) (U := U.calling g mk a) (Vm.Alike.refl U.vm) qK⟩, va_recv hK hP (ci := 1) (q0 := 1) rfl rfl, fun U hU hW => ⟨rfl, by rw [hU]; exact hPc, va_K.moved hW.alike hKc⟩⟩ rfl rfl hl.1 rfl (lv_room (Nat.le_of_ble_eq_true rfl)) dX3_digits_38 ⟨Nat.le_of_ble_eq_true rfl, Nat.le_of_ble_eq_true rfl⟩) (fun r38 h38 => ?_)
          refine lv_if_ne (tgt := 54) hx hb dX3_digits_41 (by decide) (fun c41 => ?_) (fun c41 => ?_)
          · have hrm : dn + k ≤ 480 := Nat.le_of_not_lt (fun y => (ite_s h38 c41) (nI_lt (show 480 - dn < k by omega) (by omega)))
            refine lv_iload_n hx hb dX3_digits_54 rfl (lv_at hl 2 rfl) ?_
            refine lv_iconst (v := 1) hx hb dX3_digits_55 (by decide) ?_
            refine lv_isub hx hb dX3_digits_56 ?_
            refine lv_topi (fun x56 e56 => ?_)
            obtain rfl : x56 = nI (k - 1) := e56.trans (nI_m1 hk1)
            refine vp_callSi (W.runS (As := [.int (nI (k - 1))]) (rest := []) ⟨hx, hb, hml, hown, hts⟩ (c_X3_powerOfTen l dC dI (k - 1) (by omega)) (va_cwS 1 hts gX3_digits_X3_powerOfTen rfl rfl rfl (by decide +kernel) ⟨Nat.le_of_ble_eq_true rfl, Nat.le_of_ble_eq_true rfl⟩) ⟨fun a U g mk q => q, fun U hU hW => ⟨rfl, trivial⟩⟩ rfl rfl hl.1 rfl (lv_room (Nat.le_of_ble_eq_true rfl)) dX3_digits_57 ⟨Nat.le_of_ble_eq_true rfl, Nat.le_of_ble_eq_true rfl⟩) (fun r57 h57 => ?_)
            obtain rfl : r57 = nI (10 ^ (k - 1)) := h57
            refine lv_istore_n (lv' := [(3, .int (nI (10 ^ (k - 1)))), (0, .ref ax), (1, .int (nI v)), (2, .int (nI k))]) hx hb dX3_digits_60 rfl hl (by decide) rfl (fun ls hl => ?_)
            have LP61 : ∀ (n9 : Nat) (i u : Nat) (dg2 : Nat → Nat) (hm : (k - i) < n9) (hi : i ≤ k) (hu : (i < k ∧ u = 10 ^ (k - 1 - i)) ∨ (i = k ∧ u = 0)) (hd2 : ∀ j, dg2 j < 10) (hlo : ∀ j, j < dn → dg2 j = dg j) (hnew : ∀ j, j < i → dg2 (dn + j) = v / 10 ^ (k - 1 - j) % 10) (H : Heap) (locs : List Loc) (ls : Array Slot) (hP : va_P (dC, dI) vwCl [(ax, .inr (3, [.ref ak, .ref ad, .ref ab, .ref ao, .ref aw])), (ad, .inr (1, [.ref d1, .int (nI (dn + i))])), (d1, .inl (cI, 480, .inl (fun j => nI (dg2 j))))] H) (hD : va_D A [(ax, .inr (3, [.ref ak, .ref ad, .ref ab, .ref ao, .ref aw])), (ad, .inr (1, [.ref d1, .int (nI (dn + i))])), (d1, .inl (cI, 480, .inl (fun j => nI (dg2 j))))]) (hS : va_S A s.heap H locs) (hl : lv_has ls 4 [(0, .ref ax), (1, .int (nI v)), (2, .int (nI k)), (3, .int (nI u))]), W p l e (headSpec wsX3_digits ({ frames := 6, cells := 1, slots := 6, locals := 85 } : Room)).room s m ([.ref ax, .int (nI v), .int (nI k)]).toArray below meth c H locs 0 0 (vx_MQ below (va_Qi (fun (r : Int32) (uS : Nat × (Nat → Nat)) => match uS with | (dn3, dg3) => ∃ vV kK, dgood (nI v) (nI k) vV kK ∧ dn + kK ≤ 480 ∧ dn3 = dn + kK ∧ r = nI (dn + kK) ∧ (∀ j, dg3 j < 10) ∧ (∀ j, j < dn → dg3 j = dg j) ∧ (∀ j, j < kK → dg3 (dn + j) = vV / 10 ^ (kK - 1 - j) % 10)) (fun (uS : Nat × (Nat → Nat)) (tS : State) => match uS with | (dn3, dg3) => va_P (dC, dI) vwCl [(ax, .inr (3, [.ref ak, .ref ad, .ref ab, .ref ao, .ref aw])), (ad, .inr (1, [.ref d1, .int (nI dn3)])), (d1, .inl (cI, 480, .inl (fun j => nI (dg3 j))))] tS.heap ∧ va_K (dC, dI) vwCl [(cI, .int)] tS ∧ va_D A [(ax, .inr (3, [.ref ak, .ref ad, .ref ab, .ref ao, .ref aw])), (ad, .inr (1, [.ref d1, .int (nI dn3)])), (d1, .inl (cI, 480, .inl (fun j => nI (dg3 j))))]) A) (vx_X (fun (_ : Unit) => True) (fun (E : String) (_ : Unit) (tS : State) => ((E = eIA ∧ ¬ ∃ vV kK, dgood (nI v) (nI k) vV kK) ∨ (E = eIS ∧ ∃ vV kK, dgood (nI v) (nI k) vV kK ∧ 480 < dn + kK)) ∧ va_P (dC, dI) vwCl [(ax, .inr (3, [.ref ak, .ref ad, .ref ab, .ref ao, .ref aw])), (ad, .inr (1, [.ref d1, .int (nI dn)])), (d1, .inl (cI, 480, .inl (fun j => nI (dg j))))] tS.heap ∧ va_K (dC, dI) vwCl [(cI, .int)] tS ∧ va_D A [(ax, .inr (3, [.ref ak, .ref ad, .ref ab, .ref ao, .ref aw])), (ad, .inr (1, [.ref d1, .int (nI dn)])), (d1, .inl (cI, 480, .inl (fun j => nI (dg j))))]) A) ([.ref ax, .int (nI v), .int (nI k)]).toArray s 1 6 A) (F0 m 61 ls []) := by
              intro n9
              induction n9 with
              | zero => intro i u dg2 hm; exact absurd hm (Nat.not_lt_zero _)
              | succ n9 ih =>
                intro i u dg2 hm hi hu hd2 hlo hnew H locs ls hP hD hS hl
                have ih61 := ih
                refine lv_iload_n hx hb dX3_digits_61 rfl (lv_at hl 3 rfl) ?_
                refine lv_if_le (tgt := 86) hx hb dX3_digits_62 (by decide) (fun c62 => ?_) (fun c62 => ?_)
                · obtain rfl : i = k := dg_out hk9 hu c62
                  refine lv_aload_n hx hb dX3_digits_86 rfl (lv_at hl 0 rfl) ?_
                  refine va_get (D := (dC, dI)) (ci := 3) (v := .ref ad) (C := RX3) (T := TX3) (N := 5) hx hb hts hinX3 hown hK hP 0 rfl rfl 1 (by decide) (hts (.fieldLink RX3 21 "NumberContents" "digitRow" "LNumberContents$Row;") (by decide +kernel)) (fun _ h9 => h9) rfl dX3_digits_87 ?_
                  have hPc := hP.sub (ws' := [(ad, .inr (1, [.ref d1, .int (nI (dn + i))])), (d1, .inl (cI, 480, .inl (fun j => nI (dg2 j))))]) [1, 2] rfl
                  have hKc := hK.sub (tys' := [(cI, .int)]) [0] rfl
                  refine vp_callSi (W.runV (As := []) (rest := []) ⟨hx, hb, hml, hown, hts⟩ (c_X1_length l dC dI cI ad d1 480 (dn + i) (fun j => nI (dg2 j)) ) (cwV 0 hts gX3_digits_X1_length rfl rfl rfl (by decide +kernel) ⟨Nat.le_of_ble_eq_true rfl, Nat.le_of_ble_eq_true rfl⟩) ⟨fun a U g mk q => by obtain ⟨q0, qP, qK⟩ := q; exact ⟨q0, qP, va_K.moved (u := U) (U := U.calling g mk a) (Vm.Alike.refl U.vm) qK⟩, va_recv hK hP (ci := 1) (q0 := 1) rfl rfl, fun U hU hW => ⟨rfl, by rw [hU]; exact hPc, va_K.moved hW.alike hKc⟩⟩ rfl rfl hl.1 rfl (lv_room (Nat.le_of_ble_eq_true rfl)) dX3_digits_90 ⟨Nat.le_of_ble_eq_true rfl, Nat.le_of_ble_eq_true rfl⟩) (fun r90 h90 => ?_)
                  have hP9 := hP.sub (ws' := [(ax, .inr (3, [.ref ak, .ref ad, .ref ab, .ref ao, .ref aw])), (ad, .inr (1, [.ref d1, .int (nI (dn + i))])), (d1, .inl (cI, 480, .inl (fun j => nI (dg2 j))))]) [0, 1, 2] rfl
                  have hD9 := hD.sub (ws' := [(ax, .inr (3, [.ref ak, .ref ad, .ref ab, .ref ao, .ref aw])), (ad, .inr (1, [.ref d1, .int (nI (dn + i))])), (d1, .inl (cI, 480, .inl (fun j => nI (dg2 j))))]) [0, 1, 2] (by decide) rfl
                  have hK9 := hK.sub (tys' := [(cI, .int)]) [0] rfl
                  exact vx_ret (W.widen (k := 1) (n := 6) (by omega) (by omega) (W.iret (v := r90) hx hb hr (fun tS htS hW => ⟨⟨r90, ((dn + i), dg2), rfl, ⟨v, i, ⟨rfl, rfl, hk1, hk9, hvk⟩, hrm, rfl, h90, hd2, hlo, hnew⟩, by rw [htS]; exact hP9, va_K.moved hW.alike hK9, hD9⟩, hS.F htS⟩) hS.2.2 dX3_digits_93))
                · have hu0 : 0 < u := Nat.pos_of_ne_zero (fun y => c62 ((nI_le0 (by omega)).mpr (by omega)))
                  have hlt : i < k := by omega
                  have hue : u = 10 ^ (k - 1 - i) := by omega
                  have hul : u ≤ 1000000000 := by rw [hue]; exact p10_lt (by omega)
                  refine lv_aload_n hx hb dX3_digits_65 rfl (lv_at hl 0 rfl) ?_
                  refine va_get (D := (dC, dI)) (ci := 3) (v := .ref ad) (C := RX3) (T := TX3) (N := 5) hx hb hts hinX3 hown hK hP 0 rfl rfl 1 (by decide) (hts (.fieldLink RX3 21 "NumberContents" "digitRow" "LNumberContents$Row;") (by decide +kernel)) (fun _ h9 => h9) rfl dX3_digits_66 ?_
                  refine lv_iload_n hx hb dX3_digits_69 rfl (lv_at hl 1 rfl) ?_
                  refine lv_iload_n hx hb dX3_digits_70 rfl (lv_at hl 3 rfl) ?_
                  refine lv_idiv hx hb dX3_digits_71 (nI_ne0 hu0 (by omega)) ?_
                  refine lv_topi (fun x71 e71 => ?_)
                  obtain rfl : x71 = nI (v / u) := e71.trans (pk_div (by omega) hu0 (by omega))
                  refine lv_bipush (v := (nI 10)) hx hb dX3_digits_72 (by decide) ?_
                  refine lv_irem hx hb dX3_digits_74 (by decide) ?_
                  refine lv_topi (fun x74 e74 => ?_)
                  obtain rfl : x74 = nI (v / u % 10) := e74.trans (pk_rem (Nat.lt_of_le_of_lt (Nat.div_le_self _ _) (by omega)) (by decide) (by decide))
                  have hPc := hP.sub (ws' := [(ad, .inr (1, [.ref d1, .int (nI (dn + i))])), (d1, .inl (cI, 480, .inl (fun j => nI (dg2 j))))]) [1, 2] rfl
                  have hKc := hK.sub (tys' := [(cI, .int)]) [0] rfl
                  have hDc := hD.sub (ws' := [(ad, .inr (1, [.ref d1, .int (nI (dn + i))])), (d1, .inl (cI, 480, .inl (fun j => nI (dg2 j))))]) [1, 2] (by decide) rfl
                  have hFc := va_free (wc := [(ad, .inr (1, [.ref d1, .int (nI (dn + i))])), (d1, .inl (cI, 480, .inl (fun j => nI (dg2 j))))]) hD hS hA [1, 2] rfl
                  refine va_callv (va_runV (As := [.int (nI (v / u % 10))]) (rest := []) ⟨hx, hb, hml, hown, hts⟩ (c_X1_addg l dC dI cI ad d1 480 (dn + i) dg2 (v / u % 10) H.size (by omega) (by omega)) (cwV 1 hts gX3_digits_X1_add rfl rfl rfl (by decide +kernel) ⟨Nat.le_of_ble_eq_true rfl, Nat.le_of_ble_eq_true rfl⟩) ⟨fun a U g mk q => by obtain ⟨q0, q1, qP, qK, qD⟩ := q; exact ⟨q0, q1, qP, va_K.moved (u := U) (U := U.calling g mk a) (Vm.Alike.refl U.vm) qK, qD⟩, va_recv hKc hPc (ci := 1) (q0 := 0) rfl rfl, fun U hU hW => ⟨rfl, by rw [hU], by rw [hU]; exact hPc, va_K.moved hW.alike hKc, hDc.weaken (fun _ _ _ _ => trivial)⟩⟩ rfl rfl hl.1 rfl (lv_room (Nat.le_of_ble_eq_true rfl)) dX3_digits_75 ⟨Nat.le_of_ble_eq_true rfl, Nat.le_of_ble_eq_true rfl⟩) hS (fun q _ h => hFc q h) hFc (fun uS tS H1 locs htS hvm h75 hB hzS hkS hS => ?_)
                  obtain ⟨hP1, hK1, hD1⟩ := hB
                  rw [htS] at hP1
                  have hK1 := va_K.moved hvm.symm hK1
                  try dsimp only at h75
                  obtain ⟨hP, hD⟩ := va_join (wr := [(ax, .inr (3, [.ref ak, .ref ad, .ref ab, .ref ao, .ref aw]))]) (w1 := [(ad, .inr (1, [.ref d1, .int (nI ((dn + i) + 1))])), (d1, .inl (cI, 480, .inl (fun j => nI (va_up dg2 (dn + i) (v / u % 10) j))))]) hP hD [1, 2] [0] rfl rfl (by decide) (by decide) hkS hFc hP1 hD1
                  generalize H1 = H at hP hS ⊢
                  have hP : va_P (dC, dI) vwCl [(ax, .inr (3, [.ref ak, .ref ad, .ref ab, .ref ao, .ref aw])), (ad, .inr (1, [.ref d1, .int (nI ((dn + i) + 1))])), (d1, .inl (cI, 480, .inl (fun j => nI (va_up dg2 (dn + i) (v / u % 10) j))))] H := hP
                  have hD : va_D A [(ax, .inr (3, [.ref ak, .ref ad, .ref ab, .ref ao, .ref aw])), (ad, .inr (1, [.ref d1, .int (nI ((dn + i) + 1))])), (d1, .inl (cI, 480, .inl (fun j => nI (va_up dg2 (dn + i) (v / u % 10) j))))] := hD
                  refine lv_iload_n hx hb dX3_digits_78 rfl (lv_at hl 3 rfl) ?_
                  refine lv_bipush (v := (nI 10)) hx hb dX3_digits_79 (by decide) ?_
                  refine lv_idiv hx hb dX3_digits_81 (by decide) ?_
                  refine lv_topi (fun x81 e81 => ?_)
                  obtain rfl : x81 = nI (u / 10) := e81.trans (pk_div (by omega) (by decide) (by decide))
                  refine lv_istore_n (lv' := [(3, .int (nI (u / 10))), (0, .ref ax), (1, .int (nI v)), (2, .int (nI k))]) hx hb dX3_digits_82 rfl hl (by decide) rfl (fun ls hl => ?_)
                  refine lv_goto (tgt := 61) hx hb dX3_digits_83 (by decide) ?_
                  exact ih61 (i + 1) (u / 10) (va_up dg2 (dn + i) (v / u % 10)) (by omega) (by omega) (by rw [hue]; exact dg_u hlt hk9) (up_lt hd2 (by omega)) (fun j h => by rw [va_up_ne _ _ (by omega)]; exact hlo j h) (fun j h => by by_cases e : j = i; rw [e, va_up_self, hue]; rw [va_up_ne _ _ (by omega)]; exact hnew j (by omega)) _ _ _ (hP.sub [0, 1, 2] rfl) (hD.sub [0, 1, 2] (by decide) rfl) hS (lv_sub hl [1, 2, 3, 0] rfl)
            exact LP61 _ 0 (10 ^ (k - 1)) dg (Nat.lt_succ_self _) (by omega) (Or.inl ⟨hk1, rfl⟩) hdg (fun j h => rfl) (fun j h => absurd h (by omega)) _ _ _ (hP.sub [0, 1, 2] rfl) (hD.sub [0, 1, 2] (by decide) rfl) hS (lv_sub hl [1, 2, 3, 0] rfl)
          · have hat : ∀ w ∈ vx_atS RX3 57 eIS eNs, w.before _ s = true := vx_hat (B := twL) (fun w hw => hts w ((by decide +kernel : ∀ w ∈ (vx_atS RX3 57 eIS eNs).filter goodWord, w ∈ wsX3_digits) w hw)) (by decide +kernel) (fun w hw => hT.use hw)
            obtain ⟨sa, hsa⟩ := hT.2 (55, "more than 480 digits") (by decide +kernel)
            have hP9 := hP.sub (ws' := [(ax, .inr (3, [.ref ak, .ref ad, .ref ab, .ref ao, .ref aw])), (ad, .inr (1, [.ref d1, .int (nI dn)])), (d1, .inl (cI, 480, .inl (fun j => nI (dg j))))]) [0, 1, 2] rfl
            have hD9 := hD.sub (ws' := [(ax, .inr (3, [.ref ak, .ref ad, .ref ab, .ref ao, .ref aw])), (ad, .inr (1, [.ref d1, .int (nI dn)])), (d1, .inl (cI, 480, .inl (fun j => nI (dg j))))]) [0, 1, 2] (by decide) rfl
            have hK9 := hK.sub (tys' := [(cI, .int)]) [0] rfl
            exact vx_throwS (mc := 1) (ms := 6) hx hb hl9 hown (by decide +kernel) (by decide +kernel) (hts (.classLink RX3 53 "java/lang/IllegalStateException") (by decide +kernel)) (hts (.initialized "java/lang/IllegalStateException") (by decide +kernel)) hsa hat (by decide +kernel) hZ.1 hZ.2 hS (hl.1.trans hml.symm) dX3_digits_44 dX3_digits_47 dX3_digits_48 dX3_digits_50 dX3_digits_53 (fun x h => (hno x h).elim) (Nat.le_of_ble_eq_true rfl) (Nat.le_of_ble_eq_true rfl) (Nat.le_of_ble_eq_true rfl) (Nat.le_of_ble_eq_true rfl) hlocks (fun tS haS hzT hkT => ⟨(), trivial, ⟨(Or.inr ⟨rfl, v, k, ⟨rfl, rfl, hk1, hk9, hvk⟩, Nat.lt_of_not_le (fun y => (ite_r h38 c41) (nI_nlt (show k ≤ 480 - dn by omega) (by omega)))⟩), th_P hP9 hkT, va_K.moved haS hK9, hD9⟩, th_F hS hzT hkT⟩) hS.2.2 (by omega) (by omega)
        · have hat : ∀ w ∈ vx_atS RX3 46 eIA eNs, w.before _ s = true := vx_hat (B := twL) (fun w hw => hts w ((by decide +kernel : ∀ w ∈ (vx_atS RX3 46 eIA eNs).filter goodWord, w ∈ wsX3_digits) w hw)) (by decide +kernel) (fun w hw => hT.use hw)
          obtain ⟨sa, hsa⟩ := hT.2 (44, "not 1 to 9 digits of a number from 0 on") (by decide +kernel)
          have hP9 := hP.sub (ws' := [(ax, .inr (3, [.ref ak, .ref ad, .ref ab, .ref ao, .ref aw])), (ad, .inr (1, [.ref d1, .int (nI dn)])), (d1, .inl (cI, 480, .inl (fun j => nI (dg j))))]) [0, 1, 2] rfl
          have hD9 := hD.sub (ws' := [(ax, .inr (3, [.ref ak, .ref ad, .ref ab, .ref ao, .ref aw])), (ad, .inr (1, [.ref d1, .int (nI dn)])), (d1, .inl (cI, 480, .inl (fun j => nI (dg j))))]) [0, 1, 2] (by decide) rfl
          have hK9 := hK.sub (tys' := [(cI, .int)]) [0] rfl
          exact vx_throwS (mc := 1) (ms := 6) hx hb hl9 hown (by decide +kernel) (by decide +kernel) (hts (.classLink RX3 42 "java/lang/IllegalArgumentException") (by decide +kernel)) (hts (.initialized "java/lang/IllegalArgumentException") (by decide +kernel)) hsa hat (by decide +kernel) hZ.1 hZ.2 hS (hl.1.trans hml.symm) dX3_digits_23 dX3_digits_26 dX3_digits_27 dX3_digits_29 dX3_digits_32 (fun x h => (hno x h).elim) (Nat.le_of_ble_eq_true rfl) (Nat.le_of_ble_eq_true rfl) (Nat.le_of_ble_eq_true rfl) (Nat.le_of_ble_eq_true rfl) hlocks (fun tS haS hzT hkT => ⟨(), trivial, ⟨(by first | exact Or.inl ⟨rfl, fun ⟨v2, k2, e1, e2, e3, e4, e5⟩ => c20 (by have hp2 := p10_lt e4; have ev : v = v2 := (nI_eq (by omega) (by omega)).mp e1; have ek : k = k2 := (nI_eq (by omega) (by omega)).mp e2; rw [ev, ek]; exact nI_lt e5 (by omega))⟩ | exact Or.inl ⟨rfl, fun ⟨v2, k2, e1, e2, e3, e4, e5⟩ => nI_pos (n := v2) (by have := p10_lt e4; omega) (e1 ▸ c12)⟩ | exact Or.inl ⟨rfl, fun ⟨v2, k2, e1, e2, e3, e4, e5⟩ => nI_nlt (a := 9) (b := k2) e4 (by omega) (e2 ▸ c8)⟩ | exact Or.inl ⟨rfl, fun ⟨v2, k2, e1, e2, e3, e4, e5⟩ => nI_lt1 (k := k2) e3 (by omega) (e2 ▸ c2)⟩), th_P hP9 hkT, va_K.moved haS hK9, hD9⟩, th_F hS hzT hkT⟩) hS.2.2 (by omega) (by omega)

set_option maxHeartbeats 4000000 in
set_option maxRecDepth 100000 in
theorem c_X3_bytes (l : Launch) (hl9 : l.stackTraces = false) (dC : Nat → ClassId) (dI : Nat → Nat → Nat) (cI : ClassId) (ax ak ad ab ao aw : Nat) (b1 bn : Nat) (by9 : Nat → Nat) (v9 n9 : Int32) (sz : Nat) (hbn : bn ≤ 200) (hby : ∀ j, by9 j < 256) : vx_Met l yX3_bytes wsX3_bytes ({ frames := 6, cells := 1, slots := 6, locals := 85 } : Room) (va_Pc [.ref ax, .int v9, .int n9] (fun U => U.heap.size = sz ∧ va_P (dC, dI) vwCl [(ax, .inr (3, [.ref ak, .ref ad, .ref ab, .ref ao, .ref aw])), (ab, .inr (1, [.ref b1, .int (nI bn)])), (b1, .inl (cI, 200, .inl (fun j => nI (by9 j))))] U.heap ∧ va_K (dC, dI) vwCl [(cI, .int)] U ∧ va_D (fun _ => True) [(ax, .inr (3, [.ref ak, .ref ad, .ref ab, .ref ao, .ref aw])), (ab, .inr (1, [.ref b1, .int (nI bn)])), (b1, .inl (cI, 200, .inl (fun j => nI (by9 j))))] ∧ tz (va_A [(ax, .inr (3, [.ref ak, .ref ad, .ref ab, .ref ao, .ref aw])), (ab, .inr (1, [.ref b1, .int (nI bn)])), (b1, .inl (cI, 200, .inl (fun j => nI (by9 j))))] sz) U U.heap ∧ tw U)) (va_Qi (fun (r : Int32) (uS : Nat × (Nat → Nat)) => match uS with | (bn3, by3) => ∃ kK, n9 = nI kK ∧ 1 ≤ kK ∧ kK ≤ 4 ∧ bn + kK ≤ 200 ∧ bn3 = bn + kK ∧ r = nI (bn + kK) ∧ (∀ j, by3 j < 256) ∧ (∀ j, j < bn → by3 j = by9 j) ∧ (∀ j, j < kK → by3 (bn + j) = byt v9 (8 * (kK - 1 - j)))) (fun (uS : Nat × (Nat → Nat)) (tS : State) => match uS with | (bn3, by3) => va_P (dC, dI) vwCl [(ax, .inr (3, [.ref ak, .ref ad, .ref ab, .ref ao, .ref aw])), (ab, .inr (1, [.ref b1, .int (nI bn3)])), (b1, .inl (cI, 200, .inl (fun j => nI (by3 j))))] tS.heap ∧ va_K (dC, dI) vwCl [(cI, .int)] tS ∧ va_D (va_A [(ax, .inr (3, [.ref ak, .ref ad, .ref ab, .ref ao, .ref aw])), (ab, .inr (1, [.ref b1, .int (nI bn)])), (b1, .inl (cI, 200, .inl (fun j => nI (by9 j))))] sz) [(ax, .inr (3, [.ref ak, .ref ad, .ref ab, .ref ao, .ref aw])), (ab, .inr (1, [.ref b1, .int (nI bn3)])), (b1, .inl (cI, 200, .inl (fun j => nI (by3 j))))]) (va_A [(ax, .inr (3, [.ref ak, .ref ad, .ref ab, .ref ao, .ref aw])), (ab, .inr (1, [.ref b1, .int (nI bn)])), (b1, .inl (cI, 200, .inl (fun j => nI (by9 j))))] sz)) (vx_X (fun (_ : Unit) => True) (fun (E : String) (_ : Unit) (tS : State) => ((E = eIA ∧ ¬ ∃ kK, n9 = nI kK ∧ 1 ≤ kK ∧ kK ≤ 4) ∨ (E = eIS ∧ ∃ kK, n9 = nI kK ∧ 1 ≤ kK ∧ kK ≤ 4 ∧ 200 < bn + kK)) ∧ va_P (dC, dI) vwCl [(ax, .inr (3, [.ref ak, .ref ad, .ref ab, .ref ao, .ref aw])), (ab, .inr (1, [.ref b1, .int (nI bn)])), (b1, .inl (cI, 200, .inl (fun j => nI (by9 j))))] tS.heap ∧ va_K (dC, dI) vwCl [(cI, .int)] tS ∧ va_D (va_A [(ax, .inr (3, [.ref ak, .ref ad, .ref ab, .ref ao, .ref aw])), (ab, .inr (1, [.ref b1, .int (nI bn)])), (b1, .inl (cI, 200, .inl (fun j => nI (by9 j))))] sz) [(ax, .inr (3, [.ref ak, .ref ad, .ref ab, .ref ao, .ref aw])), (ab, .inr (1, [.ref b1, .int (nI bn)])), (b1, .inl (cI, 200, .inl (fun j => nI (by9 j))))]) (va_A [(ax, .inr (3, [.ref ak, .ref ad, .ref ab, .ref ao, .ref aw])), (ab, .inr (1, [.ref b1, .int (nI bn)])), (b1, .inl (cI, 200, .inl (fun j => nI (by9 j))))] sz)) 1 6 (va_A [(ax, .inr (3, [.ref ak, .ref ad, .ref ab, .ref ao, .ref aw])), (ab, .inr (1, [.ref b1, .int (nI bn)])), (b1, .inl (cI, 200, .inl (fun j => nI (by9 j))))] sz) := by
  refine vx_ofW (cc := cX3_bytes) (maxL := 4) (ret := (some .int)) (by decide) rfl ?_
  intro p e s m args below meth c s₁ B hml hno hv
  obtain ⟨rfl, hsz, hP, hK, hD0, hZ, hT⟩ := hv
  have hx := B.exec
  have hb := B.bytes
  have hr := B.returns
  have hts := atoms_spec (ws := wsX3_bytes) B.pre
  have hown : s.vm.findClass RX3 = some m.cls := findClass_of_methodNamed B.named
  have hlocks := B.notSynchronized
  subst hsz
  have hD := hD0.self (sz := s.heap.size)
  generalize hAe : va_A [(ax, .inr (3, [.ref ak, .ref ad, .ref ab, .ref ao, .ref aw])), (ab, .inr (1, [.ref b1, .int (nI bn)])), (b1, .inl (cI, 200, .inl (fun j => nI (by9 j))))] s.heap.size = A at hD hZ ⊢
  have hA : ∀ q : Nat, s.heap.size ≤ q → A q := fun q h => by rw [← hAe]; exact Or.inr h
  have hS : va_S A s.heap s.heap [] := va_S.rf
  have hinX1 : ∀ w ∈ wsX10, w ∈ wsX3_bytes := by decide +kernel
  have hinX3 : ∀ w ∈ wsX30, w ∈ wsX3_bytes := by decide +kernel
  have hl := lv_entry ([.ref ax, .int v9, .int n9]) (n := 4) (Nat.le_of_ble_eq_true rfl)
  rw [lg_entry_eq]
  generalize (lg_sl ([.ref ax, .int v9, .int n9]) ++ List.replicate (4 - (lg_sl ([.ref ax, .int v9, .int n9])).length) Slot.unset).toArray = ls at hl ⊢
  have hl : lv_has ls 4 [(0, .ref ax), (1, .int v9), (2, .int n9)] := hl
  refine lv_iload_n hx hb dX3_bytes_0 rfl (lv_at hl 2 rfl) ?_
  refine lv_iconst (v := 1) hx hb dX3_bytes_1 (by decide) ?_
  refine lv_icmp_lt (tgt := 10) hx hb dX3_bytes_2 (by decide) (fun c2 => ?_) (fun c2 => ?_)
  · have hat : ∀ w ∈ vx_atS RX3 46 eIA eNs, w.before _ s = true := vx_hat (B := twL) (fun w hw => hts w ((by decide +kernel : ∀ w ∈ (vx_atS RX3 46 eIA eNs).filter goodWord, w ∈ wsX3_bytes) w hw)) (by decide +kernel) (fun w hw => hT.use hw)
    obtain ⟨sa, hsa⟩ := hT.2 (80, "not 1 to 4 bytes") (by decide +kernel)
    have hP9 := hP.sub (ws' := [(ax, .inr (3, [.ref ak, .ref ad, .ref ab, .ref ao, .ref aw])), (ab, .inr (1, [.ref b1, .int (nI bn)])), (b1, .inl (cI, 200, .inl (fun j => nI (by9 j))))]) [0, 1, 2] rfl
    have hD9 := hD.sub (ws' := [(ax, .inr (3, [.ref ak, .ref ad, .ref ab, .ref ao, .ref aw])), (ab, .inr (1, [.ref b1, .int (nI bn)])), (b1, .inl (cI, 200, .inl (fun j => nI (by9 j))))]) [0, 1, 2] (by decide) rfl
    have hK9 := hK.sub (tys' := [(cI, .int)]) [0] rfl
    exact vx_throwS (mc := 1) (ms := 6) hx hb hl9 hown (by decide +kernel) (by decide +kernel) (hts (.classLink RX3 42 "java/lang/IllegalArgumentException") (by decide +kernel)) (hts (.initialized "java/lang/IllegalArgumentException") (by decide +kernel)) hsa hat (by decide +kernel) hZ.1 hZ.2 hS (hl.1.trans hml.symm) dX3_bytes_10 dX3_bytes_13 dX3_bytes_14 dX3_bytes_16 dX3_bytes_19 (fun x h => (hno x h).elim) (Nat.le_of_ble_eq_true rfl) (Nat.le_of_ble_eq_true rfl) (Nat.le_of_ble_eq_true rfl) (Nat.le_of_ble_eq_true rfl) hlocks (fun tS haS hzT hkT => ⟨(), trivial, ⟨(by first | exact Or.inl ⟨rfl, fun ⟨k2, e2, e3, e4⟩ => c7 (by rw [e2]; exact nI_le e4 (by omega))⟩ | exact Or.inl ⟨rfl, fun ⟨k2, e2, e3, e4⟩ => nI_lt1 (k := k2) e3 (by omega) (e2 ▸ c2)⟩), th_P hP9 hkT, va_K.moved haS hK9, hD9⟩, th_F hS hzT hkT⟩) hS.2.2 (by omega) (by omega)
  · refine lv_iload_n hx hb dX3_bytes_5 rfl (lv_at hl 2 rfl) ?_
    refine lv_iconst (v := (nI 4)) hx hb dX3_bytes_6 (by decide) ?_
    refine lv_icmp_le (tgt := 20) hx hb dX3_bytes_7 (by decide) (fun c7 => ?_) (fun c7 => ?_)
    · obtain ⟨k, hk1, hk4, rfl⟩ := dg_n (N := 4) (by decide) c2 (Int32.not_lt.mpr c7)
      refine lv_aload_n hx hb dX3_bytes_20 rfl (lv_at hl 0 rfl) ?_
      refine va_get (D := (dC, dI)) (ci := 3) (v := .ref ab) (C := RX3) (T := TX3) (N := 5) hx hb hts hinX3 hown hK hP 0 rfl rfl 2 (by decide) (hts (.fieldLink RX3 25 "NumberContents" "byteRow" "LNumberContents$Row;") (by decide +kernel)) (fun _ h9 => h9) rfl dX3_bytes_21 ?_
      refine lv_iload_n hx hb dX3_bytes_24 rfl (lv_at hl 2 rfl) ?_
      have hPc := hP.sub (ws' := [(ab, .inr (1, [.ref b1, .int (nI bn)])), (b1, .inl (cI, 200, .inl (fun j => nI (by9 j))))]) [1, 2] rfl
      have hKc := hK.sub (tys' := [(cI, .int)]) [0] rfl
      refine vp_callSi (W.runV (As := [.int (nI k)]) (rest := []) ⟨hx, hb, hml, hown, hts⟩ (c_X1_hasRoom l dC dI cI ab b1 200 bn (fun j => nI (by9 j)) (nI k) hbn (by omega)) (cwV 1 hts gX3_bytes_X1_hasRoom rfl rfl rfl (by decide +kernel) ⟨Nat.le_of_ble_eq_true rfl, Nat.le_of_ble_eq_true rfl⟩) ⟨fun a U g mk q => by obtain ⟨q0, qP, qK⟩ := q; exact ⟨q0, qP, va_K.moved (u := U) (U := U.calling g mk a) (Vm.Alike.refl U.vm) qK⟩, va_recv hK hP (ci := 1) (q0 := 1) rfl rfl, fun U hU hW => ⟨rfl, by rw [hU]; exact hPc, va_K.moved hW.alike hKc⟩⟩ rfl rfl hl.1 rfl (lv_room (Nat.le_of_ble_eq_true rfl)) dX3_bytes_25 ⟨Nat.le_of_ble_eq_true rfl, Nat.le_of_ble_eq_true rfl⟩) (fun r25 h25 => ?_)
      refine lv_if_ne (tgt := 41) hx hb dX3_bytes_28 (by decide) (fun c28 => ?_) (fun c28 => ?_)
      · have hrm : bn + k ≤ 200 := Nat.le_of_not_lt (fun y => (ite_s h25 c28) (nI_lt (show 200 - bn < k by omega) (by omega)))
        refine lv_bipush (v := (nI 8)) hx hb dX3_bytes_41 (by decide) ?_
        refine lv_iload_n hx hb dX3_bytes_43 rfl (lv_at hl 2 rfl) ?_
        refine lv_iconst (v := 1) hx hb dX3_bytes_44 (by decide) ?_
        refine lv_isub hx hb dX3_bytes_45 ?_
        refine lv_topi (fun x45 e45 => ?_)
        obtain rfl : x45 = nI (k - 1) := e45.trans (nI_m1 hk1)
        refine lv_imul hx hb dX3_bytes_46 ?_
        refine lv_topi (fun x46 e46 => ?_)
        obtain rfl : x46 = nI (8 * (k - 1)) := e46.trans (pk_mul 8 _)
        refine lv_istore_n (lv' := [(3, .int (nI (8 * (k - 1)))), (0, .ref ax), (1, .int v9), (2, .int (nI k))]) hx hb dX3_bytes_47 rfl hl (by decide) rfl (fun ls hl => ?_)
        have LP48 : ∀ (n9 : Nat) (i : Nat) (s9 : Int32) (by2 : Nat → Nat) (hm : (k - i) < n9) (hi : i ≤ k) (hs9 : s9 = nI (8 * (k - i)) - 8) (hb2 : ∀ j, by2 j < 256) (hlo : ∀ j, j < bn → by2 j = by9 j) (hnew : ∀ j, j < i → by2 (bn + j) = byt v9 (8 * (k - 1 - j))) (H : Heap) (locs : List Loc) (ls : Array Slot) (hP : va_P (dC, dI) vwCl [(ax, .inr (3, [.ref ak, .ref ad, .ref ab, .ref ao, .ref aw])), (ab, .inr (1, [.ref b1, .int (nI (bn + i))])), (b1, .inl (cI, 200, .inl (fun j => nI (by2 j))))] H) (hD : va_D A [(ax, .inr (3, [.ref ak, .ref ad, .ref ab, .ref ao, .ref aw])), (ab, .inr (1, [.ref b1, .int (nI (bn + i))])), (b1, .inl (cI, 200, .inl (fun j => nI (by2 j))))]) (hS : va_S A s.heap H locs) (hl : lv_has ls 4 [(0, .ref ax), (1, .int v9), (2, .int (nI k)), (3, .int s9)]), W p l e (headSpec wsX3_bytes ({ frames := 6, cells := 1, slots := 6, locals := 85 } : Room)).room s m ([.ref ax, .int v9, .int (nI k)]).toArray below meth c H locs 0 0 (vx_MQ below (va_Qi (fun (r : Int32) (uS : Nat × (Nat → Nat)) => match uS with | (bn3, by3) => ∃ kK, (nI k) = nI kK ∧ 1 ≤ kK ∧ kK ≤ 4 ∧ bn + kK ≤ 200 ∧ bn3 = bn + kK ∧ r = nI (bn + kK) ∧ (∀ j, by3 j < 256) ∧ (∀ j, j < bn → by3 j = by9 j) ∧ (∀ j, j < kK → by3 (bn + j) = byt v9 (8 * (kK - 1 - j)))) (fun (uS : Nat × (Nat → Nat)) (tS : State) => match uS with | (bn3, by3) => va_P (dC, dI) vwCl [(ax, .inr (3, [.ref ak, .ref ad, .ref ab, .ref ao, .ref aw])), (ab, .inr (1, [.ref b1, .int (nI bn3)])), (b1, .inl (cI, 200, .inl (fun j => nI (by3 j))))] tS.heap ∧ va_K (dC, dI) vwCl [(cI, .int)] tS ∧ va_D A [(ax, .inr (3, [.ref ak, .ref ad, .ref ab, .ref ao, .ref aw])), (ab, .inr (1, [.ref b1, .int (nI bn3)])), (b1, .inl (cI, 200, .inl (fun j => nI (by3 j))))]) A) (vx_X (fun (_ : Unit) => True) (fun (E : String) (_ : Unit) (tS : State) => ((E = eIA ∧ ¬ ∃ kK, (nI k) = nI kK ∧ 1 ≤ kK ∧ kK ≤ 4) ∨ (E = eIS ∧ ∃ kK, (nI k) = nI kK ∧ 1 ≤ kK ∧ kK ≤ 4 ∧ 200 < bn + kK)) ∧ va_P (dC, dI) vwCl [(ax, .inr (3, [.ref ak, .ref ad, .ref ab, .ref ao, .ref aw])), (ab, .inr (1, [.ref b1, .int (nI bn)])), (b1, .inl (cI, 200, .inl (fun j => nI (by9 j))))] tS.heap ∧ va_K (dC, dI) vwCl [(cI, .int)] tS ∧ va_D A [(ax, .inr (3, [.ref ak, .ref ad, .ref ab, .ref ao, .ref aw])), (ab, .inr (1, [.ref b1, .int (nI bn)])), (b1, .inl (cI, 200, .inl (fun j => nI (by9 j))))]) A) ([.ref ax, .int v9, .int (nI k)]).toArray s 1 6 A) (F0 m 48 ls []) := by
          intro n9
          induction n9 with
          | zero => intro i s9 by2 hm; exact absurd hm (Nat.not_lt_zero _)
          | succ n9 ih =>
            intro i s9 by2 hm hi hs9 hb2 hlo hnew H locs ls hP hD hS hl
            have ih48 := ih
            refine lv_iload_n hx hb dX3_bytes_48 rfl (lv_at hl 3 rfl) ?_
            refine lv_if_lt (tgt := 72) hx hb dX3_bytes_49 (by decide) (fun c49 => ?_) (fun c49 => ?_)
            · obtain rfl : i = k := by_out (by omega) hi hs9 c49
              refine lv_aload_n hx hb dX3_bytes_72 rfl (lv_at hl 0 rfl) ?_
              refine va_get (D := (dC, dI)) (ci := 3) (v := .ref ab) (C := RX3) (T := TX3) (N := 5) hx hb hts hinX3 hown hK hP 0 rfl rfl 2 (by decide) (hts (.fieldLink RX3 25 "NumberContents" "byteRow" "LNumberContents$Row;") (by decide +kernel)) (fun _ h9 => h9) rfl dX3_bytes_73 ?_
              have hPc := hP.sub (ws' := [(ab, .inr (1, [.ref b1, .int (nI (bn + i))])), (b1, .inl (cI, 200, .inl (fun j => nI (by2 j))))]) [1, 2] rfl
              have hKc := hK.sub (tys' := [(cI, .int)]) [0] rfl
              refine vp_callSi (W.runV (As := []) (rest := []) ⟨hx, hb, hml, hown, hts⟩ (c_X1_length l dC dI cI ab b1 200 (bn + i) (fun j => nI (by2 j)) ) (cwV 0 hts gX3_bytes_X1_length rfl rfl rfl (by decide +kernel) ⟨Nat.le_of_ble_eq_true rfl, Nat.le_of_ble_eq_true rfl⟩) ⟨fun a U g mk q => by obtain ⟨q0, qP, qK⟩ := q; exact ⟨q0, qP, va_K.moved (u := U) (U := U.calling g mk a) (Vm.Alike.refl U.vm) qK⟩, va_recv hK hP (ci := 1) (q0 := 1) rfl rfl, fun U hU hW => ⟨rfl, by rw [hU]; exact hPc, va_K.moved hW.alike hKc⟩⟩ rfl rfl hl.1 rfl (lv_room (Nat.le_of_ble_eq_true rfl)) dX3_bytes_76 ⟨Nat.le_of_ble_eq_true rfl, Nat.le_of_ble_eq_true rfl⟩) (fun r76 h76 => ?_)
              have hP9 := hP.sub (ws' := [(ax, .inr (3, [.ref ak, .ref ad, .ref ab, .ref ao, .ref aw])), (ab, .inr (1, [.ref b1, .int (nI (bn + i))])), (b1, .inl (cI, 200, .inl (fun j => nI (by2 j))))]) [0, 1, 2] rfl
              have hD9 := hD.sub (ws' := [(ax, .inr (3, [.ref ak, .ref ad, .ref ab, .ref ao, .ref aw])), (ab, .inr (1, [.ref b1, .int (nI (bn + i))])), (b1, .inl (cI, 200, .inl (fun j => nI (by2 j))))]) [0, 1, 2] (by decide) rfl
              have hK9 := hK.sub (tys' := [(cI, .int)]) [0] rfl
              exact vx_ret (W.widen (k := 1) (n := 6) (by omega) (by omega) (W.iret (v := r76) hx hb hr (fun tS htS hW => ⟨⟨r76, ((bn + i), by2), rfl, ⟨i, rfl, hk1, hk4, hrm, rfl, h76, hb2, hlo, hnew⟩, by rw [htS]; exact hP9, va_K.moved hW.alike hK9, hD9⟩, hS.F htS⟩) hS.2.2 dX3_bytes_79))
            · have hlt : i < k := by_in hs9 c49
              obtain rfl : s9 = nI (8 * (k - 1 - i)) := hs9.trans (by rw [show (8 : Int32) = nI 8 from rfl, pk_sub (by omega)]; congr 1; omega)
              refine lv_aload_n hx hb dX3_bytes_52 rfl (lv_at hl 0 rfl) ?_
              refine va_get (D := (dC, dI)) (ci := 3) (v := .ref ab) (C := RX3) (T := TX3) (N := 5) hx hb hts hinX3 hown hK hP 0 rfl rfl 2 (by decide) (hts (.fieldLink RX3 25 "NumberContents" "byteRow" "LNumberContents$Row;") (by decide +kernel)) (fun _ h9 => h9) rfl dX3_bytes_53 ?_
              refine lv_iload_n hx hb dX3_bytes_56 rfl (lv_at hl 1 rfl) ?_
              refine lv_iload_n hx hb dX3_bytes_57 rfl (lv_at hl 3 rfl) ?_
              refine lv_ishr hx hb dX3_bytes_58 ?_
              refine lv_topi (fun x58 e58 => ?_)
              refine lv_sipush (v := 255) hx hb dX3_bytes_59 (by decide) ?_
              refine lv_iand hx hb dX3_bytes_62 ?_
              refine lv_topi (fun x62 e62 => ?_)
              obtain rfl : x62 = nI (byt v9 (8 * (k - 1 - i))) := e62.trans ((pk_and x58 8 (by decide)).trans (by rw [e58, byt_eq _ (by omega)]))
              have hPc := hP.sub (ws' := [(ab, .inr (1, [.ref b1, .int (nI (bn + i))])), (b1, .inl (cI, 200, .inl (fun j => nI (by2 j))))]) [1, 2] rfl
              have hKc := hK.sub (tys' := [(cI, .int)]) [0] rfl
              have hDc := hD.sub (ws' := [(ab, .inr (1, [.ref b1, .int (nI (bn + i))])), (b1, .inl (cI, 200, .inl (fun j => nI (by2 j))))]) [1, 2] (by decide) rfl
              have hFc := va_free (wc := [(ab, .inr (1, [.ref b1, .int (nI (bn + i))])), (b1, .inl (cI, 200, .inl (fun j => nI (by2 j))))]) hD hS hA [1, 2] rfl
              refine va_callv (va_runV (As := [.int (nI (byt v9 (8 * (k - 1 - i))))]) (rest := []) ⟨hx, hb, hml, hown, hts⟩ (c_X1_addg l dC dI cI ab b1 200 (bn + i) by2 (byt v9 (8 * (k - 1 - i))) H.size (by omega) (by omega)) (cwV 1 hts gX3_bytes_X1_add rfl rfl rfl (by decide +kernel) ⟨Nat.le_of_ble_eq_true rfl, Nat.le_of_ble_eq_true rfl⟩) ⟨fun a U g mk q => by obtain ⟨q0, q1, qP, qK, qD⟩ := q; exact ⟨q0, q1, qP, va_K.moved (u := U) (U := U.calling g mk a) (Vm.Alike.refl U.vm) qK, qD⟩, va_recv hKc hPc (ci := 1) (q0 := 0) rfl rfl, fun U hU hW => ⟨rfl, by rw [hU], by rw [hU]; exact hPc, va_K.moved hW.alike hKc, hDc.weaken (fun _ _ _ _ => trivial)⟩⟩ rfl rfl hl.1 rfl (lv_room (Nat.le_of_ble_eq_true rfl)) dX3_bytes_63 ⟨Nat.le_of_ble_eq_true rfl, Nat.le_of_ble_eq_true rfl⟩) hS (fun q _ h => hFc q h) hFc (fun uS tS H1 locs htS hvm h63 hB hzS hkS hS => ?_)
              obtain ⟨hP1, hK1, hD1⟩ := hB
              rw [htS] at hP1
              have hK1 := va_K.moved hvm.symm hK1
              try dsimp only at h63
              obtain ⟨hP, hD⟩ := va_join (wr := [(ax, .inr (3, [.ref ak, .ref ad, .ref ab, .ref ao, .ref aw]))]) (w1 := [(ab, .inr (1, [.ref b1, .int (nI ((bn + i) + 1))])), (b1, .inl (cI, 200, .inl (fun j => nI (va_up by2 (bn + i) (byt v9 (8 * (k - 1 - i))) j))))]) hP hD [1, 2] [0] rfl rfl (by decide) (by decide) hkS hFc hP1 hD1
              generalize H1 = H at hP hS ⊢
              have hP : va_P (dC, dI) vwCl [(ax, .inr (3, [.ref ak, .ref ad, .ref ab, .ref ao, .ref aw])), (ab, .inr (1, [.ref b1, .int (nI ((bn + i) + 1))])), (b1, .inl (cI, 200, .inl (fun j => nI (va_up by2 (bn + i) (byt v9 (8 * (k - 1 - i))) j))))] H := hP
              have hD : va_D A [(ax, .inr (3, [.ref ak, .ref ad, .ref ab, .ref ao, .ref aw])), (ab, .inr (1, [.ref b1, .int (nI ((bn + i) + 1))])), (b1, .inl (cI, 200, .inl (fun j => nI (va_up by2 (bn + i) (byt v9 (8 * (k - 1 - i))) j))))] := hD
              obtain ⟨x66, e66⟩ : ∃ zz9 : Int32, zz9 = (nI (8 * (k - 1 - i))) + (-8) := ⟨_, rfl⟩
              refine lv_iinc (v := x66) (lv' := [(3, .int x66), (0, .ref ax), (1, .int v9), (2, .int (nI k))]) hx hb dX3_bytes_66 hl (k := 3) rfl (by rw [e66]; rfl) (by decide) rfl (fun ls hl => ?_)
              refine lv_goto (tgt := 48) hx hb dX3_bytes_69 (by decide) ?_
              exact ih48 (i + 1) x66 (va_up by2 (bn + i) (byt v9 (8 * (k - 1 - i)))) (by omega) (by omega) (by rw [e66, show k - 1 - i = k - (i + 1) from by omega]; exact (Int32.sub_eq_add_neg _ _).symm) (up_lt hb2 (byt_lt _ _)) (fun j h => by rw [va_up_ne _ _ (by omega)]; exact hlo j h) (fun j h => by by_cases e : j = i; rw [e, va_up_self]; rw [va_up_ne _ _ (by omega)]; exact hnew j (by omega)) _ _ _ (hP.sub [0, 1, 2] rfl) (hD.sub [0, 1, 2] (by decide) rfl) hS (lv_sub hl [1, 2, 3, 0] rfl)
        exact LP48 _ 0 (nI (8 * (k - 1))) by9 (Nat.lt_succ_self _) (by omega) (by rw [Nat.sub_zero, show (8 : Int32) = nI 8 from rfl, pk_sub (by omega)]; congr 1; omega) hby (fun j h => rfl) (fun j h => absurd h (by omega)) _ _ _ (hP.sub [0, 1, 2] rfl) (hD.sub [0, 1, 2] (by decide) rfl) hS (lv_sub hl [1, 2, 3, 0] rfl)
      · have hat : ∀ w ∈ vx_atS RX3 57 eIS eNs, w.before _ s = true := vx_hat (B := twL) (fun w hw => hts w ((by decide +kernel : ∀ w ∈ (vx_atS RX3 57 eIS eNs).filter goodWord, w ∈ wsX3_bytes) w hw)) (by decide +kernel) (fun w hw => hT.use hw)
        obtain ⟨sa, hsa⟩ := hT.2 (82, "more than 200 bytes") (by decide +kernel)
        have hP9 := hP.sub (ws' := [(ax, .inr (3, [.ref ak, .ref ad, .ref ab, .ref ao, .ref aw])), (ab, .inr (1, [.ref b1, .int (nI bn)])), (b1, .inl (cI, 200, .inl (fun j => nI (by9 j))))]) [0, 1, 2] rfl
        have hD9 := hD.sub (ws' := [(ax, .inr (3, [.ref ak, .ref ad, .ref ab, .ref ao, .ref aw])), (ab, .inr (1, [.ref b1, .int (nI bn)])), (b1, .inl (cI, 200, .inl (fun j => nI (by9 j))))]) [0, 1, 2] (by decide) rfl
        have hK9 := hK.sub (tys' := [(cI, .int)]) [0] rfl
        exact vx_throwS (mc := 1) (ms := 6) hx hb hl9 hown (by decide +kernel) (by decide +kernel) (hts (.classLink RX3 53 "java/lang/IllegalStateException") (by decide +kernel)) (hts (.initialized "java/lang/IllegalStateException") (by decide +kernel)) hsa hat (by decide +kernel) hZ.1 hZ.2 hS (hl.1.trans hml.symm) dX3_bytes_31 dX3_bytes_34 dX3_bytes_35 dX3_bytes_37 dX3_bytes_40 (fun x h => (hno x h).elim) (Nat.le_of_ble_eq_true rfl) (Nat.le_of_ble_eq_true rfl) (Nat.le_of_ble_eq_true rfl) (Nat.le_of_ble_eq_true rfl) hlocks (fun tS haS hzT hkT => ⟨(), trivial, ⟨(Or.inr ⟨rfl, k, rfl, hk1, hk4, Nat.lt_of_not_le (fun y => (ite_r h25 c28) (nI_nlt (show k ≤ 200 - bn by omega) (by omega)))⟩), th_P hP9 hkT, va_K.moved haS hK9, hD9⟩, th_F hS hzT hkT⟩) hS.2.2 (by omega) (by omega)
    · have hat : ∀ w ∈ vx_atS RX3 46 eIA eNs, w.before _ s = true := vx_hat (B := twL) (fun w hw => hts w ((by decide +kernel : ∀ w ∈ (vx_atS RX3 46 eIA eNs).filter goodWord, w ∈ wsX3_bytes) w hw)) (by decide +kernel) (fun w hw => hT.use hw)
      obtain ⟨sa, hsa⟩ := hT.2 (80, "not 1 to 4 bytes") (by decide +kernel)
      have hP9 := hP.sub (ws' := [(ax, .inr (3, [.ref ak, .ref ad, .ref ab, .ref ao, .ref aw])), (ab, .inr (1, [.ref b1, .int (nI bn)])), (b1, .inl (cI, 200, .inl (fun j => nI (by9 j))))]) [0, 1, 2] rfl
      have hD9 := hD.sub (ws' := [(ax, .inr (3, [.ref ak, .ref ad, .ref ab, .ref ao, .ref aw])), (ab, .inr (1, [.ref b1, .int (nI bn)])), (b1, .inl (cI, 200, .inl (fun j => nI (by9 j))))]) [0, 1, 2] (by decide) rfl
      have hK9 := hK.sub (tys' := [(cI, .int)]) [0] rfl
      exact vx_throwS (mc := 1) (ms := 6) hx hb hl9 hown (by decide +kernel) (by decide +kernel) (hts (.classLink RX3 42 "java/lang/IllegalArgumentException") (by decide +kernel)) (hts (.initialized "java/lang/IllegalArgumentException") (by decide +kernel)) hsa hat (by decide +kernel) hZ.1 hZ.2 hS (hl.1.trans hml.symm) dX3_bytes_10 dX3_bytes_13 dX3_bytes_14 dX3_bytes_16 dX3_bytes_19 (fun x h => (hno x h).elim) (Nat.le_of_ble_eq_true rfl) (Nat.le_of_ble_eq_true rfl) (Nat.le_of_ble_eq_true rfl) (Nat.le_of_ble_eq_true rfl) hlocks (fun tS haS hzT hkT => ⟨(), trivial, ⟨(by first | exact Or.inl ⟨rfl, fun ⟨k2, e2, e3, e4⟩ => c7 (by rw [e2]; exact nI_le e4 (by omega))⟩ | exact Or.inl ⟨rfl, fun ⟨k2, e2, e3, e4⟩ => nI_lt1 (k := k2) e3 (by omega) (e2 ▸ c2)⟩), th_P hP9 hkT, va_K.moved haS hK9, hD9⟩, th_F hS hzT hkT⟩) hS.2.2 (by omega) (by omega)

def CMP (x y : Int) (r : Int32) : Prop := (r = 1 ∧ y < x) ∨ (r = -1 ∧ x < y) ∨ (r = 0 ∧ x = y)
theorem nv_neg {g z : Nat → Nat} {a : Nat} (hg : ∀ j, g j < 256) (h : 128 ≤ g (a * 200 + (z a - 1))) : nval g z a < 0 := by
  have h1 := bv_lt (fun j => hg (a * 200 + j)) (z a)
  unfold nval sv
  dsimp only
  rw [if_pos h]
  omega
theorem nv_pos {g z : Nat → Nat} {a : Nat} (h : ¬ 128 ≤ g (a * 200 + (z a - 1))) : 0 ≤ nval g z a := by
  unfold nval sv
  dsimp only
  rw [if_neg h]
  omega
theorem sz_pos {x y : Int} {p q : Nat} (hx : isz x p) (hy : isz y q) (hpq : p < q) (h0 : 0 ≤ y) : x < y := by
  have h1 := hx.1
  have h2 := hy.2.2 (by omega)
  have h3 := hx.2.1.2
  have m : 256 ^ (p - 1) ≤ 256 ^ (q - 1 - 1) := Nat.pow_le_pow_right (by decide) (by omega)
  unfold fitz at h2
  generalize 256 ^ (p - 1) = u at *
  generalize 256 ^ (q - 1 - 1) = v at *
  omega
theorem sz_neg {x y : Int} {p q : Nat} (hx : isz x p) (hy : isz y q) (hpq : p < q) (h0 : y < 0) : y < x := by
  have h1 := hx.1
  have h2 := hy.2.2 (by omega)
  have h3 := hx.2.1.1
  have m : 256 ^ (p - 1) ≤ 256 ^ (q - 1 - 1) := Nat.pow_le_pow_right (by decide) (by omega)
  unfold fitz at h2
  generalize 256 ^ (p - 1) = u at *
  generalize 256 ^ (q - 1 - 1) = v at *
  omega
theorem cm_bv {g z : Nat → Nat} {a b : Nat} {r : Int32} (hzz : z a = z b) (hs : 128 ≤ g (a * 200 + (z a - 1)) ↔ 128 ≤ g (b * 200 + (z b - 1)))
    (h : (r = 1 ∧ bv (fun j => g (b * 200 + j)) (z b) < bv (fun j => g (a * 200 + j)) (z a)) ∨ (r = -1 ∧ bv (fun j => g (a * 200 + j)) (z a) < bv (fun j => g (b * 200 + j)) (z b)) ∨ (r = 0 ∧ bv (fun j => g (a * 200 + j)) (z a) = bv (fun j => g (b * 200 + j)) (z b))) : CMP (nval g z a) (nval g z b) r := by
  unfold CMP nval sv
  dsimp only
  rw [← hzz] at *
  by_cases h1 : 128 ≤ g (a * 200 + (z a - 1))
  · rw [if_pos h1, if_pos (hs.mp h1)]
    rcases h with ⟨h, k⟩ | ⟨h, k⟩ | ⟨h, k⟩
    · exact Or.inl ⟨h, by omega⟩
    · exact Or.inr (Or.inl ⟨h, by omega⟩)
    · exact Or.inr (Or.inr ⟨h, by omega⟩)
  · rw [if_neg h1, if_neg (fun y => h1 (hs.mpr y))]
    rcases h with ⟨h, k⟩ | ⟨h, k⟩ | ⟨h, k⟩
    · exact Or.inl ⟨h, by omega⟩
    · exact Or.inr (Or.inl ⟨h, by omega⟩)
    · exact Or.inr (Or.inr ⟨h, by omega⟩)
theorem cm_sg {r s : Int32} {P Q : Prop} (h1 : (r = 1 ∧ P) ∨ (r = 0 ∧ ¬ P)) (h2 : (s = 1 ∧ Q) ∨ (s = 0 ∧ ¬ Q)) (e : r = s) : P ↔ Q := by
  rcases h1 with ⟨a, b⟩ | ⟨a, b⟩ <;> rcases h2 with ⟨c, d⟩ | ⟨c, d⟩
  · exact ⟨fun _ => d, fun _ => b⟩
  · rw [a, c] at e; exact absurd e (by decide)
  · rw [a, c] at e; exact absurd e (by decide)
  · exact ⟨fun y => absurd y b, fun y => absurd y d⟩
theorem cm_df {r s : Int32} {P Q : Prop} (h1 : (r = 1 ∧ P) ∨ (r = 0 ∧ ¬ P)) (h2 : (s = 1 ∧ Q) ∨ (s = 0 ∧ ¬ Q)) (e : ¬ r = s) (h0 : r = 0) : ¬ P ∧ Q := by
  refine ⟨ite_r h1 h0, ?_⟩
  rcases h2 with ⟨_, d⟩ | ⟨c, _⟩
  · exact d
  · exact absurd (h0.trans c.symm) e
theorem cm_df2 {r s : Int32} {P Q : Prop} (h1 : (r = 1 ∧ P) ∨ (r = 0 ∧ ¬ P)) (h2 : (s = 1 ∧ Q) ∨ (s = 0 ∧ ¬ Q)) (e : ¬ r = s) (h0 : ¬ r = 0) : P ∧ ¬ Q := by
  refine ⟨ite_s h1 h0, ?_⟩
  rcases h1 with ⟨a, _⟩ | ⟨a, _⟩
  · rcases h2 with ⟨c, _⟩ | ⟨_, d⟩
    · exact absurd (a.trans c.symm) e
    · exact d
  · exact absurd a h0
theorem cm_sz {x y : Int} {p q : Nat} {r : Int32} (hp : p < 300) (hq : q < 300) (hx : isz x p) (hy : isz y q) (h : (r = 1 ∧ nI q < nI p) ∨ (r = -1 ∧ nI p < nI q) ∨ (r = 0 ∧ nI p = nI q)) (h0 : ¬ r = 0) :
    (0 ≤ x → 0 ≤ y → CMP x y r) ∧ (x < 0 → y < 0 → CMP x y (-r)) := by
  rcases h with ⟨rfl, h⟩ | ⟨rfl, h⟩ | ⟨h, _⟩
  · have h := (nI_ltI (by omega) (by omega)).mp h
    exact ⟨fun a b => Or.inl ⟨rfl, sz_pos hy hx h a⟩, fun a b => Or.inr (Or.inl ⟨by decide, sz_neg hy hx h a⟩)⟩
  · have h := (nI_ltI (by omega) (by omega)).mp h
    exact ⟨fun a b => Or.inr (Or.inl ⟨rfl, sz_pos hx hy h b⟩), fun a b => Or.inl ⟨by decide, sz_neg hx hy h b⟩⟩
  · exact absurd h h0
theorem cm_eqz {p q : Nat} {r : Int32} (hp : p < 300) (hq : q < 300) (h : (r = 1 ∧ nI q < nI p) ∨ (r = -1 ∧ nI p < nI q) ∨ (r = 0 ∧ nI p = nI q)) (h0 : r = 0) : p = q := by
  rcases h with ⟨h, _⟩ | ⟨h, _⟩ | ⟨_, h⟩
  · rw [h] at h0; exact absurd h0 (by decide)
  · rw [h] at h0; exact absurd h0 (by decide)
  · exact (nI_eq (by omega) (by omega)).mp h

set_option maxHeartbeats 4000000 in
set_option maxRecDepth 100000 in
theorem c_X3_compare (l : Launch) (hl9 : l.stackTraces = false) (dC : Nat → ClassId) (dI : Nat → Nat → Nat) (cI : ClassId) (ax ak ad ab ao aw : Nat) (k1 k2 n : Nat) (g z : Nat → Nat) (a9 b9 : Int32) (sz : Nat) (hI : XK n g z) : vx_Met l yX3_compare wsX3_compare ({ frames := 7, cells := 2, slots := 12, locals := 107 } : Room) (va_Pc [.ref ax, .int a9, .int b9] (fun U => U.heap.size = sz ∧ va_P (dC, dI) vwCl [(ax, .inr (3, [.ref ak, .ref ad, .ref ab, .ref ao, .ref aw])), (ak, .inr (0, [.ref k1, .ref k2, .int (nI n)])), (k1, .inl (cI, 8000, .inl (fun j => nI (g j)))), (k2, .inl (cI, 40, .inl (fun j => nI (z j))))] U.heap ∧ va_K (dC, dI) vwCl [(cI, .int)] U ∧ va_D (fun _ => True) [(ax, .inr (3, [.ref ak, .ref ad, .ref ab, .ref ao, .ref aw])), (ak, .inr (0, [.ref k1, .ref k2, .int (nI n)])), (k1, .inl (cI, 8000, .inl (fun j => nI (g j)))), (k2, .inl (cI, 40, .inl (fun j => nI (z j))))] ∧ tz (va_A [(ax, .inr (3, [.ref ak, .ref ad, .ref ab, .ref ao, .ref aw])), (ak, .inr (0, [.ref k1, .ref k2, .int (nI n)])), (k1, .inl (cI, 8000, .inl (fun j => nI (g j)))), (k2, .inl (cI, 40, .inl (fun j => nI (z j))))] sz) U U.heap ∧ tw U)) (va_Qi (fun (r : Int32) (_ : Unit) => ∃ a b, a9 = nI a ∧ a < n ∧ b9 = nI b ∧ b < n ∧ CMP (nval g z a) (nval g z b) r) (fun (_ : Unit) (tS : State) => va_P (dC, dI) vwCl [(ax, .inr (3, [.ref ak, .ref ad, .ref ab, .ref ao, .ref aw])), (ak, .inr (0, [.ref k1, .ref k2, .int (nI n)])), (k1, .inl (cI, 8000, .inl (fun j => nI (g j)))), (k2, .inl (cI, 40, .inl (fun j => nI (z j))))] tS.heap ∧ va_K (dC, dI) vwCl [(cI, .int)] tS ∧ va_D (va_A [(ax, .inr (3, [.ref ak, .ref ad, .ref ab, .ref ao, .ref aw])), (ak, .inr (0, [.ref k1, .ref k2, .int (nI n)])), (k1, .inl (cI, 8000, .inl (fun j => nI (g j)))), (k2, .inl (cI, 40, .inl (fun j => nI (z j))))] sz) [(ax, .inr (3, [.ref ak, .ref ad, .ref ab, .ref ao, .ref aw])), (ak, .inr (0, [.ref k1, .ref k2, .int (nI n)])), (k1, .inl (cI, 8000, .inl (fun j => nI (g j)))), (k2, .inl (cI, 40, .inl (fun j => nI (z j))))]) (va_A [(ax, .inr (3, [.ref ak, .ref ad, .ref ab, .ref ao, .ref aw])), (ak, .inr (0, [.ref k1, .ref k2, .int (nI n)])), (k1, .inl (cI, 8000, .inl (fun j => nI (g j)))), (k2, .inl (cI, 40, .inl (fun j => nI (z j))))] sz)) (vx_X (fun (_ : Unit) => True) (fun (E : String) (_ : Unit) (tS : State) => (E = eIO ∧ ¬ (vp_in a9 n ∧ vp_in b9 n)) ∧ va_P (dC, dI) vwCl [(ax, .inr (3, [.ref ak, .ref ad, .ref ab, .ref ao, .ref aw])), (ak, .inr (0, [.ref k1, .ref k2, .int (nI n)])), (k1, .inl (cI, 8000, .inl (fun j => nI (g j)))), (k2, .inl (cI, 40, .inl (fun j => nI (z j))))] tS.heap ∧ va_K (dC, dI) vwCl [(cI, .int)] tS ∧ va_D (va_A [(ax, .inr (3, [.ref ak, .ref ad, .ref ab, .ref ao, .ref aw])), (ak, .inr (0, [.ref k1, .ref k2, .int (nI n)])), (k1, .inl (cI, 8000, .inl (fun j => nI (g j)))), (k2, .inl (cI, 40, .inl (fun j => nI (z j))))] sz) [(ax, .inr (3, [.ref ak, .ref ad, .ref ab, .ref ao, .ref aw])), (ak, .inr (0, [.ref k1, .ref k2, .int (nI n)])), (k1, .inl (cI, 8000, .inl (fun j => nI (g j)))), (k2, .inl (cI, 40, .inl (fun j => nI (z j))))]) (va_A [(ax, .inr (3, [.ref ak, .ref ad, .ref ab, .ref ao, .ref aw])), (ak, .inr (0, [.ref k1, .ref k2, .int (nI n)])), (k1, .inl (cI, 8000, .inl (fun j => nI (g j)))), (k2, .inl (cI, 40, .inl (fun j => nI (z j))))] sz)) 2 12 (va_A [(ax, .inr (3, [.ref ak, .ref ad, .ref ab, .ref ao, .ref aw])), (ak, .inr (0, [.ref k1, .ref k2, .int (nI n)])), (k1, .inl (cI, 8000, .inl (fun j => nI (g j)))), (k2, .inl (cI, 40, .inl (fun j => nI (z j))))] sz) := by
  refine vx_ofW (cc := cX3_compare) (maxL := 5) (ret := (some .int)) (by decide) rfl ?_
  intro p e s m args below meth c s₁ B hml hno hv
  obtain ⟨rfl, hsz, hP, hK, hD0, hZ, hT⟩ := hv
  have hx := B.exec
  have hb := B.bytes
  have hr := B.returns
  have hts := atoms_spec (ws := wsX3_compare) B.pre
  have hown : s.vm.findClass RX3 = some m.cls := findClass_of_methodNamed B.named
  have hlocks := B.notSynchronized
  subst hsz
  have hD := hD0.self (sz := s.heap.size)
  generalize hAe : va_A [(ax, .inr (3, [.ref ak, .ref ad, .ref ab, .ref ao, .ref aw])), (ak, .inr (0, [.ref k1, .ref k2, .int (nI n)])), (k1, .inl (cI, 8000, .inl (fun j => nI (g j)))), (k2, .inl (cI, 40, .inl (fun j => nI (z j))))] s.heap.size = A at hD hZ ⊢
  have hA : ∀ q : Nat, s.heap.size ≤ q → A q := fun q h => by rw [← hAe]; exact Or.inr h
  have hS : va_S A s.heap s.heap [] := va_S.rf
  have hinX0 : ∀ w ∈ wsX00, w ∈ wsX3_compare := by decide +kernel
  have hinX3 : ∀ w ∈ wsX30, w ∈ wsX3_compare := by decide +kernel
  have hl := lv_entry ([.ref ax, .int a9, .int b9]) (n := 5) (Nat.le_of_ble_eq_true rfl)
  rw [lg_entry_eq]
  generalize (lg_sl ([.ref ax, .int a9, .int b9]) ++ List.replicate (5 - (lg_sl ([.ref ax, .int a9, .int b9])).length) Slot.unset).toArray = ls at hl ⊢
  have hl : lv_has ls 5 [(0, .ref ax), (1, .int a9), (2, .int b9)] := hl
  obtain ⟨hg, hn, hz, hq⟩ := id hI
  refine lv_aload_n hx hb dX3_compare_0 rfl (lv_at hl 0 rfl) ?_
  refine lv_iload_n hx hb dX3_compare_1 rfl (lv_at hl 1 rfl) ?_
  have hPc := hP.sub (ws' := [(ax, .inr (3, [.ref ak, .ref ad, .ref ab, .ref ao, .ref aw])), (ak, .inr (0, [.ref k1, .ref k2, .int (nI n)])), (k1, .inl (cI, 8000, .inl (fun j => nI (g j)))), (k2, .inl (cI, 40, .inl (fun j => nI (z j))))]) [0, 1, 2, 3] rfl
  have hKc := hK.sub (tys' := [(cI, .int)]) [0] rfl
  have hDc := hD.sub (ws' := [(ax, .inr (3, [.ref ak, .ref ad, .ref ab, .ref ao, .ref aw])), (ak, .inr (0, [.ref k1, .ref k2, .int (nI n)])), (k1, .inl (cI, 8000, .inl (fun j => nI (g j)))), (k2, .inl (cI, 40, .inl (fun j => nI (z j))))]) [0, 1, 2, 3] (by decide) rfl
  have hFc := va_free (wc := [(ax, .inr (3, [.ref ak, .ref ad, .ref ab, .ref ao, .ref aw])), (ak, .inr (0, [.ref k1, .ref k2, .int (nI n)])), (k1, .inl (cI, 8000, .inl (fun j => nI (g j)))), (k2, .inl (cI, 40, .inl (fun j => nI (z j))))]) hD hS hA [0, 1, 2, 3] rfl
  refine vx_callv (vx_runV (As := [.int a9]) (rest := []) ⟨hx, hb, hml, hown, hts⟩ (c_X3_needNumber l hl9 dC dI cI ax ak ad ab ao aw k1 k2 n g z a9 s.heap.size hn) (cwV 1 hts gX3_compare_X3_needNumber rfl rfl rfl (by decide +kernel) ⟨Nat.le_of_ble_eq_true rfl, Nat.le_of_ble_eq_true rfl⟩) ⟨fun a U g mk q => by obtain ⟨q0, q1, qP, qK, qD, qZ, qT⟩ := q; exact ⟨q0, q1, qP, va_K.moved (u := U) (U := U.calling g mk a) (Vm.Alike.refl U.vm) qK, qD, tz.moved (u := U) (U := U.calling g mk a) (Vm.Alike.refl U.vm) qZ, tw.same (u := U) (U := U.calling g mk a) rfl qT⟩, va_recv hKc hPc (ci := 3) (q0 := 0) rfl rfl, fun U hU hW => ⟨rfl, by rw [hU], by rw [hU]; exact hPc, va_K.moved hW.alike hKc, hDc.weaken (fun _ _ _ _ => trivial), hZ.call hS hU hW hFc, hT.warm hW⟩⟩ rfl rfl hl.1 rfl (lv_room (Nat.le_of_ble_eq_true rfl)) dX3_compare_2 ⟨Nat.le_of_ble_eq_true rfl, Nat.le_of_ble_eq_true rfl⟩) hS (fun q _ h => hFc q h) hFc (fun q _ h => hFc q h) (fun E ce q9 uX tX H1 locs htX hvmX _ hBX hzS hkS hS hce hcv hcl => ?_) (fun uS tS H1 locs htS hvm h2 hB hzS hkS hS => ?_)
  · obtain ⟨hX2, hP1, hK1, hD1⟩ := hBX
    rw [htX] at hP1
    obtain ⟨hP, hD⟩ := va_join (wr := []) (w1 := [(ax, .inr (3, [.ref ak, .ref ad, .ref ab, .ref ao, .ref aw])), (ak, .inr (0, [.ref k1, .ref k2, .int (nI n)])), (k1, .inl (cI, 8000, .inl (fun j => nI (g j)))), (k2, .inl (cI, 40, .inl (fun j => nI (z j))))]) hP hD [0, 1, 2, 3] [] rfl rfl (by decide) (by decide) hkS hFc hP1 hD1
    have hP : va_P (dC, dI) vwCl [(ax, .inr (3, [.ref ak, .ref ad, .ref ab, .ref ao, .ref aw])), (ak, .inr (0, [.ref k1, .ref k2, .int (nI n)])), (k1, .inl (cI, 8000, .inl (fun j => nI (g j)))), (k2, .inl (cI, 40, .inl (fun j => nI (z j))))] H1 := hP
    have hD : va_D A [(ax, .inr (3, [.ref ak, .ref ad, .ref ab, .ref ao, .ref aw])), (ak, .inr (0, [.ref k1, .ref k2, .int (nI n)])), (k1, .inl (cI, 8000, .inl (fun j => nI (g j)))), (k2, .inl (cI, 40, .inl (fun j => nI (z j))))] := hD
    have hP9 := hP.sub (ws' := [(ax, .inr (3, [.ref ak, .ref ad, .ref ab, .ref ao, .ref aw])), (ak, .inr (0, [.ref k1, .ref k2, .int (nI n)])), (k1, .inl (cI, 8000, .inl (fun j => nI (g j)))), (k2, .inl (cI, 40, .inl (fun j => nI (z j))))]) [0, 1, 2, 3] rfl
    have hD9 := hD.sub (ws' := [(ax, .inr (3, [.ref ak, .ref ad, .ref ab, .ref ao, .ref aw])), (ak, .inr (0, [.ref k1, .ref k2, .int (nI n)])), (k1, .inl (cI, 8000, .inl (fun j => nI (g j)))), (k2, .inl (cI, 40, .inl (fun j => nI (z j))))]) [0, 1, 2, 3] (by decide) rfl
    have hK9 := hK.sub (tys' := [(cI, .int)]) [0] rfl
    exact vx_out (E := E) (fun x h => (hno x h).elim) hlocks hce hcv hcl (fun tS htS haS => ⟨(), trivial, ⟨⟨hX2.1, fun y => hX2.2 y.1⟩, by rw [htS]; exact hP9, va_K.moved haS hK9, hD9⟩, hS.F htS⟩) hS.2.2 (by omega) (by omega)
  obtain ⟨hP1, hK1, hD1⟩ := hB
  rw [htS] at hP1
  have hK1 := va_K.moved hvm.symm hK1
  try dsimp only at h2
  obtain ⟨hP, hD⟩ := va_join (wr := []) (w1 := [(ax, .inr (3, [.ref ak, .ref ad, .ref ab, .ref ao, .ref aw])), (ak, .inr (0, [.ref k1, .ref k2, .int (nI n)])), (k1, .inl (cI, 8000, .inl (fun j => nI (g j)))), (k2, .inl (cI, 40, .inl (fun j => nI (z j))))]) hP hD [0, 1, 2, 3] [] rfl rfl (by decide) (by decide) hkS hFc hP1 hD1
  generalize H1 = H at hP hS ⊢
  have hP : va_P (dC, dI) vwCl [(ax, .inr (3, [.ref ak, .ref ad, .ref ab, .ref ao, .ref aw])), (ak, .inr (0, [.ref k1, .ref k2, .int (nI n)])), (k1, .inl (cI, 8000, .inl (fun j => nI (g j)))), (k2, .inl (cI, 40, .inl (fun j => nI (z j))))] H := hP
  have hD : va_D A [(ax, .inr (3, [.ref ak, .ref ad, .ref ab, .ref ao, .ref aw])), (ak, .inr (0, [.ref k1, .ref k2, .int (nI n)])), (k1, .inl (cI, 8000, .inl (fun j => nI (g j)))), (k2, .inl (cI, 40, .inl (fun j => nI (z j))))] := hD
  refine W.widen (k := 1) (n := 6) (by omega) (by omega) ?_
  obtain ⟨a, ha, rfl⟩ := vp_in_of h2 (by omega)
  refine lv_aload_n hx hb dX3_compare_5 rfl (lv_at hl 0 rfl) ?_
  refine lv_iload_n hx hb dX3_compare_6 rfl (lv_at hl 2 rfl) ?_
  have hPc := hP.sub (ws' := [(ax, .inr (3, [.ref ak, .ref ad, .ref ab, .ref ao, .ref aw])), (ak, .inr (0, [.ref k1, .ref k2, .int (nI n)])), (k1, .inl (cI, 8000, .inl (fun j => nI (g j)))), (k2, .inl (cI, 40, .inl (fun j => nI (z j))))]) [0, 1, 2, 3] rfl
  have hKc := hK.sub (tys' := [(cI, .int)]) [0] rfl
  have hDc := hD.sub (ws' := [(ax, .inr (3, [.ref ak, .ref ad, .ref ab, .ref ao, .ref aw])), (ak, .inr (0, [.ref k1, .ref k2, .int (nI n)])), (k1, .inl (cI, 8000, .inl (fun j => nI (g j)))), (k2, .inl (cI, 40, .inl (fun j => nI (z j))))]) [0, 1, 2, 3] (by decide) rfl
  have hFc := va_free (wc := [(ax, .inr (3, [.ref ak, .ref ad, .ref ab, .ref ao, .ref aw])), (ak, .inr (0, [.ref k1, .ref k2, .int (nI n)])), (k1, .inl (cI, 8000, .inl (fun j => nI (g j)))), (k2, .inl (cI, 40, .inl (fun j => nI (z j))))]) hD hS hA [0, 1, 2, 3] rfl
  refine vx_callv (vx_runV (As := [.int b9]) (rest := []) ⟨hx, hb, hml, hown, hts⟩ (c_X3_needNumber l hl9 dC dI cI ax ak ad ab ao aw k1 k2 n g z b9 H.size hn) (cwV 1 hts gX3_compare_X3_needNumber rfl rfl rfl (by decide +kernel) ⟨Nat.le_of_ble_eq_true rfl, Nat.le_of_ble_eq_true rfl⟩) ⟨fun a U g mk q => by obtain ⟨q0, q1, qP, qK, qD, qZ, qT⟩ := q; exact ⟨q0, q1, qP, va_K.moved (u := U) (U := U.calling g mk a) (Vm.Alike.refl U.vm) qK, qD, tz.moved (u := U) (U := U.calling g mk a) (Vm.Alike.refl U.vm) qZ, tw.same (u := U) (U := U.calling g mk a) rfl qT⟩, va_recv hKc hPc (ci := 3) (q0 := 0) rfl rfl, fun U hU hW => ⟨rfl, by rw [hU], by rw [hU]; exact hPc, va_K.moved hW.alike hKc, hDc.weaken (fun _ _ _ _ => trivial), hZ.call hS hU hW hFc, hT.warm hW⟩⟩ rfl rfl hl.1 rfl (lv_room (Nat.le_of_ble_eq_true rfl)) dX3_compare_7 ⟨Nat.le_of_ble_eq_true rfl, Nat.le_of_ble_eq_true rfl⟩) hS (fun q _ h => hFc q h) hFc (fun q _ h => hFc q h) (fun E ce q9 uX tX H1 locs htX hvmX _ hBX hzS hkS hS hce hcv hcl => ?_) (fun uS tS H1 locs htS hvm h7 hB hzS hkS hS => ?_)
  · obtain ⟨hX7, hP1, hK1, hD1⟩ := hBX
    rw [htX] at hP1
    obtain ⟨hP, hD⟩ := va_join (wr := []) (w1 := [(ax, .inr (3, [.ref ak, .ref ad, .ref ab, .ref ao, .ref aw])), (ak, .inr (0, [.ref k1, .ref k2, .int (nI n)])), (k1, .inl (cI, 8000, .inl (fun j => nI (g j)))), (k2, .inl (cI, 40, .inl (fun j => nI (z j))))]) hP hD [0, 1, 2, 3] [] rfl rfl (by decide) (by decide) hkS hFc hP1 hD1
    have hP : va_P (dC, dI) vwCl [(ax, .inr (3, [.ref ak, .ref ad, .ref ab, .ref ao, .ref aw])), (ak, .inr (0, [.ref k1, .ref k2, .int (nI n)])), (k1, .inl (cI, 8000, .inl (fun j => nI (g j)))), (k2, .inl (cI, 40, .inl (fun j => nI (z j))))] H1 := hP
    have hD : va_D A [(ax, .inr (3, [.ref ak, .ref ad, .ref ab, .ref ao, .ref aw])), (ak, .inr (0, [.ref k1, .ref k2, .int (nI n)])), (k1, .inl (cI, 8000, .inl (fun j => nI (g j)))), (k2, .inl (cI, 40, .inl (fun j => nI (z j))))] := hD
    have hP9 := hP.sub (ws' := [(ax, .inr (3, [.ref ak, .ref ad, .ref ab, .ref ao, .ref aw])), (ak, .inr (0, [.ref k1, .ref k2, .int (nI n)])), (k1, .inl (cI, 8000, .inl (fun j => nI (g j)))), (k2, .inl (cI, 40, .inl (fun j => nI (z j))))]) [0, 1, 2, 3] rfl
    have hD9 := hD.sub (ws' := [(ax, .inr (3, [.ref ak, .ref ad, .ref ab, .ref ao, .ref aw])), (ak, .inr (0, [.ref k1, .ref k2, .int (nI n)])), (k1, .inl (cI, 8000, .inl (fun j => nI (g j)))), (k2, .inl (cI, 40, .inl (fun j => nI (z j))))]) [0, 1, 2, 3] (by decide) rfl
    have hK9 := hK.sub (tys' := [(cI, .int)]) [0] rfl
    exact vx_out (E := E) (fun x h => (hno x h).elim) hlocks hce hcv hcl (fun tS htS haS => ⟨(), trivial, ⟨⟨hX7.1, fun y => hX7.2 y.2⟩, by rw [htS]; exact hP9, va_K.moved haS hK9, hD9⟩, hS.F htS⟩) hS.2.2 (by omega) (by omega)
  obtain ⟨hP1, hK1, hD1⟩ := hB
  rw [htS] at hP1
  have hK1 := va_K.moved hvm.symm hK1
  try dsimp only at h7
  obtain ⟨hP, hD⟩ := va_join (wr := []) (w1 := [(ax, .inr (3, [.ref ak, .ref ad, .ref ab, .ref ao, .ref aw])), (ak, .inr (0, [.ref k1, .ref k2, .int (nI n)])), (k1, .inl (cI, 8000, .inl (fun j => nI (g j)))), (k2, .inl (cI, 40, .inl (fun j => nI (z j))))]) hP hD [0, 1, 2, 3] [] rfl rfl (by decide) (by decide) hkS hFc hP1 hD1
  generalize H1 = H at hP hS ⊢
  have hP : va_P (dC, dI) vwCl [(ax, .inr (3, [.ref ak, .ref ad, .ref ab, .ref ao, .ref aw])), (ak, .inr (0, [.ref k1, .ref k2, .int (nI n)])), (k1, .inl (cI, 8000, .inl (fun j => nI (g j)))), (k2, .inl (cI, 40, .inl (fun j => nI (z j))))] H := hP
  have hD : va_D A [(ax, .inr (3, [.ref ak, .ref ad, .ref ab, .ref ao, .ref aw])), (ak, .inr (0, [.ref k1, .ref k2, .int (nI n)])), (k1, .inl (cI, 8000, .inl (fun j => nI (g j)))), (k2, .inl (cI, 40, .inl (fun j => nI (z j))))] := hD
  refine W.widen (k := 2) (n := 12) (by omega) (by omega) ?_
  obtain ⟨b, hb9, rfl⟩ := vp_in_of h7 (by omega)
  have hza := hz a ha
  have hzb := hz b hb9
  refine lv_aload_n hx hb dX3_compare_10 rfl (lv_at hl 0 rfl) ?_
  refine va_get (D := (dC, dI)) (ci := 3) (v := .ref ak) (C := RX3) (T := TX3) (N := 5) hx hb hts hinX3 hown hK hP 0 rfl rfl 0 (by decide) (hts (.fieldLink RX3 12 "NumberContents" "kept" "LNumberContents$Numbers;") (by decide +kernel)) (fun _ h9 => h9) rfl dX3_compare_11 ?_
  refine lv_iload_n hx hb dX3_compare_14 rfl (lv_at hl 1 rfl) ?_
  have hPc := hP.sub (ws' := [(ak, .inr (0, [.ref k1, .ref k2, .int (nI n)])), (k1, .inl (cI, 8000, .inl (fun j => nI (g j)))), (k2, .inl (cI, 40, .inl (fun j => nI (z j))))]) [1, 2, 3] rfl
  have hKc := hK.sub (tys' := [(cI, .int)]) [0] rfl
  refine vp_callSi (W.runV (As := [.int (nI a)]) (rest := []) ⟨hx, hb, hml, hown, hts⟩ (c_X0_isMinus l dC dI cI ak k1 k2 n g z a hg hn hz ha) (cwV 1 hts gX3_compare_X0_isMinus rfl rfl rfl (by decide +kernel) ⟨Nat.le_of_ble_eq_true rfl, Nat.le_of_ble_eq_true rfl⟩) ⟨fun a U g mk q => by obtain ⟨q0, qP, qK⟩ := q; exact ⟨q0, qP, va_K.moved (u := U) (U := U.calling g mk a) (Vm.Alike.refl U.vm) qK⟩, va_recv hK hP (ci := 0) (q0 := 1) rfl rfl, fun U hU hW => ⟨rfl, by rw [hU]; exact hPc, va_K.moved hW.alike hKc⟩⟩ rfl rfl hl.1 rfl (lv_room (Nat.le_of_ble_eq_true rfl)) dX3_compare_15 ⟨Nat.le_of_ble_eq_true rfl, Nat.le_of_ble_eq_true rfl⟩) (fun r15 h15 => ?_)
  refine lv_istore_n (lv' := [(3, .int r15), (0, .ref ax), (1, .int (nI a)), (2, .int (nI b))]) hx hb dX3_compare_18 rfl hl (by decide) rfl (fun ls hl => ?_)
  refine lv_iload_n hx hb dX3_compare_19 rfl (lv_at hl 0 rfl) ?_
  refine lv_aload_n hx hb dX3_compare_20 rfl (lv_at hl 1 rfl) ?_
  refine va_get (D := (dC, dI)) (ci := 3) (v := .ref ak) (C := RX3) (T := TX3) (N := 5) hx hb hts hinX3 hown hK hP 0 rfl rfl 0 (by decide) (hts (.fieldLink RX3 12 "NumberContents" "kept" "LNumberContents$Numbers;") (by decide +kernel)) (fun _ h9 => h9) rfl dX3_compare_21 ?_
  refine lv_iload_n hx hb dX3_compare_24 rfl (lv_at hl 3 rfl) ?_
  have hPc := hP.sub (ws' := [(ak, .inr (0, [.ref k1, .ref k2, .int (nI n)])), (k1, .inl (cI, 8000, .inl (fun j => nI (g j)))), (k2, .inl (cI, 40, .inl (fun j => nI (z j))))]) [1, 2, 3] rfl
  have hKc := hK.sub (tys' := [(cI, .int)]) [0] rfl
  refine vp_callSi (W.runV (As := [.int (nI b)]) (rest := [.int r15]) ⟨hx, hb, hml, hown, hts⟩ (c_X0_isMinus l dC dI cI ak k1 k2 n g z b hg hn hz hb9) (cwV 1 hts gX3_compare_X0_isMinus rfl rfl rfl (by decide +kernel) ⟨Nat.le_of_ble_eq_true rfl, Nat.le_of_ble_eq_true rfl⟩) ⟨fun a U g mk q => by obtain ⟨q0, qP, qK⟩ := q; exact ⟨q0, qP, va_K.moved (u := U) (U := U.calling g mk a) (Vm.Alike.refl U.vm) qK⟩, va_recv hK hP (ci := 0) (q0 := 1) rfl rfl, fun U hU hW => ⟨rfl, by rw [hU]; exact hPc, va_K.moved hW.alike hKc⟩⟩ rfl rfl hl.1 rfl (lv_room (Nat.le_of_ble_eq_true rfl)) dX3_compare_25 ⟨Nat.le_of_ble_eq_true rfl, Nat.le_of_ble_eq_true rfl⟩) (fun r25 h25 => ?_)
  refine lv_icmp_eq (tgt := 41) hx hb dX3_compare_28 (by decide) (fun c28 => ?_) (fun c28 => ?_)
  · refine lv_aload_n hx hb dX3_compare_41 rfl (lv_at hl 1 rfl) ?_
    refine va_get (D := (dC, dI)) (ci := 3) (v := .ref ak) (C := RX3) (T := TX3) (N := 5) hx hb hts hinX3 hown hK hP 0 rfl rfl 0 (by decide) (hts (.fieldLink RX3 12 "NumberContents" "kept" "LNumberContents$Numbers;") (by decide +kernel)) (fun _ h9 => h9) rfl dX3_compare_42 ?_
    refine lv_iload_n hx hb dX3_compare_45 rfl (lv_at hl 2 rfl) ?_
    have hPc := hP.sub (ws' := [(ak, .inr (0, [.ref k1, .ref k2, .int (nI n)])), (k1, .inl (cI, 8000, .inl (fun j => nI (g j)))), (k2, .inl (cI, 40, .inl (fun j => nI (z j))))]) [1, 2, 3] rfl
    have hKc := hK.sub (tys' := [(cI, .int)]) [0] rfl
    refine vp_callSi (W.runV (As := [.int (nI a)]) (rest := []) ⟨hx, hb, hml, hown, hts⟩ (c_X0_sizeOf l dC dI cI ak k1 k2 n g z a hn ha) (cwV 1 hts gX3_compare_X0_sizeOf rfl rfl rfl (by decide +kernel) ⟨Nat.le_of_ble_eq_true rfl, Nat.le_of_ble_eq_true rfl⟩) ⟨fun a U g mk q => by obtain ⟨q0, qP, qK⟩ := q; exact ⟨q0, qP, va_K.moved (u := U) (U := U.calling g mk a) (Vm.Alike.refl U.vm) qK⟩, va_recv hK hP (ci := 0) (q0 := 1) rfl rfl, fun U hU hW => ⟨rfl, by rw [hU]; exact hPc, va_K.moved hW.alike hKc⟩⟩ rfl rfl hl.1 rfl (lv_room (Nat.le_of_ble_eq_true rfl)) dX3_compare_46 ⟨Nat.le_of_ble_eq_true rfl, Nat.le_of_ble_eq_true rfl⟩) (fun r46 h46 => ?_)
    obtain rfl : r46 = nI (z a) := h46
    refine lv_aload_n hx hb dX3_compare_49 rfl (lv_at hl 1 rfl) ?_
    refine va_get (D := (dC, dI)) (ci := 3) (v := .ref ak) (C := RX3) (T := TX3) (N := 5) hx hb hts hinX3 hown hK hP 0 rfl rfl 0 (by decide) (hts (.fieldLink RX3 12 "NumberContents" "kept" "LNumberContents$Numbers;") (by decide +kernel)) (fun _ h9 => h9) rfl dX3_compare_50 ?_
    refine lv_iload_n hx hb dX3_compare_53 rfl (lv_at hl 3 rfl) ?_
    have hPc := hP.sub (ws' := [(ak, .inr (0, [.ref k1, .ref k2, .int (nI n)])), (k1, .inl (cI, 8000, .inl (fun j => nI (g j)))), (k2, .inl (cI, 40, .inl (fun j => nI (z j))))]) [1, 2, 3] rfl
    have hKc := hK.sub (tys' := [(cI, .int)]) [0] rfl
    refine vp_callSi (W.runV (As := [.int (nI b)]) (rest := [.int (nI (z a))]) ⟨hx, hb, hml, hown, hts⟩ (c_X0_sizeOf l dC dI cI ak k1 k2 n g z b hn hb9) (cwV 1 hts gX3_compare_X0_sizeOf rfl rfl rfl (by decide +kernel) ⟨Nat.le_of_ble_eq_true rfl, Nat.le_of_ble_eq_true rfl⟩) ⟨fun a U g mk q => by obtain ⟨q0, qP, qK⟩ := q; exact ⟨q0, qP, va_K.moved (u := U) (U := U.calling g mk a) (Vm.Alike.refl U.vm) qK⟩, va_recv hK hP (ci := 0) (q0 := 1) rfl rfl, fun U hU hW => ⟨rfl, by rw [hU]; exact hPc, va_K.moved hW.alike hKc⟩⟩ rfl rfl hl.1 rfl (lv_room (Nat.le_of_ble_eq_true rfl)) dX3_compare_54 ⟨Nat.le_of_ble_eq_true rfl, Nat.le_of_ble_eq_true rfl⟩) (fun r54 h54 => ?_)
    obtain rfl : r54 = nI (z b) := h54
    refine vp_callSi (W.runS (As := [.int (nI (z a)), .int (nI (z b))]) (rest := []) ⟨hx, hb, hml, hown, hts⟩ (c_J6_compare_7cf53 l dC dI (nI (z a)) (nI (z b)) ) (va_cwS 2 hts gX3_compare_J6_compare_7cf53 rfl rfl rfl (by decide +kernel) ⟨Nat.le_of_ble_eq_true rfl, Nat.le_of_ble_eq_true rfl⟩) ⟨fun a U g mk q => q, fun U hU hW => ⟨rfl, trivial⟩⟩ rfl rfl hl.1 rfl (lv_room (Nat.le_of_ble_eq_true rfl)) dX3_compare_57 ⟨Nat.le_of_ble_eq_true rfl, Nat.le_of_ble_eq_true rfl⟩) (fun r57 h57 => ?_)
    refine lv_istore (lv' := [(4, .int r57), (3, .int r15), (0, .ref ax), (1, .int (nI a)), (2, .int (nI b))]) hx hb dX3_compare_60 hl (by decide) rfl (fun ls hl => ?_)
    refine lv_iload hx hb dX3_compare_62 (lv_at hl 0 rfl) ?_
    refine lv_if_eq (tgt := 80) hx hb dX3_compare_64 (by decide) (fun c64 => ?_) (fun c64 => ?_)
    · refine lv_aload_n hx hb dX3_compare_80 rfl (lv_at hl 2 rfl) ?_
      refine lv_iload_n hx hb dX3_compare_81 rfl (lv_at hl 3 rfl) ?_
      refine lv_iload_n hx hb dX3_compare_82 rfl (lv_at hl 4 rfl) ?_
      have hPc := hP.sub (ws' := [(ax, .inr (3, [.ref ak, .ref ad, .ref ab, .ref ao, .ref aw])), (ak, .inr (0, [.ref k1, .ref k2, .int (nI n)])), (k1, .inl (cI, 8000, .inl (fun j => nI (g j)))), (k2, .inl (cI, 40, .inl (fun j => nI (z j))))]) [0, 1, 2, 3] rfl
      have hKc := hK.sub (tys' := [(cI, .int)]) [0] rfl
      refine vp_callSi (W.runV (As := [.int (nI a), .int (nI b)]) (rest := []) ⟨hx, hb, hml, hown, hts⟩ (c_X3_compareBytes l dC dI cI ax ak ad ab ao aw k1 k2 n g z a b hg hn hz ha hb9 (cm_eqz (by omega) (by omega) h57 c64)) (cwV 2 hts gX3_compare_X3_compareBytes rfl rfl rfl (by decide +kernel) ⟨Nat.le_of_ble_eq_true rfl, Nat.le_of_ble_eq_true rfl⟩) ⟨fun a U g mk q => by obtain ⟨q0, qP, qK⟩ := q; exact ⟨q0, qP, va_K.moved (u := U) (U := U.calling g mk a) (Vm.Alike.refl U.vm) qK⟩, va_recv hK hP (ci := 3) (q0 := 0) rfl rfl, fun U hU hW => ⟨rfl, by rw [hU]; exact hPc, va_K.moved hW.alike hKc⟩⟩ rfl rfl hl.1 rfl (lv_room (Nat.le_of_ble_eq_true rfl)) dX3_compare_83 ⟨Nat.le_of_ble_eq_true rfl, Nat.le_of_ble_eq_true rfl⟩) (fun r83 h83 => ?_)
      have hP9 := hP.sub (ws' := [(ax, .inr (3, [.ref ak, .ref ad, .ref ab, .ref ao, .ref aw])), (ak, .inr (0, [.ref k1, .ref k2, .int (nI n)])), (k1, .inl (cI, 8000, .inl (fun j => nI (g j)))), (k2, .inl (cI, 40, .inl (fun j => nI (z j))))]) [0, 1, 2, 3] rfl
      have hD9 := hD.sub (ws' := [(ax, .inr (3, [.ref ak, .ref ad, .ref ab, .ref ao, .ref aw])), (ak, .inr (0, [.ref k1, .ref k2, .int (nI n)])), (k1, .inl (cI, 8000, .inl (fun j => nI (g j)))), (k2, .inl (cI, 40, .inl (fun j => nI (z j))))]) [0, 1, 2, 3] (by decide) rfl
      have hK9 := hK.sub (tys' := [(cI, .int)]) [0] rfl
      exact vx_ret (W.widen (k := 2) (n := 12) (by omega) (by omega) (W.iret (v := r83) hx hb hr (fun tS htS hW => ⟨⟨r83, (), rfl, ⟨a, b, rfl, ha, rfl, hb9, cm_bv (cm_eqz (by omega) (by omega) h57 c64) (cm_sg h15 h25 c28) h83⟩, by rw [htS]; exact hP9, va_K.moved hW.alike hK9, hD9⟩, hS.F htS⟩) hS.2.2 dX3_compare_86))
    · refine lv_iload_n hx hb dX3_compare_67 rfl (lv_at hl 1 rfl) ?_
      refine lv_if_eq (tgt := 77) hx hb dX3_compare_68 (by decide) (fun c68 => ?_) (fun c68 => ?_)
      · refine lv_iload hx hb dX3_compare_77 (lv_at hl 0 rfl) ?_
        have hP9 := hP.sub (ws' := [(ax, .inr (3, [.ref ak, .ref ad, .ref ab, .ref ao, .ref aw])), (ak, .inr (0, [.ref k1, .ref k2, .int (nI n)])), (k1, .inl (cI, 8000, .inl (fun j => nI (g j)))), (k2, .inl (cI, 40, .inl (fun j => nI (z j))))]) [0, 1, 2, 3] rfl
        have hD9 := hD.sub (ws' := [(ax, .inr (3, [.ref ak, .ref ad, .ref ab, .ref ao, .ref aw])), (ak, .inr (0, [.ref k1, .ref k2, .int (nI n)])), (k1, .inl (cI, 8000, .inl (fun j => nI (g j)))), (k2, .inl (cI, 40, .inl (fun j => nI (z j))))]) [0, 1, 2, 3] (by decide) rfl
        have hK9 := hK.sub (tys' := [(cI, .int)]) [0] rfl
        exact vx_ret (W.widen (k := 2) (n := 12) (by omega) (by omega) (W.iret (v := r57) hx hb hr (fun tS htS hW => ⟨⟨r57, (), rfl, ⟨a, b, rfl, ha, rfl, hb9, (by have sg := cm_sg h15 h25 c28; have cz := cm_sz (by omega) (by omega) (hq a ha) (hq b hb9) h57 c64; first | exact e73 ▸ cz.2 (nv_neg hg (ite_s h15 c68)) (nv_neg hg (sg.mp (ite_s h15 c68))) | exact cz.1 (nv_pos (ite_r h15 c68)) (nv_pos (fun y => ite_r h15 c68 (sg.mpr y))))⟩, by rw [htS]; exact hP9, va_K.moved hW.alike hK9, hD9⟩, hS.F htS⟩) hS.2.2 dX3_compare_79))
      · refine lv_iload hx hb dX3_compare_71 (lv_at hl 0 rfl) ?_
        refine lv_ineg hx hb dX3_compare_73 ?_
        refine lv_topi (fun x73 e73 => ?_)
        refine lv_goto (tgt := 79) hx hb dX3_compare_74 (by decide) ?_
        have hP9 := hP.sub (ws' := [(ax, .inr (3, [.ref ak, .ref ad, .ref ab, .ref ao, .ref aw])), (ak, .inr (0, [.ref k1, .ref k2, .int (nI n)])), (k1, .inl (cI, 8000, .inl (fun j => nI (g j)))), (k2, .inl (cI, 40, .inl (fun j => nI (z j))))]) [0, 1, 2, 3] rfl
        have hD9 := hD.sub (ws' := [(ax, .inr (3, [.ref ak, .ref ad, .ref ab, .ref ao, .ref aw])), (ak, .inr (0, [.ref k1, .ref k2, .int (nI n)])), (k1, .inl (cI, 8000, .inl (fun j => nI (g j)))), (k2, .inl (cI, 40, .inl (fun j => nI (z j))))]) [0, 1, 2, 3] (by decide) rfl
        have hK9 := hK.sub (tys' := [(cI, .int)]) [0] rfl
        exact vx_ret (W.widen (k := 2) (n := 12) (by omega) (by omega) (W.iret (v := x73) hx hb hr (fun tS htS hW => ⟨⟨x73, (), rfl, ⟨a, b, rfl, ha, rfl, hb9, (by have sg := cm_sg h15 h25 c28; have cz := cm_sz (by omega) (by omega) (hq a ha) (hq b hb9) h57 c64; first | exact e73 ▸ cz.2 (nv_neg hg (ite_s h15 c68)) (nv_neg hg (sg.mp (ite_s h15 c68))) | exact cz.1 (nv_pos (ite_r h15 c68)) (nv_pos (fun y => ite_r h15 c68 (sg.mpr y))))⟩, by rw [htS]; exact hP9, va_K.moved hW.alike hK9, hD9⟩, hS.F htS⟩) hS.2.2 dX3_compare_79))
  · refine lv_iload_n hx hb dX3_compare_31 rfl (lv_at hl 0 rfl) ?_
    refine lv_if_eq (tgt := 39) hx hb dX3_compare_32 (by decide) (fun c32 => ?_) (fun c32 => ?_)
    · refine lv_iconst (v := 1) hx hb dX3_compare_39 (by decide) ?_
      have hP9 := hP.sub (ws' := [(ax, .inr (3, [.ref ak, .ref ad, .ref ab, .ref ao, .ref aw])), (ak, .inr (0, [.ref k1, .ref k2, .int (nI n)])), (k1, .inl (cI, 8000, .inl (fun j => nI (g j)))), (k2, .inl (cI, 40, .inl (fun j => nI (z j))))]) [0, 1, 2, 3] rfl
      have hD9 := hD.sub (ws' := [(ax, .inr (3, [.ref ak, .ref ad, .ref ab, .ref ao, .ref aw])), (ak, .inr (0, [.ref k1, .ref k2, .int (nI n)])), (k1, .inl (cI, 8000, .inl (fun j => nI (g j)))), (k2, .inl (cI, 40, .inl (fun j => nI (z j))))]) [0, 1, 2, 3] (by decide) rfl
      have hK9 := hK.sub (tys' := [(cI, .int)]) [0] rfl
      exact vx_ret (W.widen (k := 2) (n := 12) (by omega) (by omega) (W.iret (v := 1) hx hb hr (fun tS htS hW => ⟨⟨1, (), rfl, ⟨a, b, rfl, ha, rfl, hb9, (by first | exact Or.inl ⟨rfl, (by have d := cm_df h15 h25 c28 c32; have x1 := nv_pos d.1; have x2 := nv_neg hg d.2; omega)⟩ | exact Or.inr (Or.inl ⟨rfl, (by have d := cm_df2 h15 h25 c28 c32; have x1 := nv_neg hg d.1; have x2 := nv_pos d.2; omega)⟩))⟩, by rw [htS]; exact hP9, va_K.moved hW.alike hK9, hD9⟩, hS.F htS⟩) hS.2.2 dX3_compare_40))
    · refine lv_iconst (v := (-1)) hx hb dX3_compare_35 (by decide) ?_
      refine lv_goto (tgt := 40) hx hb dX3_compare_36 (by decide) ?_
      have hP9 := hP.sub (ws' := [(ax, .inr (3, [.ref ak, .ref ad, .ref ab, .ref ao, .ref aw])), (ak, .inr (0, [.ref k1, .ref k2, .int (nI n)])), (k1, .inl (cI, 8000, .inl (fun j => nI (g j)))), (k2, .inl (cI, 40, .inl (fun j => nI (z j))))]) [0, 1, 2, 3] rfl
      have hD9 := hD.sub (ws' := [(ax, .inr (3, [.ref ak, .ref ad, .ref ab, .ref ao, .ref aw])), (ak, .inr (0, [.ref k1, .ref k2, .int (nI n)])), (k1, .inl (cI, 8000, .inl (fun j => nI (g j)))), (k2, .inl (cI, 40, .inl (fun j => nI (z j))))]) [0, 1, 2, 3] (by decide) rfl
      have hK9 := hK.sub (tys' := [(cI, .int)]) [0] rfl
      exact vx_ret (W.widen (k := 2) (n := 12) (by omega) (by omega) (W.iret (v := (-1)) hx hb hr (fun tS htS hW => ⟨⟨(-1), (), rfl, ⟨a, b, rfl, ha, rfl, hb9, (by first | exact Or.inl ⟨rfl, (by have d := cm_df h15 h25 c28 c32; have x1 := nv_pos d.1; have x2 := nv_neg hg d.2; omega)⟩ | exact Or.inr (Or.inl ⟨rfl, (by have d := cm_df2 h15 h25 c28 c32; have x1 := nv_neg hg d.1; have x2 := nv_pos d.2; omega)⟩))⟩, by rw [htS]; exact hP9, va_K.moved hW.alike hK9, hD9⟩, hS.F htS⟩) hS.2.2 dX3_compare_40))

theorem sm_sh {x : Int32} {b : Nat} (h1 : -8388608 ≤ x.toInt) (h2 : x.toInt < 8388608) (hb : b < 256) : ((x <<< ((8 : Int32) &&& 31)) ||| nI b).toInt = x.toInt * 256 + b := by
  have e1 := pk_shl x ((8 : Int32) &&& 31) 8 (by decide)
  have e2 : ((x <<< ((8 : Int32) &&& 31)) ||| nI b).toBitVec.toNat = 256 * (x.toBitVec.toNat % 16777216) + b := by
    rw [Int32.toBitVec_or, BitVec.toNat_or, e1, pk_tn (by omega), show x.toBitVec.toNat * 2 ^ 8 % 2 ^ 32 = 2 ^ 8 * (x.toBitVec.toNat % 16777216) from by omega, ← Nat.two_pow_add_eq_or_of_lt (by omega)]
  have hx : x.toInt = x.toBitVec.toInt := rfl
  have hl := x.toBitVec.isLt
  have hr : ((x <<< ((8 : Int32) &&& 31)) ||| nI b).toInt = ((x <<< ((8 : Int32) &&& 31)) ||| nI b).toBitVec.toInt := rfl
  rw [hr, BitVec.toInt_eq_toNat_cond, e2]
  rw [hx, BitVec.toInt_eq_toNat_cond] at h1 h2 ⊢
  split at h1 <;> split <;> omega
theorem sm_rng {x y : Int} {za i B : Nat} (hza : 1 ≤ za) (hz4 : za ≤ 4) (hi : i < za) (hf : fitz y za) (hB : B < 256 ^ (za - i)) (h : x * ((256 ^ (za - i) : Nat) : Int) + B = y) : -8388608 ≤ x ∧ x < 8388608 := by
  unfold fitz at hf
  rcases (show za = 1 ∨ za = 2 ∨ za = 3 ∨ za = 4 by omega) with rfl | rfl | rfl | rfl
  · rcases (show i = 0 by omega) with rfl; simp only [Nat.sub_zero, Nat.sub_self, Nat.reducePow, Nat.reduceSub] at *; omega
  · rcases (show i = 0 ∨ i = 1 by omega) with rfl | rfl <;> simp only [Nat.sub_zero, Nat.reducePow, Nat.reduceSub] at * <;> omega
  · rcases (show i = 0 ∨ i = 1 ∨ i = 2 by omega) with rfl | rfl | rfl <;> simp only [Nat.sub_zero, Nat.reducePow, Nat.reduceSub] at * <;> omega
  · rcases (show i = 0 ∨ i = 1 ∨ i = 2 ∨ i = 3 by omega) with rfl | rfl | rfl | rfl <;> simp only [Nat.sub_zero, Nat.reducePow, Nat.reduceSub] at * <;> omega
theorem sm_step {x x2 y : Int} {g : Nat → Nat} {za i : Nat} (hi : i < za) (h : x * ((256 ^ (za - i) : Nat) : Int) + bv g (za - i) = y) (h2 : x2 = x * 256 + g (za - 1 - i)) : x2 * ((256 ^ (za - (i + 1)) : Nat) : Int) + bv g (za - (i + 1)) = y := by
  obtain ⟨k, hk⟩ : ∃ k, za - i = k + 1 := ⟨za - i - 1, by omega⟩
  rw [hk, bv_s, pw_s] at h
  rw [show za - (i + 1) = k from by omega, h2, show za - 1 - i = k from by omega]
  generalize 256 ^ k = P at *
  rw [show ((256 * P : Nat) : Int) = 256 * (P : Int) from by omega] at h
  simp only [Int.natCast_add, Int.natCast_mul] at h
  grind
theorem sm_0 {g z : Nat → Nat} {a : Nat} : (if 128 ≤ g (a * 200 + (z a - 1)) then (-1 : Int) else 0) * ((256 ^ (z a) : Nat) : Int) + bv (fun j => g (a * 200 + j)) (z a) = nval g z a := by
  unfold nval sv
  dsimp only
  by_cases h : 128 ≤ g (a * 200 + (z a - 1))
  · rw [if_pos h, if_pos h]; omega
  · rw [if_neg h, if_neg h]; omega

set_option maxHeartbeats 4000000 in
set_option maxRecDepth 100000 in
theorem c_X3_small (l : Launch) (hl9 : l.stackTraces = false) (dC : Nat → ClassId) (dI : Nat → Nat → Nat) (cI : ClassId) (ax ak ad ab ao aw : Nat) (k1 k2 n : Nat) (g z : Nat → Nat) (a9 : Int32) (sz : Nat) (hI : XK n g z) : vx_Met l yX3_small wsX3_small ({ frames := 7, cells := 2, slots := 12, locals := 107 } : Room) (va_Pc [.ref ax, .int a9] (fun U => U.heap.size = sz ∧ va_P (dC, dI) vwCl [(ax, .inr (3, [.ref ak, .ref ad, .ref ab, .ref ao, .ref aw])), (ak, .inr (0, [.ref k1, .ref k2, .int (nI n)])), (k1, .inl (cI, 8000, .inl (fun j => nI (g j)))), (k2, .inl (cI, 40, .inl (fun j => nI (z j))))] U.heap ∧ va_K (dC, dI) vwCl [(cI, .int)] U ∧ va_D (fun _ => True) [(ax, .inr (3, [.ref ak, .ref ad, .ref ab, .ref ao, .ref aw])), (ak, .inr (0, [.ref k1, .ref k2, .int (nI n)])), (k1, .inl (cI, 8000, .inl (fun j => nI (g j)))), (k2, .inl (cI, 40, .inl (fun j => nI (z j))))] ∧ tz (va_A [(ax, .inr (3, [.ref ak, .ref ad, .ref ab, .ref ao, .ref aw])), (ak, .inr (0, [.ref k1, .ref k2, .int (nI n)])), (k1, .inl (cI, 8000, .inl (fun j => nI (g j)))), (k2, .inl (cI, 40, .inl (fun j => nI (z j))))] sz) U U.heap ∧ tw U)) (va_Qi (fun (r : Int32) (_ : Unit) => ∃ aA, a9 = nI aA ∧ aA < n ∧ z aA ≤ 4 ∧ r.toInt = nval g z aA) (fun (_ : Unit) (tS : State) => va_P (dC, dI) vwCl [(ax, .inr (3, [.ref ak, .ref ad, .ref ab, .ref ao, .ref aw])), (ak, .inr (0, [.ref k1, .ref k2, .int (nI n)])), (k1, .inl (cI, 8000, .inl (fun j => nI (g j)))), (k2, .inl (cI, 40, .inl (fun j => nI (z j))))] tS.heap ∧ va_K (dC, dI) vwCl [(cI, .int)] tS ∧ va_D (va_A [(ax, .inr (3, [.ref ak, .ref ad, .ref ab, .ref ao, .ref aw])), (ak, .inr (0, [.ref k1, .ref k2, .int (nI n)])), (k1, .inl (cI, 8000, .inl (fun j => nI (g j)))), (k2, .inl (cI, 40, .inl (fun j => nI (z j))))] sz) [(ax, .inr (3, [.ref ak, .ref ad, .ref ab, .ref ao, .ref aw])), (ak, .inr (0, [.ref k1, .ref k2, .int (nI n)])), (k1, .inl (cI, 8000, .inl (fun j => nI (g j)))), (k2, .inl (cI, 40, .inl (fun j => nI (z j))))]) (va_A [(ax, .inr (3, [.ref ak, .ref ad, .ref ab, .ref ao, .ref aw])), (ak, .inr (0, [.ref k1, .ref k2, .int (nI n)])), (k1, .inl (cI, 8000, .inl (fun j => nI (g j)))), (k2, .inl (cI, 40, .inl (fun j => nI (z j))))] sz)) (vx_X (fun (_ : Unit) => True) (fun (E : String) (_ : Unit) (tS : State) => ((E = eIO ∧ ¬ vp_in a9 n) ∨ (E = eIA ∧ ∃ aA, a9 = nI aA ∧ aA < n ∧ 4 < z aA)) ∧ va_P (dC, dI) vwCl [(ax, .inr (3, [.ref ak, .ref ad, .ref ab, .ref ao, .ref aw])), (ak, .inr (0, [.ref k1, .ref k2, .int (nI n)])), (k1, .inl (cI, 8000, .inl (fun j => nI (g j)))), (k2, .inl (cI, 40, .inl (fun j => nI (z j))))] tS.heap ∧ va_K (dC, dI) vwCl [(cI, .int)] tS ∧ va_D (va_A [(ax, .inr (3, [.ref ak, .ref ad, .ref ab, .ref ao, .ref aw])), (ak, .inr (0, [.ref k1, .ref k2, .int (nI n)])), (k1, .inl (cI, 8000, .inl (fun j => nI (g j)))), (k2, .inl (cI, 40, .inl (fun j => nI (z j))))] sz) [(ax, .inr (3, [.ref ak, .ref ad, .ref ab, .ref ao, .ref aw])), (ak, .inr (0, [.ref k1, .ref k2, .int (nI n)])), (k1, .inl (cI, 8000, .inl (fun j => nI (g j)))), (k2, .inl (cI, 40, .inl (fun j => nI (z j))))]) (va_A [(ax, .inr (3, [.ref ak, .ref ad, .ref ab, .ref ao, .ref aw])), (ak, .inr (0, [.ref k1, .ref k2, .int (nI n)])), (k1, .inl (cI, 8000, .inl (fun j => nI (g j)))), (k2, .inl (cI, 40, .inl (fun j => nI (z j))))] sz)) 2 12 (va_A [(ax, .inr (3, [.ref ak, .ref ad, .ref ab, .ref ao, .ref aw])), (ak, .inr (0, [.ref k1, .ref k2, .int (nI n)])), (k1, .inl (cI, 8000, .inl (fun j => nI (g j)))), (k2, .inl (cI, 40, .inl (fun j => nI (z j))))] sz) := by
  refine vx_ofW (cc := cX3_small) (maxL := 5) (ret := (some .int)) (by decide) rfl ?_
  intro p e s m args below meth c s₁ B hml hno hv
  obtain ⟨rfl, hsz, hP, hK, hD0, hZ, hT⟩ := hv
  have hx := B.exec
  have hb := B.bytes
  have hr := B.returns
  have hts := atoms_spec (ws := wsX3_small) B.pre
  have hown : s.vm.findClass RX3 = some m.cls := findClass_of_methodNamed B.named
  have hlocks := B.notSynchronized
  subst hsz
  have hD := hD0.self (sz := s.heap.size)
  generalize hAe : va_A [(ax, .inr (3, [.ref ak, .ref ad, .ref ab, .ref ao, .ref aw])), (ak, .inr (0, [.ref k1, .ref k2, .int (nI n)])), (k1, .inl (cI, 8000, .inl (fun j => nI (g j)))), (k2, .inl (cI, 40, .inl (fun j => nI (z j))))] s.heap.size = A at hD hZ ⊢
  have hA : ∀ q : Nat, s.heap.size ≤ q → A q := fun q h => by rw [← hAe]; exact Or.inr h
  have hS : va_S A s.heap s.heap [] := va_S.rf
  have hinX0 : ∀ w ∈ wsX00, w ∈ wsX3_small := by decide +kernel
  have hinX3 : ∀ w ∈ wsX30, w ∈ wsX3_small := by decide +kernel
  have hl := lv_entry ([.ref ax, .int a9]) (n := 5) (Nat.le_of_ble_eq_true rfl)
  rw [lg_entry_eq]
  generalize (lg_sl ([.ref ax, .int a9]) ++ List.replicate (5 - (lg_sl ([.ref ax, .int a9])).length) Slot.unset).toArray = ls at hl ⊢
  have hl : lv_has ls 5 [(0, .ref ax), (1, .int a9)] := hl
  obtain ⟨hg, hn, hz, hq⟩ := id hI
  refine lv_aload_n hx hb dX3_small_0 rfl (lv_at hl 0 rfl) ?_
  refine lv_iload_n hx hb dX3_small_1 rfl (lv_at hl 1 rfl) ?_
  have hPc := hP.sub (ws' := [(ax, .inr (3, [.ref ak, .ref ad, .ref ab, .ref ao, .ref aw])), (ak, .inr (0, [.ref k1, .ref k2, .int (nI n)])), (k1, .inl (cI, 8000, .inl (fun j => nI (g j)))), (k2, .inl (cI, 40, .inl (fun j => nI (z j))))]) [0, 1, 2, 3] rfl
  have hKc := hK.sub (tys' := [(cI, .int)]) [0] rfl
  have hDc := hD.sub (ws' := [(ax, .inr (3, [.ref ak, .ref ad, .ref ab, .ref ao, .ref aw])), (ak, .inr (0, [.ref k1, .ref k2, .int (nI n)])), (k1, .inl (cI, 8000, .inl (fun j => nI (g j)))), (k2, .inl (cI, 40, .inl (fun j => nI (z j))))]) [0, 1, 2, 3] (by decide) rfl
  have hFc := va_free (wc := [(ax, .inr (3, [.ref ak, .ref ad, .ref ab, .ref ao, .ref aw])), (ak, .inr (0, [.ref k1, .ref k2, .int (nI n)])), (k1, .inl (cI, 8000, .inl (fun j => nI (g j)))), (k2, .inl (cI, 40, .inl (fun j => nI (z j))))]) hD hS hA [0, 1, 2, 3] rfl
  refine vx_callv (vx_runV (As := [.int a9]) (rest := []) ⟨hx, hb, hml, hown, hts⟩ (c_X3_needNumber l hl9 dC dI cI ax ak ad ab ao aw k1 k2 n g z a9 s.heap.size hn) (cwV 1 hts gX3_small_X3_needNumber rfl rfl rfl (by decide +kernel) ⟨Nat.le_of_ble_eq_true rfl, Nat.le_of_ble_eq_true rfl⟩) ⟨fun a U g mk q => by obtain ⟨q0, q1, qP, qK, qD, qZ, qT⟩ := q; exact ⟨q0, q1, qP, va_K.moved (u := U) (U := U.calling g mk a) (Vm.Alike.refl U.vm) qK, qD, tz.moved (u := U) (U := U.calling g mk a) (Vm.Alike.refl U.vm) qZ, tw.same (u := U) (U := U.calling g mk a) rfl qT⟩, va_recv hKc hPc (ci := 3) (q0 := 0) rfl rfl, fun U hU hW => ⟨rfl, by rw [hU], by rw [hU]; exact hPc, va_K.moved hW.alike hKc, hDc.weaken (fun _ _ _ _ => trivial), hZ.call hS hU hW hFc, hT.warm hW⟩⟩ rfl rfl hl.1 rfl (lv_room (Nat.le_of_ble_eq_true rfl)) dX3_small_2 ⟨Nat.le_of_ble_eq_true rfl, Nat.le_of_ble_eq_true rfl⟩) hS (fun q _ h => hFc q h) hFc (fun q _ h => hFc q h) (fun E ce q9 uX tX H1 locs htX hvmX _ hBX hzS hkS hS hce hcv hcl => ?_) (fun uS tS H1 locs htS hvm h2 hB hzS hkS hS => ?_)
  · obtain ⟨hX2, hP1, hK1, hD1⟩ := hBX
    rw [htX] at hP1
    obtain ⟨hP, hD⟩ := va_join (wr := []) (w1 := [(ax, .inr (3, [.ref ak, .ref ad, .ref ab, .ref ao, .ref aw])), (ak, .inr (0, [.ref k1, .ref k2, .int (nI n)])), (k1, .inl (cI, 8000, .inl (fun j => nI (g j)))), (k2, .inl (cI, 40, .inl (fun j => nI (z j))))]) hP hD [0, 1, 2, 3] [] rfl rfl (by decide) (by decide) hkS hFc hP1 hD1
    have hP : va_P (dC, dI) vwCl [(ax, .inr (3, [.ref ak, .ref ad, .ref ab, .ref ao, .ref aw])), (ak, .inr (0, [.ref k1, .ref k2, .int (nI n)])), (k1, .inl (cI, 8000, .inl (fun j => nI (g j)))), (k2, .inl (cI, 40, .inl (fun j => nI (z j))))] H1 := hP
    have hD : va_D A [(ax, .inr (3, [.ref ak, .ref ad, .ref ab, .ref ao, .ref aw])), (ak, .inr (0, [.ref k1, .ref k2, .int (nI n)])), (k1, .inl (cI, 8000, .inl (fun j => nI (g j)))), (k2, .inl (cI, 40, .inl (fun j => nI (z j))))] := hD
    have hP9 := hP.sub (ws' := [(ax, .inr (3, [.ref ak, .ref ad, .ref ab, .ref ao, .ref aw])), (ak, .inr (0, [.ref k1, .ref k2, .int (nI n)])), (k1, .inl (cI, 8000, .inl (fun j => nI (g j)))), (k2, .inl (cI, 40, .inl (fun j => nI (z j))))]) [0, 1, 2, 3] rfl
    have hD9 := hD.sub (ws' := [(ax, .inr (3, [.ref ak, .ref ad, .ref ab, .ref ao, .ref aw])), (ak, .inr (0, [.ref k1, .ref k2, .int (nI n)])), (k1, .inl (cI, 8000, .inl (fun j => nI (g j)))), (k2, .inl (cI, 40, .inl (fun j => nI (z j))))]) [0, 1, 2, 3] (by decide) rfl
    have hK9 := hK.sub (tys' := [(cI, .int)]) [0] rfl
    exact vx_out (E := E) (fun x h => (hno x h).elim) hlocks hce hcv hcl (fun tS htS haS => ⟨(), trivial, ⟨(Or.inl hX2), by rw [htS]; exact hP9, va_K.moved haS hK9, hD9⟩, hS.F htS⟩) hS.2.2 (by omega) (by omega)
  obtain ⟨hP1, hK1, hD1⟩ := hB
  rw [htS] at hP1
  have hK1 := va_K.moved hvm.symm hK1
  try dsimp only at h2
  obtain ⟨hP, hD⟩ := va_join (wr := []) (w1 := [(ax, .inr (3, [.ref ak, .ref ad, .ref ab, .ref ao, .ref aw])), (ak, .inr (0, [.ref k1, .ref k2, .int (nI n)])), (k1, .inl (cI, 8000, .inl (fun j => nI (g j)))), (k2, .inl (cI, 40, .inl (fun j => nI (z j))))]) hP hD [0, 1, 2, 3] [] rfl rfl (by decide) (by decide) hkS hFc hP1 hD1
  generalize H1 = H at hP hS ⊢
  have hP : va_P (dC, dI) vwCl [(ax, .inr (3, [.ref ak, .ref ad, .ref ab, .ref ao, .ref aw])), (ak, .inr (0, [.ref k1, .ref k2, .int (nI n)])), (k1, .inl (cI, 8000, .inl (fun j => nI (g j)))), (k2, .inl (cI, 40, .inl (fun j => nI (z j))))] H := hP
  have hD : va_D A [(ax, .inr (3, [.ref ak, .ref ad, .ref ab, .ref ao, .ref aw])), (ak, .inr (0, [.ref k1, .ref k2, .int (nI n)])), (k1, .inl (cI, 8000, .inl (fun j => nI (g j)))), (k2, .inl (cI, 40, .inl (fun j => nI (z j))))] := hD
  refine W.widen (k := 1) (n := 6) (by omega) (by omega) ?_
  obtain ⟨a, ha, rfl⟩ := vp_in_of h2 (by omega)
  have hza := hz a ha
  refine lv_aload_n hx hb dX3_small_5 rfl (lv_at hl 0 rfl) ?_
  refine va_get (D := (dC, dI)) (ci := 3) (v := .ref ak) (C := RX3) (T := TX3) (N := 5) hx hb hts hinX3 hown hK hP 0 rfl rfl 0 (by decide) (hts (.fieldLink RX3 12 "NumberContents" "kept" "LNumberContents$Numbers;") (by decide +kernel)) (fun _ h9 => h9) rfl dX3_small_6 ?_
  refine lv_iload_n hx hb dX3_small_9 rfl (lv_at hl 1 rfl) ?_
  have hPc := hP.sub (ws' := [(ak, .inr (0, [.ref k1, .ref k2, .int (nI n)])), (k1, .inl (cI, 8000, .inl (fun j => nI (g j)))), (k2, .inl (cI, 40, .inl (fun j => nI (z j))))]) [1, 2, 3] rfl
  have hKc := hK.sub (tys' := [(cI, .int)]) [0] rfl
  refine vp_callSi (W.runV (As := [.int (nI a)]) (rest := []) ⟨hx, hb, hml, hown, hts⟩ (c_X0_sizeOf l dC dI cI ak k1 k2 n g z a hn ha) (cwV 1 hts gX3_small_X0_sizeOf rfl rfl rfl (by decide +kernel) ⟨Nat.le_of_ble_eq_true rfl, Nat.le_of_ble_eq_true rfl⟩) ⟨fun a U g mk q => by obtain ⟨q0, qP, qK⟩ := q; exact ⟨q0, qP, va_K.moved (u := U) (U := U.calling g mk a) (Vm.Alike.refl U.vm) qK⟩, va_recv hK hP (ci := 0) (q0 := 1) rfl rfl, fun U hU hW => ⟨rfl, by rw [hU]; exact hPc, va_K.moved hW.alike hKc⟩⟩ rfl rfl hl.1 rfl (lv_room (Nat.le_of_ble_eq_true rfl)) dX3_small_10 ⟨Nat.le_of_ble_eq_true rfl, Nat.le_of_ble_eq_true rfl⟩) (fun r10 h10 => ?_)
  obtain rfl : r10 = nI (z a) := h10
  refine lv_istore_n (lv' := [(2, .int (nI (z a))), (0, .ref ax), (1, .int (nI a))]) hx hb dX3_small_13 rfl hl (by decide) rfl (fun ls hl => ?_)
  refine lv_iload_n hx hb dX3_small_14 rfl (lv_at hl 0 rfl) ?_
  refine lv_iconst (v := (nI 4)) hx hb dX3_small_15 (by decide) ?_
  refine lv_icmp_le (tgt := 29) hx hb dX3_small_16 (by decide) (fun c16 => ?_) (fun c16 => ?_)
  · have hz4 : z a ≤ 4 := (nI_leI (by omega) (by omega)).mp c16
    refine lv_aload_n hx hb dX3_small_29 rfl (lv_at hl 1 rfl) ?_
    refine va_get (D := (dC, dI)) (ci := 3) (v := .ref ak) (C := RX3) (T := TX3) (N := 5) hx hb hts hinX3 hown hK hP 0 rfl rfl 0 (by decide) (hts (.fieldLink RX3 12 "NumberContents" "kept" "LNumberContents$Numbers;") (by decide +kernel)) (fun _ h9 => h9) rfl dX3_small_30 ?_
    refine lv_iload_n hx hb dX3_small_33 rfl (lv_at hl 2 rfl) ?_
    have hPc := hP.sub (ws' := [(ak, .inr (0, [.ref k1, .ref k2, .int (nI n)])), (k1, .inl (cI, 8000, .inl (fun j => nI (g j)))), (k2, .inl (cI, 40, .inl (fun j => nI (z j))))]) [1, 2, 3] rfl
    have hKc := hK.sub (tys' := [(cI, .int)]) [0] rfl
    refine vp_callSi (W.runV (As := [.int (nI a)]) (rest := []) ⟨hx, hb, hml, hown, hts⟩ (c_X0_isMinus l dC dI cI ak k1 k2 n g z a hg hn hz ha) (cwV 1 hts gX3_small_X0_isMinus rfl rfl rfl (by decide +kernel) ⟨Nat.le_of_ble_eq_true rfl, Nat.le_of_ble_eq_true rfl⟩) ⟨fun a U g mk q => by obtain ⟨q0, qP, qK⟩ := q; exact ⟨q0, qP, va_K.moved (u := U) (U := U.calling g mk a) (Vm.Alike.refl U.vm) qK⟩, va_recv hK hP (ci := 0) (q0 := 1) rfl rfl, fun U hU hW => ⟨rfl, by rw [hU]; exact hPc, va_K.moved hW.alike hKc⟩⟩ rfl rfl hl.1 rfl (lv_room (Nat.le_of_ble_eq_true rfl)) dX3_small_34 ⟨Nat.le_of_ble_eq_true rfl, Nat.le_of_ble_eq_true rfl⟩) (fun r34 h34 => ?_)
    refine lv_if_eq (tgt := 44) hx hb dX3_small_37 (by decide) (fun c37 => ?_) (fun c37 => ?_)
    · refine lv_iconst (v := 0) hx hb dX3_small_44 (by decide) ?_
      refine lv_istore_n (lv' := [(3, .int 0), (2, .int (nI (z a))), (0, .ref ax), (1, .int (nI a))]) hx hb dX3_small_45 rfl hl (by decide) rfl (fun ls hl => ?_)
      refine lv_iconst (v := (nI 0)) hx hb dX3_small_46 (by decide) ?_
      refine lv_istore (lv' := [(4, .int (nI 0)), (3, .int 0), (2, .int (nI (z a))), (0, .ref ax), (1, .int (nI a))]) hx hb dX3_small_47 hl (by decide) rfl (fun ls hl => ?_)
      have LP49 : ∀ (n9 : Nat) (i : Nat) (x9 : Int32) (hm : (z a - i) < n9) (hi : i ≤ z a) (hv : x9.toInt * ((256 ^ (z a - i) : Nat) : Int) + bv (fun j => g (a * 200 + j)) (z a - i) = nval g z a) (H : Heap) (locs : List Loc) (ls : Array Slot) (hP : va_P (dC, dI) vwCl [(ax, .inr (3, [.ref ak, .ref ad, .ref ab, .ref ao, .ref aw])), (ak, .inr (0, [.ref k1, .ref k2, .int (nI n)])), (k1, .inl (cI, 8000, .inl (fun j => nI (g j)))), (k2, .inl (cI, 40, .inl (fun j => nI (z j))))] H) (hD : va_D A [(ax, .inr (3, [.ref ak, .ref ad, .ref ab, .ref ao, .ref aw])), (ak, .inr (0, [.ref k1, .ref k2, .int (nI n)])), (k1, .inl (cI, 8000, .inl (fun j => nI (g j)))), (k2, .inl (cI, 40, .inl (fun j => nI (z j))))]) (hS : va_S A s.heap H locs) (hl : lv_has ls 5 [(0, .ref ax), (1, .int (nI a)), (2, .int (nI (z a))), (3, .int x9), (4, .int (nI i))]), W p l e (headSpec wsX3_small ({ frames := 7, cells := 2, slots := 12, locals := 107 } : Room)).room s m ([.ref ax, .int (nI a)]).toArray below meth c H locs 1 6 (vx_MQ below (va_Qi (fun (r : Int32) (_ : Unit) => ∃ aA, (nI a) = nI aA ∧ aA < n ∧ z aA ≤ 4 ∧ r.toInt = nval g z aA) (fun (_ : Unit) (tS : State) => va_P (dC, dI) vwCl [(ax, .inr (3, [.ref ak, .ref ad, .ref ab, .ref ao, .ref aw])), (ak, .inr (0, [.ref k1, .ref k2, .int (nI n)])), (k1, .inl (cI, 8000, .inl (fun j => nI (g j)))), (k2, .inl (cI, 40, .inl (fun j => nI (z j))))] tS.heap ∧ va_K (dC, dI) vwCl [(cI, .int)] tS ∧ va_D A [(ax, .inr (3, [.ref ak, .ref ad, .ref ab, .ref ao, .ref aw])), (ak, .inr (0, [.ref k1, .ref k2, .int (nI n)])), (k1, .inl (cI, 8000, .inl (fun j => nI (g j)))), (k2, .inl (cI, 40, .inl (fun j => nI (z j))))]) A) (vx_X (fun (_ : Unit) => True) (fun (E : String) (_ : Unit) (tS : State) => ((E = eIO ∧ ¬ vp_in (nI a) n) ∨ (E = eIA ∧ ∃ aA, (nI a) = nI aA ∧ aA < n ∧ 4 < z aA)) ∧ va_P (dC, dI) vwCl [(ax, .inr (3, [.ref ak, .ref ad, .ref ab, .ref ao, .ref aw])), (ak, .inr (0, [.ref k1, .ref k2, .int (nI n)])), (k1, .inl (cI, 8000, .inl (fun j => nI (g j)))), (k2, .inl (cI, 40, .inl (fun j => nI (z j))))] tS.heap ∧ va_K (dC, dI) vwCl [(cI, .int)] tS ∧ va_D A [(ax, .inr (3, [.ref ak, .ref ad, .ref ab, .ref ao, .ref aw])), (ak, .inr (0, [.ref k1, .ref k2, .int (nI n)])), (k1, .inl (cI, 8000, .inl (fun j => nI (g j)))), (k2, .inl (cI, 40, .inl (fun j => nI (z j))))]) A) ([.ref ax, .int (nI a)]).toArray s 2 12 A) (F0 m 49 ls []) := by
        intro n9
        induction n9 with
        | zero => intro i x9 hm; exact absurd hm (Nat.not_lt_zero _)
        | succ n9 ih =>
          intro i x9 hm hi hv H locs ls hP hD hS hl
          have ih49 := ih
          refine lv_iload hx hb dX3_small_49 (lv_at hl 4 rfl) ?_
          refine lv_iload_n hx hb dX3_small_51 rfl (lv_at hl 2 rfl) ?_
          refine lv_icmp_ge (tgt := 77) hx hb dX3_small_52 (by decide) (fun c52 => ?_) (fun c52 => ?_)
          · refine lv_iload_n hx hb dX3_small_77 rfl (lv_at hl 3 rfl) ?_
            have hP9 := hP.sub (ws' := [(ax, .inr (3, [.ref ak, .ref ad, .ref ab, .ref ao, .ref aw])), (ak, .inr (0, [.ref k1, .ref k2, .int (nI n)])), (k1, .inl (cI, 8000, .inl (fun j => nI (g j)))), (k2, .inl (cI, 40, .inl (fun j => nI (z j))))]) [0, 1, 2, 3] rfl
            have hD9 := hD.sub (ws' := [(ax, .inr (3, [.ref ak, .ref ad, .ref ab, .ref ao, .ref aw])), (ak, .inr (0, [.ref k1, .ref k2, .int (nI n)])), (k1, .inl (cI, 8000, .inl (fun j => nI (g j)))), (k2, .inl (cI, 40, .inl (fun j => nI (z j))))]) [0, 1, 2, 3] (by decide) rfl
            have hK9 := hK.sub (tys' := [(cI, .int)]) [0] rfl
            exact vx_ret (W.widen (k := 2) (n := 12) (by omega) (by omega) (W.iret (v := x9) hx hb hr (fun tS htS hW => ⟨⟨x9, (), rfl, ⟨a, rfl, ha, hz4, (by have he : i = z a := Nat.le_antisymm hi ((nI_leI (by omega) (by omega)).mp c52); subst he; rw [Nat.sub_self] at hv; rw [← hv]; show _ = x9.toInt * ((1 : Nat) : Int) + ((0 : Nat) : Int); omega)⟩, by rw [htS]; exact hP9, va_K.moved hW.alike hK9, hD9⟩, hS.F htS⟩) hS.2.2 dX3_small_78))
          · have hlt : i < z a := Nat.lt_of_not_le (fun h => c52 (nI_le h (by omega)))
            refine lv_iload_n hx hb dX3_small_55 rfl (lv_at hl 3 rfl) ?_
            refine lv_bipush (v := 8) hx hb dX3_small_56 (by decide) ?_
            refine lv_ishl hx hb dX3_small_58 ?_
            refine lv_topi (fun x58 e58 => ?_)
            refine lv_aload_n hx hb dX3_small_59 rfl (lv_at hl 0 rfl) ?_
            refine va_get (D := (dC, dI)) (ci := 3) (v := .ref ak) (C := RX3) (T := TX3) (N := 5) hx hb hts hinX3 hown hK hP 0 rfl rfl 0 (by decide) (hts (.fieldLink RX3 12 "NumberContents" "kept" "LNumberContents$Numbers;") (by decide +kernel)) (fun _ h9 => h9) rfl dX3_small_60 ?_
            refine lv_iload_n hx hb dX3_small_63 rfl (lv_at hl 1 rfl) ?_
            refine lv_iload hx hb dX3_small_64 (lv_at hl 4 rfl) ?_
            have hPc := hP.sub (ws' := [(ak, .inr (0, [.ref k1, .ref k2, .int (nI n)])), (k1, .inl (cI, 8000, .inl (fun j => nI (g j)))), (k2, .inl (cI, 40, .inl (fun j => nI (z j))))]) [1, 2, 3] rfl
            have hKc := hK.sub (tys' := [(cI, .int)]) [0] rfl
            refine vp_callSi (W.runV (As := [.int (nI a), .int (nI i)]) (rest := [.int x58]) ⟨hx, hb, hml, hown, hts⟩ (c_X0_highByte l dC dI cI ak k1 k2 n g z a i hn hz ha hlt) (cwV 2 hts gX3_small_X0_highByte rfl rfl rfl (by decide +kernel) ⟨Nat.le_of_ble_eq_true rfl, Nat.le_of_ble_eq_true rfl⟩) ⟨fun a U g mk q => by obtain ⟨q0, qP, qK⟩ := q; exact ⟨q0, qP, va_K.moved (u := U) (U := U.calling g mk a) (Vm.Alike.refl U.vm) qK⟩, va_recv hK hP (ci := 0) (q0 := 1) rfl rfl, fun U hU hW => ⟨rfl, by rw [hU]; exact hPc, va_K.moved hW.alike hKc⟩⟩ rfl rfl hl.1 rfl (lv_room (Nat.le_of_ble_eq_true rfl)) dX3_small_66 ⟨Nat.le_of_ble_eq_true rfl, Nat.le_of_ble_eq_true rfl⟩) (fun r66 h66 => ?_)
            obtain rfl : r66 = nI (g (a * 200 + (z a - 1 - i))) := h66
            refine lv_ior hx hb dX3_small_69 ?_
            refine lv_topi (fun x69 e69 => ?_)
            refine lv_istore_n (lv' := [(3, .int x69), (0, .ref ax), (1, .int (nI a)), (2, .int (nI (z a))), (4, .int (nI i))]) hx hb dX3_small_70 rfl hl (by decide) rfl (fun ls hl => ?_)
            obtain ⟨x71, e71⟩ : ∃ zz9 : Int32, zz9 = (nI i) + 1 := ⟨_, rfl⟩
            refine lv_iinc (v := x71) (lv' := [(4, .int x71), (3, .int x69), (0, .ref ax), (1, .int (nI a)), (2, .int (nI (z a)))]) hx hb dX3_small_71 hl (k := 4) rfl (by rw [e71]; rfl) (by decide) rfl (fun ls hl => ?_)
            obtain rfl : x71 = nI (i + 1) := e71.trans (nI_1 i)
            refine lv_goto (tgt := 49) hx hb dX3_small_74 (by decide) ?_
            have hrg := sm_rng hza.1 hz4 hlt (hq a ha).2.1 (bv_lt (fun j => hg (a * 200 + j)) _) hv
            have hx2 : x69.toInt = x9.toInt * 256 + g (a * 200 + (z a - 1 - i)) := by rw [e69, e58]; exact sm_sh hrg.1 hrg.2 (hg _)
            exact ih49 (i + 1) x69 (by omega) (by omega) (sm_step (g := fun j => g (a * 200 + j)) hlt hv hx2) _ _ _ (hP.sub [0, 1, 2, 3] rfl) (hD.sub [0, 1, 2, 3] (by decide) rfl) hS (lv_sub hl [2, 3, 4, 1, 0] rfl)
      exact LP49 _ 0 0 (Nat.lt_succ_self _) (by omega) (by have e := sm_0 (g := g) (z := z) (a := a); rw [if_neg (ite_r h34 c37)] at e; rw [Nat.sub_zero]; exact e) _ _ _ (hP.sub [0, 1, 2, 3] rfl) (hD.sub [0, 1, 2, 3] (by decide) rfl) hS (lv_sub hl [3, 4, 2, 1, 0] rfl)
    · refine lv_iconst (v := (-1)) hx hb dX3_small_40 (by decide) ?_
      refine lv_goto (tgt := 45) hx hb dX3_small_41 (by decide) ?_
      refine lv_istore_n (lv' := [(3, .int (-1)), (2, .int (nI (z a))), (0, .ref ax), (1, .int (nI a))]) hx hb dX3_small_45 rfl hl (by decide) rfl (fun ls hl => ?_)
      refine lv_iconst (v := (nI 0)) hx hb dX3_small_46 (by decide) ?_
      refine lv_istore (lv' := [(4, .int (nI 0)), (3, .int (-1)), (2, .int (nI (z a))), (0, .ref ax), (1, .int (nI a))]) hx hb dX3_small_47 hl (by decide) rfl (fun ls hl => ?_)
      have LP49 : ∀ (n9 : Nat) (i : Nat) (x9 : Int32) (hm : (z a - i) < n9) (hi : i ≤ z a) (hv : x9.toInt * ((256 ^ (z a - i) : Nat) : Int) + bv (fun j => g (a * 200 + j)) (z a - i) = nval g z a) (H : Heap) (locs : List Loc) (ls : Array Slot) (hP : va_P (dC, dI) vwCl [(ax, .inr (3, [.ref ak, .ref ad, .ref ab, .ref ao, .ref aw])), (ak, .inr (0, [.ref k1, .ref k2, .int (nI n)])), (k1, .inl (cI, 8000, .inl (fun j => nI (g j)))), (k2, .inl (cI, 40, .inl (fun j => nI (z j))))] H) (hD : va_D A [(ax, .inr (3, [.ref ak, .ref ad, .ref ab, .ref ao, .ref aw])), (ak, .inr (0, [.ref k1, .ref k2, .int (nI n)])), (k1, .inl (cI, 8000, .inl (fun j => nI (g j)))), (k2, .inl (cI, 40, .inl (fun j => nI (z j))))]) (hS : va_S A s.heap H locs) (hl : lv_has ls 5 [(0, .ref ax), (1, .int (nI a)), (2, .int (nI (z a))), (3, .int x9), (4, .int (nI i))]), W p l e (headSpec wsX3_small ({ frames := 7, cells := 2, slots := 12, locals := 107 } : Room)).room s m ([.ref ax, .int (nI a)]).toArray below meth c H locs 1 6 (vx_MQ below (va_Qi (fun (r : Int32) (_ : Unit) => ∃ aA, (nI a) = nI aA ∧ aA < n ∧ z aA ≤ 4 ∧ r.toInt = nval g z aA) (fun (_ : Unit) (tS : State) => va_P (dC, dI) vwCl [(ax, .inr (3, [.ref ak, .ref ad, .ref ab, .ref ao, .ref aw])), (ak, .inr (0, [.ref k1, .ref k2, .int (nI n)])), (k1, .inl (cI, 8000, .inl (fun j => nI (g j)))), (k2, .inl (cI, 40, .inl (fun j => nI (z j))))] tS.heap ∧ va_K (dC, dI) vwCl [(cI, .int)] tS ∧ va_D A [(ax, .inr (3, [.ref ak, .ref ad, .ref ab, .ref ao, .ref aw])), (ak, .inr (0, [.ref k1, .ref k2, .int (nI n)])), (k1, .inl (cI, 8000, .inl (fun j => nI (g j)))), (k2, .inl (cI, 40, .inl (fun j => nI (z j))))]) A) (vx_X (fun (_ : Unit) => True) (fun (E : String) (_ : Unit) (tS : State) => ((E = eIO ∧ ¬ vp_in (nI a) n) ∨ (E = eIA ∧ ∃ aA, (nI a) = nI aA ∧ aA < n ∧ 4 < z aA)) ∧ va_P (dC, dI) vwCl [(ax, .inr (3, [.ref ak, .ref ad, .ref ab, .ref ao, .ref aw])), (ak, .inr (0, [.ref k1, .ref k2, .int (nI n)])), (k1, .inl (cI, 8000, .inl (fun j => nI (g j)))), (k2, .inl (cI, 40, .inl (fun j => nI (z j))))] tS.heap ∧ va_K (dC, dI) vwCl [(cI, .int)] tS ∧ va_D A [(ax, .inr (3, [.ref ak, .ref ad, .ref ab, .ref ao, .ref aw])), (ak, .inr (0, [.ref k1, .ref k2, .int (nI n)])), (k1, .inl (cI, 8000, .inl (fun j => nI (g j)))), (k2, .inl (cI, 40, .inl (fun j => nI (z j))))]) A) ([.ref ax, .int (nI a)]).toArray s 2 12 A) (F0 m 49 ls []) := by
        intro n9
        induction n9 with
        | zero => intro i x9 hm; exact absurd hm (Nat.not_lt_zero _)
        | succ n9 ih =>
          intro i x9 hm hi hv H locs ls hP hD hS hl
          have ih49 := ih
          refine lv_iload hx hb dX3_small_49 (lv_at hl 4 rfl) ?_
          refine lv_iload_n hx hb dX3_small_51 rfl (lv_at hl 2 rfl) ?_
          refine lv_icmp_ge (tgt := 77) hx hb dX3_small_52 (by decide) (fun c52 => ?_) (fun c52 => ?_)
          · refine lv_iload_n hx hb dX3_small_77 rfl (lv_at hl 3 rfl) ?_
            have hP9 := hP.sub (ws' := [(ax, .inr (3, [.ref ak, .ref ad, .ref ab, .ref ao, .ref aw])), (ak, .inr (0, [.ref k1, .ref k2, .int (nI n)])), (k1, .inl (cI, 8000, .inl (fun j => nI (g j)))), (k2, .inl (cI, 40, .inl (fun j => nI (z j))))]) [0, 1, 2, 3] rfl
            have hD9 := hD.sub (ws' := [(ax, .inr (3, [.ref ak, .ref ad, .ref ab, .ref ao, .ref aw])), (ak, .inr (0, [.ref k1, .ref k2, .int (nI n)])), (k1, .inl (cI, 8000, .inl (fun j => nI (g j)))), (k2, .inl (cI, 40, .inl (fun j => nI (z j))))]) [0, 1, 2, 3] (by decide) rfl
            have hK9 := hK.sub (tys' := [(cI, .int)]) [0] rfl
            exact vx_ret (W.widen (k := 2) (n := 12) (by omega) (by omega) (W.iret (v := x9) hx hb hr (fun tS htS hW => ⟨⟨x9, (), rfl, ⟨a, rfl, ha, hz4, (by have he : i = z a := Nat.le_antisymm hi ((nI_leI (by omega) (by omega)).mp c52); subst he; rw [Nat.sub_self] at hv; rw [← hv]; show _ = x9.toInt * ((1 : Nat) : Int) + ((0 : Nat) : Int); omega)⟩, by rw [htS]; exact hP9, va_K.moved hW.alike hK9, hD9⟩, hS.F htS⟩) hS.2.2 dX3_small_78))
          · have hlt : i < z a := Nat.lt_of_not_le (fun h => c52 (nI_le h (by omega)))
            refine lv_iload_n hx hb dX3_small_55 rfl (lv_at hl 3 rfl) ?_
            refine lv_bipush (v := 8) hx hb dX3_small_56 (by decide) ?_
            refine lv_ishl hx hb dX3_small_58 ?_
            refine lv_topi (fun x58 e58 => ?_)
            refine lv_aload_n hx hb dX3_small_59 rfl (lv_at hl 0 rfl) ?_
            refine va_get (D := (dC, dI)) (ci := 3) (v := .ref ak) (C := RX3) (T := TX3) (N := 5) hx hb hts hinX3 hown hK hP 0 rfl rfl 0 (by decide) (hts (.fieldLink RX3 12 "NumberContents" "kept" "LNumberContents$Numbers;") (by decide +kernel)) (fun _ h9 => h9) rfl dX3_small_60 ?_
            refine lv_iload_n hx hb dX3_small_63 rfl (lv_at hl 1 rfl) ?_
            refine lv_iload hx hb dX3_small_64 (lv_at hl 4 rfl) ?_
            have hPc := hP.sub (ws' := [(ak, .inr (0, [.ref k1, .ref k2, .int (nI n)])), (k1, .inl (cI, 8000, .inl (fun j => nI (g j)))), (k2, .inl (cI, 40, .inl (fun j => nI (z j))))]) [1, 2, 3] rfl
            have hKc := hK.sub (tys' := [(cI, .int)]) [0] rfl
            refine vp_callSi (W.runV (As := [.int (nI a), .int (nI i)]) (rest := [.int x58]) ⟨hx, hb, hml, hown, hts⟩ (c_X0_highByte l dC dI cI ak k1 k2 n g z a i hn hz ha hlt) (cwV 2 hts gX3_small_X0_highByte rfl rfl rfl (by decide +kernel) ⟨Nat.le_of_ble_eq_true rfl, Nat.le_of_ble_eq_true rfl⟩) ⟨fun a U g mk q => by obtain ⟨q0, qP, qK⟩ := q; exact ⟨q0, qP, va_K.moved (u := U) (U := U.calling g mk a) (Vm.Alike.refl U.vm) qK⟩, va_recv hK hP (ci := 0) (q0 := 1) rfl rfl, fun U hU hW => ⟨rfl, by rw [hU]; exact hPc, va_K.moved hW.alike hKc⟩⟩ rfl rfl hl.1 rfl (lv_room (Nat.le_of_ble_eq_true rfl)) dX3_small_66 ⟨Nat.le_of_ble_eq_true rfl, Nat.le_of_ble_eq_true rfl⟩) (fun r66 h66 => ?_)
            obtain rfl : r66 = nI (g (a * 200 + (z a - 1 - i))) := h66
            refine lv_ior hx hb dX3_small_69 ?_
            refine lv_topi (fun x69 e69 => ?_)
            refine lv_istore_n (lv' := [(3, .int x69), (0, .ref ax), (1, .int (nI a)), (2, .int (nI (z a))), (4, .int (nI i))]) hx hb dX3_small_70 rfl hl (by decide) rfl (fun ls hl => ?_)
            obtain ⟨x71, e71⟩ : ∃ zz9 : Int32, zz9 = (nI i) + 1 := ⟨_, rfl⟩
            refine lv_iinc (v := x71) (lv' := [(4, .int x71), (3, .int x69), (0, .ref ax), (1, .int (nI a)), (2, .int (nI (z a)))]) hx hb dX3_small_71 hl (k := 4) rfl (by rw [e71]; rfl) (by decide) rfl (fun ls hl => ?_)
            obtain rfl : x71 = nI (i + 1) := e71.trans (nI_1 i)
            refine lv_goto (tgt := 49) hx hb dX3_small_74 (by decide) ?_
            have hrg := sm_rng hza.1 hz4 hlt (hq a ha).2.1 (bv_lt (fun j => hg (a * 200 + j)) _) hv
            have hx2 : x69.toInt = x9.toInt * 256 + g (a * 200 + (z a - 1 - i)) := by rw [e69, e58]; exact sm_sh hrg.1 hrg.2 (hg _)
            exact ih49 (i + 1) x69 (by omega) (by omega) (sm_step (g := fun j => g (a * 200 + j)) hlt hv hx2) _ _ _ (hP.sub [0, 1, 2, 3] rfl) (hD.sub [0, 1, 2, 3] (by decide) rfl) hS (lv_sub hl [2, 3, 4, 1, 0] rfl)
      exact LP49 _ 0 (-1) (Nat.lt_succ_self _) (by omega) (by have e := sm_0 (g := g) (z := z) (a := a); rw [if_pos (ite_s h34 c37)] at e; rw [Nat.sub_zero]; exact e) _ _ _ (hP.sub [0, 1, 2, 3] rfl) (hD.sub [0, 1, 2, 3] (by decide) rfl) hS (lv_sub hl [3, 4, 2, 1, 0] rfl)
  · have hat : ∀ w ∈ vx_atS RX3 46 eIA eNs, w.before _ s = true := vx_hat (B := twL) (fun w hw => hts w ((by decide +kernel : ∀ w ∈ (vx_atS RX3 46 eIA eNs).filter goodWord, w ∈ wsX3_small) w hw)) (by decide +kernel) (fun w hw => hT.use hw)
    obtain ⟨sa, hsa⟩ := hT.2 (126, "not an int") (by decide +kernel)
    have hP9 := hP.sub (ws' := [(ax, .inr (3, [.ref ak, .ref ad, .ref ab, .ref ao, .ref aw])), (ak, .inr (0, [.ref k1, .ref k2, .int (nI n)])), (k1, .inl (cI, 8000, .inl (fun j => nI (g j)))), (k2, .inl (cI, 40, .inl (fun j => nI (z j))))]) [0, 1, 2, 3] rfl
    have hD9 := hD.sub (ws' := [(ax, .inr (3, [.ref ak, .ref ad, .ref ab, .ref ao, .ref aw])), (ak, .inr (0, [.ref k1, .ref k2, .int (nI n)])), (k1, .inl (cI, 8000, .inl (fun j => nI (g j)))), (k2, .inl (cI, 40, .inl (fun j => nI (z j))))]) [0, 1, 2, 3] (by decide) rfl
    have hK9 := hK.sub (tys' := [(cI, .int)]) [0] rfl
    exact vx_throwS (mc := 2) (ms := 12) hx hb hl9 hown (by decide +kernel) (by decide +kernel) (hts (.classLink RX3 42 "java/lang/IllegalArgumentException") (by decide +kernel)) (hts (.initialized "java/lang/IllegalArgumentException") (by decide +kernel)) hsa hat (by decide +kernel) hZ.1 hZ.2 hS (hl.1.trans hml.symm) dX3_small_19 dX3_small_22 dX3_small_23 dX3_small_25 dX3_small_28 (fun x h => (hno x h).elim) (Nat.le_of_ble_eq_true rfl) (Nat.le_of_ble_eq_true rfl) (Nat.le_of_ble_eq_true rfl) (Nat.le_of_ble_eq_true rfl) hlocks (fun tS haS hzT hkT => ⟨(), trivial, ⟨(Or.inr ⟨rfl, a, rfl, ha, Nat.lt_of_not_le (fun y => c16 (nI_le y (by omega)))⟩), th_P hP9 hkT, va_K.moved haS hK9, hD9⟩, th_F hS hzT hkT⟩) hS.2.2 (by omega) (by omega)

