theorem sv_congr {g g2 : Nat → Nat} {n : Nat} (hn : 1 ≤ n) (h : ∀ i, i < n → g i = g2 i) : sv g n = sv g2 n := by
  unfold sv
  rw [bv_congr h, h (n - 1) (by omega)]

def XK (n : Nat) (g z : Nat → Nat) : Prop := (∀ j, g j < 256) ∧ n ≤ 40 ∧ (∀ a, a < n → 1 ≤ z a ∧ z a ≤ 200) ∧ (∀ a, a < n → isz (nval g z a) (z a))
def KEPT (n : Nat) (g z g3 z3 : Nat → Nat) (y : Int) (r : Int32) : Prop := r = nI n ∧ n < 40 ∧ (∃ k, isz y k ∧ k ≤ 200) ∧ XK (n + 1) g3 z3 ∧ (∀ a, a < n → nval g3 z3 a = nval g z a ∧ z3 a = z a) ∧ nval g3 z3 n = y
def NOKEEP (n : Nat) (y : Int) : Prop := n = 40 ∨ ∃ k, isz y k ∧ 200 < k

theorem kw_end {g z w g3 : Nat → Nat} {n k : Nat} {r : Int32} (hg : ∀ j, g j < 256) (hw : ∀ j, w j < 256) (hz : ∀ a, a < n → 1 ≤ z a ∧ z a ≤ 200) (hn : n < 40) (hk : isz (sv w 204) k) (hk2 : k ≤ 200) (hk3 : sv w k = sv w 204)
    (h : r = nI n ∧ (∀ j, j < k → g3 (n * 200 + j) = w j) ∧ (∀ y, y < n * 200 ∨ n * 200 + k ≤ y → g3 y = g y)) :
    r = nI n ∧ n < 40 ∧ isz (sv w 204) (va_up z n k n) ∧ va_up z n k n ≤ 200 ∧ (∀ j, g3 j < 256) ∧ (∀ a, a < n → va_up z n k a = z a) ∧ (∀ a, a < n → nval g3 (va_up z n k) a = nval g z a) ∧ nval g3 (va_up z n k) n = sv w 204 := by
  obtain ⟨h1, h2, h3⟩ := h
  have k1 := hk.1
  refine ⟨h1, hn, by rw [va_up_self]; exact hk, by rw [va_up_self]; exact hk2, fun j => ?_, fun a ha => va_up_ne _ _ (by omega), fun a ha => ?_, ?_⟩
  · by_cases hj : j < n * 200 ∨ n * 200 + k ≤ j
    · rw [h3 j hj]; exact hg j
    · obtain ⟨i, rfl⟩ : ∃ i, j = n * 200 + i := ⟨j - n * 200, by omega⟩
      rw [h2 i (by omega)]; exact hw i
  · have hza := hz a ha
    unfold nval
    rw [va_up_ne _ _ (show a ≠ n by omega)]
    exact sv_congr hza.1 (fun j hj => h3 _ (Or.inl (by omega)))
  · unfold nval
    rw [va_up_self, ← hk3]
    exact sv_congr k1 (fun j hj => h2 j hj)

theorem kept_of {g z w g3 z3 : Nat → Nat} {n : Nat} {r : Int32} (hI : XK n g z) (h : r = nI n ∧ n < 40 ∧ isz (sv w 204) (z3 n) ∧ z3 n ≤ 200 ∧ (∀ j, g3 j < 256) ∧ (∀ a, a < n → z3 a = z a) ∧ (∀ a, a < n → nval g3 z3 a = nval g z a) ∧ nval g3 z3 n = sv w 204) : KEPT n g z g3 z3 (sv w 204) r := by
  obtain ⟨h1, h2, h3, h4, h5, h6, h7, h8⟩ := h
  obtain ⟨hg, hn, hz, hq⟩ := hI
  refine ⟨h1, h2, ⟨_, h3, h4⟩, ⟨h5, by omega, fun a ha => ?_, fun a ha => ?_⟩, fun a ha => ⟨h7 a ha, h6 a ha⟩, h8⟩
  · rcases Nat.lt_or_ge a n with h | h
    · rw [h6 a h]; exact hz a h
    · rw [show a = n from by omega]; exact ⟨h3.1, h4⟩
  · rcases Nat.lt_or_ge a n with h | h
    · rw [h7 a h, h6 a h]; exact hq a h
    · rw [show a = n from by omega, h8]; exact h3

set_option maxHeartbeats 4000000 in
set_option maxRecDepth 100000 in
theorem c_X3_needNumber (l : Launch) (hl9 : l.stackTraces = false) (dC : Nat → ClassId) (dI : Nat → Nat → Nat) (cI : ClassId) (ax ak ad ab ao aw : Nat) (k1 k2 n : Nat) (g z : Nat → Nat) (a9 : Int32) (sz : Nat) (hn : n ≤ 40) : vx_Met l yX3_needNumber wsX3_needNumber ({ frames := 6, cells := 1, slots := 6, locals := 85 } : Room) (va_Pc [.ref ax, .int a9] (fun U => U.heap.size = sz ∧ va_P (dC, dI) vwCl [(ax, .inr (3, [.ref ak, .ref ad, .ref ab, .ref ao, .ref aw])), (ak, .inr (0, [.ref k1, .ref k2, .int (nI n)])), (k1, .inl (cI, 8000, .inl (fun j => nI (g j)))), (k2, .inl (cI, 40, .inl (fun j => nI (z j))))] U.heap ∧ va_K (dC, dI) vwCl [(cI, .int)] U ∧ va_D (fun _ => True) [(ax, .inr (3, [.ref ak, .ref ad, .ref ab, .ref ao, .ref aw])), (ak, .inr (0, [.ref k1, .ref k2, .int (nI n)])), (k1, .inl (cI, 8000, .inl (fun j => nI (g j)))), (k2, .inl (cI, 40, .inl (fun j => nI (z j))))] ∧ tz (va_A [(ax, .inr (3, [.ref ak, .ref ad, .ref ab, .ref ao, .ref aw])), (ak, .inr (0, [.ref k1, .ref k2, .int (nI n)])), (k1, .inl (cI, 8000, .inl (fun j => nI (g j)))), (k2, .inl (cI, 40, .inl (fun j => nI (z j))))] sz) U U.heap ∧ tw U)) (va_Qv (fun (_ : Unit) => vp_in a9 n) (fun (_ : Unit) (tS : State) => va_P (dC, dI) vwCl [(ax, .inr (3, [.ref ak, .ref ad, .ref ab, .ref ao, .ref aw])), (ak, .inr (0, [.ref k1, .ref k2, .int (nI n)])), (k1, .inl (cI, 8000, .inl (fun j => nI (g j)))), (k2, .inl (cI, 40, .inl (fun j => nI (z j))))] tS.heap ∧ va_K (dC, dI) vwCl [(cI, .int)] tS ∧ va_D (va_A [(ax, .inr (3, [.ref ak, .ref ad, .ref ab, .ref ao, .ref aw])), (ak, .inr (0, [.ref k1, .ref k2, .int (nI n)])), (k1, .inl (cI, 8000, .inl (fun j => nI (g j)))), (k2, .inl (cI, 40, .inl (fun j => nI (z j))))] sz) [(ax, .inr (3, [.ref ak, .ref ad, .ref ab, .ref ao, .ref aw])), (ak, .inr (0, [.ref k1, .ref k2, .int (nI n)])), (k1, .inl (cI, 8000, .inl (fun j => nI (g j)))), (k2, .inl (cI, 40, .inl (fun j => nI (z j))))]) (va_A [(ax, .inr (3, [.ref ak, .ref ad, .ref ab, .ref ao, .ref aw])), (ak, .inr (0, [.ref k1, .ref k2, .int (nI n)])), (k1, .inl (cI, 8000, .inl (fun j => nI (g j)))), (k2, .inl (cI, 40, .inl (fun j => nI (z j))))] sz)) (vx_X (fun (_ : Unit) => True) (fun (E : String) (_ : Unit) (tS : State) => (E = eIO ∧ ¬ vp_in a9 n) ∧ va_P (dC, dI) vwCl [(ax, .inr (3, [.ref ak, .ref ad, .ref ab, .ref ao, .ref aw])), (ak, .inr (0, [.ref k1, .ref k2, .int (nI n)])), (k1, .inl (cI, 8000, .inl (fun j => nI (g j)))), (k2, .inl (cI, 40, .inl (fun j => nI (z j))))] tS.heap ∧ va_K (dC, dI) vwCl [(cI, .int)] tS ∧ va_D (va_A [(ax, .inr (3, [.ref ak, .ref ad, .ref ab, .ref ao, .ref aw])), (ak, .inr (0, [.ref k1, .ref k2, .int (nI n)])), (k1, .inl (cI, 8000, .inl (fun j => nI (g j)))), (k2, .inl (cI, 40, .inl (fun j => nI (z j))))] sz) [(ax, .inr (3, [.ref ak, .ref ad, .ref ab, .ref ao, .ref aw])), (ak, .inr (0, [.ref k1, .ref k2, .int (nI n)])), (k1, .inl (cI, 8000, .inl (fun j => nI (g j)))), (k2, .inl (cI, 40, .inl (fun j => nI (z j))))]) (va_A [(ax, .inr (3, [.ref ak, .ref ad, .ref ab, .ref ao, .ref aw])), (ak, .inr (0, [.ref k1, .ref k2, .int (nI n)])), (k1, .inl (cI, 8000, .inl (fun j => nI (g j)))), (k2, .inl (cI, 40, .inl (fun j => nI (z j))))] sz)) 1 6 (va_A [(ax, .inr (3, [.ref ak, .ref ad, .ref ab, .ref ao, .ref aw])), (ak, .inr (0, [.ref k1, .ref k2, .int (nI n)])), (k1, .inl (cI, 8000, .inl (fun j => nI (g j)))), (k2, .inl (cI, 40, .inl (fun j => nI (z j))))] sz) := by
  refine vx_ofW (cc := cX3_needNumber) (maxL := 2) (ret := none) (by decide) rfl ?_
  intro p e s m args below meth c s₁ B hml hno hv
  obtain ⟨rfl, hsz, hP, hK, hD0, hZ, hT⟩ := hv
  have hx := B.exec
  have hb := B.bytes
  have hr := B.returns
  have hts := atoms_spec (ws := wsX3_needNumber) B.pre
  have hown : s.vm.findClass RX3 = some m.cls := findClass_of_methodNamed B.named
  have hlocks := B.notSynchronized
  subst hsz
  have hD := hD0.self (sz := s.heap.size)
  generalize hAe : va_A [(ax, .inr (3, [.ref ak, .ref ad, .ref ab, .ref ao, .ref aw])), (ak, .inr (0, [.ref k1, .ref k2, .int (nI n)])), (k1, .inl (cI, 8000, .inl (fun j => nI (g j)))), (k2, .inl (cI, 40, .inl (fun j => nI (z j))))] s.heap.size = A at hD hZ ⊢
  have hA : ∀ q : Nat, s.heap.size ≤ q → A q := fun q h => by rw [← hAe]; exact Or.inr h
  have hS : va_S A s.heap s.heap [] := va_S.rf
  have hinX0 : ∀ w ∈ wsX00, w ∈ wsX3_needNumber := by decide +kernel
  have hinX3 : ∀ w ∈ wsX30, w ∈ wsX3_needNumber := by decide +kernel
  have hl := lv_entry ([.ref ax, .int a9]) (n := 2) (Nat.le_of_ble_eq_true rfl)
  rw [lg_entry_eq]
  generalize (lg_sl ([.ref ax, .int a9]) ++ List.replicate (2 - (lg_sl ([.ref ax, .int a9])).length) Slot.unset).toArray = ls at hl ⊢
  have hl : lv_has ls 2 [(0, .ref ax), (1, .int a9)] := hl
  refine lv_aload_n hx hb dX3_needNumber_0 rfl (lv_at hl 0 rfl) ?_
  refine va_get (D := (dC, dI)) (ci := 3) (v := .ref ak) (C := RX3) (T := TX3) (N := 5) hx hb hts hinX3 hown hK hP 0 rfl rfl 0 (by decide) (hts (.fieldLink RX3 12 "NumberContents" "kept" "LNumberContents$Numbers;") (by decide +kernel)) (fun _ h9 => h9) rfl dX3_needNumber_1 ?_
  refine lv_iload_n hx hb dX3_needNumber_4 rfl (lv_at hl 1 rfl) ?_
  have hPc := hP.sub (ws' := [(ak, .inr (0, [.ref k1, .ref k2, .int (nI n)])), (k1, .inl (cI, 8000, .inl (fun j => nI (g j)))), (k2, .inl (cI, 40, .inl (fun j => nI (z j))))]) [1, 2, 3] rfl
  have hKc := hK.sub (tys' := [(cI, .int)]) [0] rfl
  refine vp_callSi (W.runV (As := [.int a9]) (rest := []) ⟨hx, hb, hml, hown, hts⟩ (c_X0_has l dC dI cI ak k1 k2 n g z a9 hn) (cwV 1 hts gX3_needNumber_X0_has rfl rfl rfl (by decide +kernel) ⟨Nat.le_of_ble_eq_true rfl, Nat.le_of_ble_eq_true rfl⟩) ⟨fun a U g mk q => by obtain ⟨q0, qP, qK⟩ := q; exact ⟨q0, qP, va_K.moved (u := U) (U := U.calling g mk a) (Vm.Alike.refl U.vm) qK⟩, va_recv hK hP (ci := 0) (q0 := 1) rfl rfl, fun U hU hW => ⟨rfl, by rw [hU]; exact hPc, va_K.moved hW.alike hKc⟩⟩ rfl rfl hl.1 rfl (lv_room (Nat.le_of_ble_eq_true rfl)) dX3_needNumber_5 ⟨Nat.le_of_ble_eq_true rfl, Nat.le_of_ble_eq_true rfl⟩) (fun r5 h5 => ?_)
  refine lv_if_ne (tgt := 21) hx hb dX3_needNumber_8 (by decide) (fun c8 => ?_) (fun c8 => ?_)
  · have hP9 := hP.sub (ws' := [(ax, .inr (3, [.ref ak, .ref ad, .ref ab, .ref ao, .ref aw])), (ak, .inr (0, [.ref k1, .ref k2, .int (nI n)])), (k1, .inl (cI, 8000, .inl (fun j => nI (g j)))), (k2, .inl (cI, 40, .inl (fun j => nI (z j))))]) [0, 1, 2, 3] rfl
    have hD9 := hD.sub (ws' := [(ax, .inr (3, [.ref ak, .ref ad, .ref ab, .ref ao, .ref aw])), (ak, .inr (0, [.ref k1, .ref k2, .int (nI n)])), (k1, .inl (cI, 8000, .inl (fun j => nI (g j)))), (k2, .inl (cI, 40, .inl (fun j => nI (z j))))]) [0, 1, 2, 3] (by decide) rfl
    have hK9 := hK.sub (tys' := [(cI, .int)]) [0] rfl
    exact vx_ret (W.widen (k := 1) (n := 6) (by omega) (by omega) (W.vret hx hb hr (fun tS htS hW => ⟨⟨(), rfl, (ite_s h5 c8), by rw [htS]; exact hP9, va_K.moved hW.alike hK9, hD9⟩, hS.F htS⟩) hS.2.2 dX3_needNumber_21))
  · have hat : ∀ w ∈ vx_atS RX3 110 eIO eNs, w.before _ s = true := vx_hat (B := twL) (fun w hw => hts w ((by decide +kernel : ∀ w ∈ (vx_atS RX3 110 eIO eNs).filter goodWord, w ∈ wsX3_needNumber) w hw)) (by decide +kernel) (fun w hw => hT.use hw)
    obtain ⟨sa, hsa⟩ := hT.2 (167, "no number there") (by decide +kernel)
    have hP9 := hP.sub (ws' := [(ax, .inr (3, [.ref ak, .ref ad, .ref ab, .ref ao, .ref aw])), (ak, .inr (0, [.ref k1, .ref k2, .int (nI n)])), (k1, .inl (cI, 8000, .inl (fun j => nI (g j)))), (k2, .inl (cI, 40, .inl (fun j => nI (z j))))]) [0, 1, 2, 3] rfl
    have hD9 := hD.sub (ws' := [(ax, .inr (3, [.ref ak, .ref ad, .ref ab, .ref ao, .ref aw])), (ak, .inr (0, [.ref k1, .ref k2, .int (nI n)])), (k1, .inl (cI, 8000, .inl (fun j => nI (g j)))), (k2, .inl (cI, 40, .inl (fun j => nI (z j))))]) [0, 1, 2, 3] (by decide) rfl
    have hK9 := hK.sub (tys' := [(cI, .int)]) [0] rfl
    exact vx_throwS (mc := 1) (ms := 6) hx hb hl9 hown (by decide +kernel) (by decide +kernel) (hts (.classLink RX3 106 "java/lang/IndexOutOfBoundsException") (by decide +kernel)) (hts (.initialized "java/lang/IndexOutOfBoundsException") (by decide +kernel)) hsa hat (by decide +kernel) hZ.1 hZ.2 hS (hl.1.trans hml.symm) dX3_needNumber_11 dX3_needNumber_14 dX3_needNumber_15 dX3_needNumber_17 dX3_needNumber_20 (fun x h => (hno x h).elim) (Nat.le_of_ble_eq_true rfl) (Nat.le_of_ble_eq_true rfl) (Nat.le_of_ble_eq_true rfl) (Nat.le_of_ble_eq_true rfl) hlocks (fun tS haS hzT hkT => ⟨(), trivial, ⟨⟨rfl, ite_r h5 c8⟩, th_P hP9 hkT, va_K.moved haS hK9, hD9⟩, th_F hS hzT hkT⟩) hS.2.2 (by omega) (by omega)

set_option maxHeartbeats 4000000 in
set_option maxRecDepth 100000 in
theorem c_X3_keepWide (l : Launch) (hl9 : l.stackTraces = false) (dC : Nat → ClassId) (dI : Nat → Nat → Nat) (cI : ClassId) (ax ak ad ab ao aw : Nat) (k1 k2 n : Nat) (g z : Nat → Nat) (w1 : Nat) (w : Nat → Nat) (sz : Nat) (hI : XK n g z) (hw : ∀ j, w j < 256) : vx_Met l yX3_keepWide wsX3_keepWide ({ frames := 6, cells := 1, slots := 6, locals := 88 } : Room) (va_Pc [.ref ax] (fun U => U.heap.size = sz ∧ va_P (dC, dI) vwCl [(ax, .inr (3, [.ref ak, .ref ad, .ref ab, .ref ao, .ref aw])), (ak, .inr (0, [.ref k1, .ref k2, .int (nI n)])), (k1, .inl (cI, 8000, .inl (fun j => nI (g j)))), (k2, .inl (cI, 40, .inl (fun j => nI (z j)))), (aw, .inr (2, [.ref w1])), (w1, .inl (cI, 204, .inl (fun j => nI (w j))))] U.heap ∧ va_K (dC, dI) vwCl [(cI, .int)] U ∧ va_D (fun _ => True) [(ax, .inr (3, [.ref ak, .ref ad, .ref ab, .ref ao, .ref aw])), (ak, .inr (0, [.ref k1, .ref k2, .int (nI n)])), (k1, .inl (cI, 8000, .inl (fun j => nI (g j)))), (k2, .inl (cI, 40, .inl (fun j => nI (z j)))), (aw, .inr (2, [.ref w1])), (w1, .inl (cI, 204, .inl (fun j => nI (w j))))] ∧ tz (va_A [(ax, .inr (3, [.ref ak, .ref ad, .ref ab, .ref ao, .ref aw])), (ak, .inr (0, [.ref k1, .ref k2, .int (nI n)])), (k1, .inl (cI, 8000, .inl (fun j => nI (g j)))), (k2, .inl (cI, 40, .inl (fun j => nI (z j)))), (aw, .inr (2, [.ref w1])), (w1, .inl (cI, 204, .inl (fun j => nI (w j))))] sz) U U.heap ∧ tw U)) (va_Qi (fun (r : Int32) (uS : (Nat → Nat) × (Nat → Nat)) => match uS with | (g3, z3) => KEPT n g z g3 z3 (sv w 204) r) (fun (uS : (Nat → Nat) × (Nat → Nat)) (tS : State) => match uS with | (g3, z3) => va_P (dC, dI) vwCl [(ax, .inr (3, [.ref ak, .ref ad, .ref ab, .ref ao, .ref aw])), (ak, .inr (0, [.ref k1, .ref k2, .int (nI (n + 1))])), (k1, .inl (cI, 8000, .inl (fun j => nI (g3 j)))), (k2, .inl (cI, 40, .inl (fun j => nI (z3 j)))), (aw, .inr (2, [.ref w1])), (w1, .inl (cI, 204, .inl (fun j => nI (w j))))] tS.heap ∧ va_K (dC, dI) vwCl [(cI, .int)] tS ∧ va_D (va_A [(ax, .inr (3, [.ref ak, .ref ad, .ref ab, .ref ao, .ref aw])), (ak, .inr (0, [.ref k1, .ref k2, .int (nI n)])), (k1, .inl (cI, 8000, .inl (fun j => nI (g j)))), (k2, .inl (cI, 40, .inl (fun j => nI (z j)))), (aw, .inr (2, [.ref w1])), (w1, .inl (cI, 204, .inl (fun j => nI (w j))))] sz) [(ax, .inr (3, [.ref ak, .ref ad, .ref ab, .ref ao, .ref aw])), (ak, .inr (0, [.ref k1, .ref k2, .int (nI (n + 1))])), (k1, .inl (cI, 8000, .inl (fun j => nI (g3 j)))), (k2, .inl (cI, 40, .inl (fun j => nI (z3 j)))), (aw, .inr (2, [.ref w1])), (w1, .inl (cI, 204, .inl (fun j => nI (w j))))]) (va_A [(ax, .inr (3, [.ref ak, .ref ad, .ref ab, .ref ao, .ref aw])), (ak, .inr (0, [.ref k1, .ref k2, .int (nI n)])), (k1, .inl (cI, 8000, .inl (fun j => nI (g j)))), (k2, .inl (cI, 40, .inl (fun j => nI (z j)))), (aw, .inr (2, [.ref w1])), (w1, .inl (cI, 204, .inl (fun j => nI (w j))))] sz)) (vx_X (fun (_ : Unit) => True) (fun (E : String) (_ : Unit) (tS : State) => (E = eUO ∧ NOKEEP n (sv w 204)) ∧ va_P (dC, dI) vwCl [(ax, .inr (3, [.ref ak, .ref ad, .ref ab, .ref ao, .ref aw])), (ak, .inr (0, [.ref k1, .ref k2, .int (nI n)])), (k1, .inl (cI, 8000, .inl (fun j => nI (g j)))), (k2, .inl (cI, 40, .inl (fun j => nI (z j)))), (aw, .inr (2, [.ref w1])), (w1, .inl (cI, 204, .inl (fun j => nI (w j))))] tS.heap ∧ va_K (dC, dI) vwCl [(cI, .int)] tS ∧ va_D (va_A [(ax, .inr (3, [.ref ak, .ref ad, .ref ab, .ref ao, .ref aw])), (ak, .inr (0, [.ref k1, .ref k2, .int (nI n)])), (k1, .inl (cI, 8000, .inl (fun j => nI (g j)))), (k2, .inl (cI, 40, .inl (fun j => nI (z j)))), (aw, .inr (2, [.ref w1])), (w1, .inl (cI, 204, .inl (fun j => nI (w j))))] sz) [(ax, .inr (3, [.ref ak, .ref ad, .ref ab, .ref ao, .ref aw])), (ak, .inr (0, [.ref k1, .ref k2, .int (nI n)])), (k1, .inl (cI, 8000, .inl (fun j => nI (g j)))), (k2, .inl (cI, 40, .inl (fun j => nI (z j)))), (aw, .inr (2, [.ref w1])), (w1, .inl (cI, 204, .inl (fun j => nI (w j))))]) (va_A [(ax, .inr (3, [.ref ak, .ref ad, .ref ab, .ref ao, .ref aw])), (ak, .inr (0, [.ref k1, .ref k2, .int (nI n)])), (k1, .inl (cI, 8000, .inl (fun j => nI (g j)))), (k2, .inl (cI, 40, .inl (fun j => nI (z j)))), (aw, .inr (2, [.ref w1])), (w1, .inl (cI, 204, .inl (fun j => nI (w j))))] sz)) 1 6 (va_A [(ax, .inr (3, [.ref ak, .ref ad, .ref ab, .ref ao, .ref aw])), (ak, .inr (0, [.ref k1, .ref k2, .int (nI n)])), (k1, .inl (cI, 8000, .inl (fun j => nI (g j)))), (k2, .inl (cI, 40, .inl (fun j => nI (z j)))), (aw, .inr (2, [.ref w1])), (w1, .inl (cI, 204, .inl (fun j => nI (w j))))] sz) := by
  refine vx_ofW (cc := cX3_keepWide) (maxL := 2) (ret := (some .int)) (by decide) rfl ?_
  intro p e s m args below meth c s₁ B hml hno hv
  obtain ⟨rfl, hsz, hP, hK, hD0, hZ, hT⟩ := hv
  have hx := B.exec
  have hb := B.bytes
  have hr := B.returns
  have hts := atoms_spec (ws := wsX3_keepWide) B.pre
  have hown : s.vm.findClass RX3 = some m.cls := findClass_of_methodNamed B.named
  have hlocks := B.notSynchronized
  subst hsz
  have hD := hD0.self (sz := s.heap.size)
  generalize hAe : va_A [(ax, .inr (3, [.ref ak, .ref ad, .ref ab, .ref ao, .ref aw])), (ak, .inr (0, [.ref k1, .ref k2, .int (nI n)])), (k1, .inl (cI, 8000, .inl (fun j => nI (g j)))), (k2, .inl (cI, 40, .inl (fun j => nI (z j)))), (aw, .inr (2, [.ref w1])), (w1, .inl (cI, 204, .inl (fun j => nI (w j))))] s.heap.size = A at hD hZ ⊢
  have hA : ∀ q : Nat, s.heap.size ≤ q → A q := fun q h => by rw [← hAe]; exact Or.inr h
  have hS : va_S A s.heap s.heap [] := va_S.rf
  have hinX0 : ∀ w ∈ wsX00, w ∈ wsX3_keepWide := by decide +kernel
  have hinX2 : ∀ w ∈ wsX20, w ∈ wsX3_keepWide := by decide +kernel
  have hinX3 : ∀ w ∈ wsX30, w ∈ wsX3_keepWide := by decide +kernel
  have hl := lv_entry ([.ref ax]) (n := 2) (Nat.le_of_ble_eq_true rfl)
  rw [lg_entry_eq]
  generalize (lg_sl ([.ref ax]) ++ List.replicate (2 - (lg_sl ([.ref ax])).length) Slot.unset).toArray = ls at hl ⊢
  have hl : lv_has ls 2 [(0, .ref ax)] := hl
  obtain ⟨hg, hn, hz, hq⟩ := id hI
  refine lv_aload_n hx hb dX3_keepWide_0 rfl (lv_at hl 0 rfl) ?_
  refine va_get (D := (dC, dI)) (ci := 3) (v := .ref aw) (C := RX3) (T := TX3) (N := 5) hx hb hts hinX3 hown hK hP 0 rfl rfl 4 (by decide) (hts (.fieldLink RX3 34 "NumberContents" "wide" "LNumberContents$Wide;") (by decide +kernel)) (fun _ h9 => h9) rfl dX3_keepWide_1 ?_
  have hPc := hP.sub (ws' := [(aw, .inr (2, [.ref w1])), (w1, .inl (cI, 204, .inl (fun j => nI (w j))))]) [4, 5] rfl
  have hKc := hK.sub (tys' := [(cI, .int)]) [0] rfl
  refine vp_callSi (W.runV (As := []) (rest := []) ⟨hx, hb, hml, hown, hts⟩ (c_X2_fewestBytes l dC dI cI aw w1 w hw) (cwV 0 hts gX3_keepWide_X2_fewestBytes rfl rfl rfl (by decide +kernel) ⟨Nat.le_of_ble_eq_true rfl, Nat.le_of_ble_eq_true rfl⟩) ⟨fun a U g mk q => by obtain ⟨q0, qP, qK⟩ := q; exact ⟨q0, qP, va_K.moved (u := U) (U := U.calling g mk a) (Vm.Alike.refl U.vm) qK⟩, va_recv hK hP (ci := 2) (q0 := 4) rfl rfl, fun U hU hW => ⟨rfl, by rw [hU]; exact hPc, va_K.moved hW.alike hKc⟩⟩ rfl rfl hl.1 rfl (lv_room (Nat.le_of_ble_eq_true rfl)) dX3_keepWide_4 ⟨Nat.le_of_ble_eq_true rfl, Nat.le_of_ble_eq_true rfl⟩) (fun r4 h4 => ?_)
  obtain ⟨k, rfl, hk1, hk2, hk3⟩ := h4
  refine lv_istore_n (lv' := [(1, .int (nI k)), (0, .ref ax)]) hx hb dX3_keepWide_7 rfl hl (by decide) rfl (fun ls hl => ?_)
  refine lv_aload_n hx hb dX3_keepWide_8 rfl (lv_at hl 1 rfl) ?_
  refine va_get (D := (dC, dI)) (ci := 3) (v := .ref ak) (C := RX3) (T := TX3) (N := 5) hx hb hts hinX3 hown hK hP 0 rfl rfl 0 (by decide) (hts (.fieldLink RX3 12 "NumberContents" "kept" "LNumberContents$Numbers;") (by decide +kernel)) (fun _ h9 => h9) rfl dX3_keepWide_9 ?_
  have hPc := hP.sub (ws' := [(ak, .inr (0, [.ref k1, .ref k2, .int (nI n)])), (k1, .inl (cI, 8000, .inl (fun j => nI (g j)))), (k2, .inl (cI, 40, .inl (fun j => nI (z j))))]) [1, 2, 3] rfl
  have hKc := hK.sub (tys' := [(cI, .int)]) [0] rfl
  refine vp_callSi (W.runV (As := []) (rest := []) ⟨hx, hb, hml, hown, hts⟩ (c_X0_hasRoom l dC dI cI ak k1 k2 n g z hn) (cwV 0 hts gX3_keepWide_X0_hasRoom rfl rfl rfl (by decide +kernel) ⟨Nat.le_of_ble_eq_true rfl, Nat.le_of_ble_eq_true rfl⟩) ⟨fun a U g mk q => by obtain ⟨q0, qP, qK⟩ := q; exact ⟨q0, qP, va_K.moved (u := U) (U := U.calling g mk a) (Vm.Alike.refl U.vm) qK⟩, va_recv hK hP (ci := 0) (q0 := 1) rfl rfl, fun U hU hW => ⟨rfl, by rw [hU]; exact hPc, va_K.moved hW.alike hKc⟩⟩ rfl rfl hl.1 rfl (lv_room (Nat.le_of_ble_eq_true rfl)) dX3_keepWide_12 ⟨Nat.le_of_ble_eq_true rfl, Nat.le_of_ble_eq_true rfl⟩) (fun r12 h12 => ?_)
  refine lv_if_eq (tgt := 25) hx hb dX3_keepWide_15 (by decide) (fun c15 => ?_) (fun c15 => ?_)
  · have hat : ∀ w ∈ vx_atS RX3 175 eUO eNs, w.before _ s = true := vx_hat (B := twL) (fun w hw => hts w ((by decide +kernel : ∀ w ∈ (vx_atS RX3 175 eUO eNs).filter goodWord, w ∈ wsX3_keepWide) w hw)) (by decide +kernel) (fun w hw => hT.use hw)
    obtain ⟨sa, hsa⟩ := hT.2 (173, "more than 40 numbers, or more than 200 bytes") (by decide +kernel)
    have hP9 := hP.sub (ws' := [(ax, .inr (3, [.ref ak, .ref ad, .ref ab, .ref ao, .ref aw])), (ak, .inr (0, [.ref k1, .ref k2, .int (nI n)])), (k1, .inl (cI, 8000, .inl (fun j => nI (g j)))), (k2, .inl (cI, 40, .inl (fun j => nI (z j)))), (aw, .inr (2, [.ref w1])), (w1, .inl (cI, 204, .inl (fun j => nI (w j))))]) [0, 1, 2, 3, 4, 5] rfl
    have hD9 := hD.sub (ws' := [(ax, .inr (3, [.ref ak, .ref ad, .ref ab, .ref ao, .ref aw])), (ak, .inr (0, [.ref k1, .ref k2, .int (nI n)])), (k1, .inl (cI, 8000, .inl (fun j => nI (g j)))), (k2, .inl (cI, 40, .inl (fun j => nI (z j)))), (aw, .inr (2, [.ref w1])), (w1, .inl (cI, 204, .inl (fun j => nI (w j))))]) [0, 1, 2, 3, 4, 5] (by decide) rfl
    have hK9 := hK.sub (tys' := [(cI, .int)]) [0] rfl
    exact vx_throwS (mc := 1) (ms := 6) hx hb hl9 hown (by decide +kernel) (by decide +kernel) (hts (.classLink RX3 171 "java/lang/UnsupportedOperationException") (by decide +kernel)) (hts (.initialized "java/lang/UnsupportedOperationException") (by decide +kernel)) hsa hat (by decide +kernel) hZ.1 hZ.2 hS (hl.1.trans hml.symm) dX3_keepWide_25 dX3_keepWide_28 dX3_keepWide_29 dX3_keepWide_31 dX3_keepWide_34 (fun x h => (hno x h).elim) (Nat.le_of_ble_eq_true rfl) (Nat.le_of_ble_eq_true rfl) (Nat.le_of_ble_eq_true rfl) (Nat.le_of_ble_eq_true rfl) hlocks (fun tS haS hzT hkT => ⟨(), trivial, ⟨(by first | exact ⟨rfl, Or.inr ⟨k, hk1, Nat.lt_of_not_le (fun y => c22 (nI_le y (by omega)))⟩⟩ | exact ⟨rfl, Or.inl (by have := ite_r h12 c15; omega)⟩), th_P hP9 hkT, va_K.moved haS hK9, hD9⟩, th_F hS hzT hkT⟩) hS.2.2 (by omega) (by omega)
  · refine lv_iload_n hx hb dX3_keepWide_18 rfl (lv_at hl 0 rfl) ?_
    refine lv_sipush (v := (nI 200)) hx hb dX3_keepWide_19 (by decide) ?_
    refine lv_icmp_le (tgt := 35) hx hb dX3_keepWide_22 (by decide) (fun c22 => ?_) (fun c22 => ?_)
    · refine lv_aload_n hx hb dX3_keepWide_35 rfl (lv_at hl 1 rfl) ?_
      refine va_get (D := (dC, dI)) (ci := 3) (v := .ref ak) (C := RX3) (T := TX3) (N := 5) hx hb hts hinX3 hown hK hP 0 rfl rfl 0 (by decide) (hts (.fieldLink RX3 12 "NumberContents" "kept" "LNumberContents$Numbers;") (by decide +kernel)) (fun _ h9 => h9) rfl dX3_keepWide_36 ?_
      refine lv_aload_n hx hb dX3_keepWide_39 rfl (lv_at hl 1 rfl) ?_
      refine va_get (D := (dC, dI)) (ci := 3) (v := .ref aw) (C := RX3) (T := TX3) (N := 5) hx hb hts hinX3 hown hK hP 0 rfl rfl 4 (by decide) (hts (.fieldLink RX3 34 "NumberContents" "wide" "LNumberContents$Wide;") (by decide +kernel)) (fun _ h9 => h9) rfl dX3_keepWide_40 ?_
      refine lv_iload_n hx hb dX3_keepWide_43 rfl (lv_at hl 0 rfl) ?_
      have hPc := hP.sub (ws' := [(ak, .inr (0, [.ref k1, .ref k2, .int (nI n)])), (k1, .inl (cI, 8000, .inl (fun j => nI (g j)))), (k2, .inl (cI, 40, .inl (fun j => nI (z j)))), (aw, .inr (2, [.ref w1])), (w1, .inl (cI, 204, .inl (fun j => nI (w j))))]) [1, 2, 3, 4, 5] rfl
      have hKc := hK.sub (tys' := [(cI, .int)]) [0] rfl
      have hDc := hD.sub (ws' := [(ak, .inr (0, [.ref k1, .ref k2, .int (nI n)])), (k1, .inl (cI, 8000, .inl (fun j => nI (g j)))), (k2, .inl (cI, 40, .inl (fun j => nI (z j)))), (aw, .inr (2, [.ref w1])), (w1, .inl (cI, 204, .inl (fun j => nI (w j))))]) [1, 2, 3, 4, 5] (by decide) rfl
      have hFc := va_free (wc := [(ak, .inr (0, [.ref k1, .ref k2, .int (nI n)])), (k1, .inl (cI, 8000, .inl (fun j => nI (g j)))), (k2, .inl (cI, 40, .inl (fun j => nI (z j)))), (aw, .inr (2, [.ref w1])), (w1, .inl (cI, 204, .inl (fun j => nI (w j))))]) hD hS hA [1, 2, 3, 4, 5] rfl
      refine va_calli (va_runV (As := [.ref aw, .int (nI k)]) (rest := []) ⟨hx, hb, hml, hown, hts⟩ (c_X0_add l dC dI cI ak k1 k2 n g z aw w1 k w s.heap.size (ite_s h12 c15) ⟨hk1.1, (nI_leI (by omega) (by omega)).mp c22⟩) (cwV 2 hts gX3_keepWide_X0_add rfl rfl rfl (by decide +kernel) ⟨Nat.le_of_ble_eq_true rfl, Nat.le_of_ble_eq_true rfl⟩) ⟨fun a U g mk q => by obtain ⟨q0, q1, qP, qK, qD⟩ := q; exact ⟨q0, q1, qP, va_K.moved (u := U) (U := U.calling g mk a) (Vm.Alike.refl U.vm) qK, qD⟩, va_recv hKc hPc (ci := 0) (q0 := 0) rfl rfl, fun U hU hW => ⟨rfl, by rw [hU], by rw [hU]; exact hPc, va_K.moved hW.alike hKc, hDc.weaken (fun _ _ _ _ => trivial)⟩⟩ rfl rfl hl.1 rfl (lv_room (Nat.le_of_ble_eq_true rfl)) dX3_keepWide_44 ⟨Nat.le_of_ble_eq_true rfl, Nat.le_of_ble_eq_true rfl⟩) hS (fun q _ h => hFc q h) hFc (fun r44 uS tS H1 locs htS hvm h44 hB hzS hkS hS => ?_)
      obtain ⟨g3_44, rfl⟩ : ∃ z, z = uS := ⟨_, rfl⟩
      obtain ⟨hP1, hK1, hD1⟩ := hB
      rw [htS] at hP1
      have hK1 := va_K.moved hvm.symm hK1
      try dsimp only at h44
      obtain ⟨hP, hD⟩ := va_join (wr := [(ax, .inr (3, [.ref ak, .ref ad, .ref ab, .ref ao, .ref aw]))]) (w1 := [(ak, .inr (0, [.ref k1, .ref k2, .int (nI (n + 1))])), (k1, .inl (cI, 8000, .inl (fun j => nI (g3_44 j)))), (k2, .inl (cI, 40, .inl (fun j => nI (va_up z n k j)))), (aw, .inr (2, [.ref w1])), (w1, .inl (cI, 204, .inl (fun j => nI (w j))))]) hP hD [1, 2, 3, 4, 5] [0] rfl rfl (by decide) (by decide) hkS hFc hP1 hD1
      generalize H1 = H at hP hS ⊢
      have hP : va_P (dC, dI) vwCl [(ax, .inr (3, [.ref ak, .ref ad, .ref ab, .ref ao, .ref aw])), (ak, .inr (0, [.ref k1, .ref k2, .int (nI (n + 1))])), (k1, .inl (cI, 8000, .inl (fun j => nI (g3_44 j)))), (k2, .inl (cI, 40, .inl (fun j => nI (va_up z n k j)))), (aw, .inr (2, [.ref w1])), (w1, .inl (cI, 204, .inl (fun j => nI (w j))))] H := hP
      have hD : va_D A [(ax, .inr (3, [.ref ak, .ref ad, .ref ab, .ref ao, .ref aw])), (ak, .inr (0, [.ref k1, .ref k2, .int (nI (n + 1))])), (k1, .inl (cI, 8000, .inl (fun j => nI (g3_44 j)))), (k2, .inl (cI, 40, .inl (fun j => nI (va_up z n k j)))), (aw, .inr (2, [.ref w1])), (w1, .inl (cI, 204, .inl (fun j => nI (w j))))] := hD
      have hP9 := hP.sub (ws' := [(ax, .inr (3, [.ref ak, .ref ad, .ref ab, .ref ao, .ref aw])), (ak, .inr (0, [.ref k1, .ref k2, .int (nI (n + 1))])), (k1, .inl (cI, 8000, .inl (fun j => nI (g3_44 j)))), (k2, .inl (cI, 40, .inl (fun j => nI (va_up z n k j)))), (aw, .inr (2, [.ref w1])), (w1, .inl (cI, 204, .inl (fun j => nI (w j))))]) [0, 1, 2, 3, 4, 5] rfl
      have hD9 := hD.sub (ws' := [(ax, .inr (3, [.ref ak, .ref ad, .ref ab, .ref ao, .ref aw])), (ak, .inr (0, [.ref k1, .ref k2, .int (nI (n + 1))])), (k1, .inl (cI, 8000, .inl (fun j => nI (g3_44 j)))), (k2, .inl (cI, 40, .inl (fun j => nI (va_up z n k j)))), (aw, .inr (2, [.ref w1])), (w1, .inl (cI, 204, .inl (fun j => nI (w j))))]) [0, 1, 2, 3, 4, 5] (by decide) rfl
      have hK9 := hK.sub (tys' := [(cI, .int)]) [0] rfl
      exact vx_ret (W.widen (k := 1) (n := 6) (by omega) (by omega) (W.iret (v := r44) hx hb hr (fun tS htS hW => ⟨⟨r44, (g3_44, (va_up z n k)), rfl, (kept_of hI (kw_end hg hw hz (ite_s h12 c15) hk1 ((nI_leI (by omega) (by omega)).mp c22) hk3 h44)), by rw [htS]; exact hP9, va_K.moved hW.alike hK9, hD9⟩, hS.F htS⟩) hS.2.2 dX3_keepWide_47))
    · have hat : ∀ w ∈ vx_atS RX3 175 eUO eNs, w.before _ s = true := vx_hat (B := twL) (fun w hw => hts w ((by decide +kernel : ∀ w ∈ (vx_atS RX3 175 eUO eNs).filter goodWord, w ∈ wsX3_keepWide) w hw)) (by decide +kernel) (fun w hw => hT.use hw)
      obtain ⟨sa, hsa⟩ := hT.2 (173, "more than 40 numbers, or more than 200 bytes") (by decide +kernel)
      have hP9 := hP.sub (ws' := [(ax, .inr (3, [.ref ak, .ref ad, .ref ab, .ref ao, .ref aw])), (ak, .inr (0, [.ref k1, .ref k2, .int (nI n)])), (k1, .inl (cI, 8000, .inl (fun j => nI (g j)))), (k2, .inl (cI, 40, .inl (fun j => nI (z j)))), (aw, .inr (2, [.ref w1])), (w1, .inl (cI, 204, .inl (fun j => nI (w j))))]) [0, 1, 2, 3, 4, 5] rfl
      have hD9 := hD.sub (ws' := [(ax, .inr (3, [.ref ak, .ref ad, .ref ab, .ref ao, .ref aw])), (ak, .inr (0, [.ref k1, .ref k2, .int (nI n)])), (k1, .inl (cI, 8000, .inl (fun j => nI (g j)))), (k2, .inl (cI, 40, .inl (fun j => nI (z j)))), (aw, .inr (2, [.ref w1])), (w1, .inl (cI, 204, .inl (fun j => nI (w j))))]) [0, 1, 2, 3, 4, 5] (by decide) rfl
      have hK9 := hK.sub (tys' := [(cI, .int)]) [0] rfl
      exact vx_throwS (mc := 1) (ms := 6) hx hb hl9 hown (by decide +kernel) (by decide +kernel) (hts (.classLink RX3 171 "java/lang/UnsupportedOperationException") (by decide +kernel)) (hts (.initialized "java/lang/UnsupportedOperationException") (by decide +kernel)) hsa hat (by decide +kernel) hZ.1 hZ.2 hS (hl.1.trans hml.symm) dX3_keepWide_25 dX3_keepWide_28 dX3_keepWide_29 dX3_keepWide_31 dX3_keepWide_34 (fun x h => (hno x h).elim) (Nat.le_of_ble_eq_true rfl) (Nat.le_of_ble_eq_true rfl) (Nat.le_of_ble_eq_true rfl) (Nat.le_of_ble_eq_true rfl) hlocks (fun tS haS hzT hkT => ⟨(), trivial, ⟨(by first | exact ⟨rfl, Or.inr ⟨k, hk1, Nat.lt_of_not_le (fun y => c22 (nI_le y (by omega)))⟩⟩ | exact ⟨rfl, Or.inl (by have := ite_r h12 c15; omega)⟩), th_P hP9 hkT, va_K.moved haS hK9, hD9⟩, th_F hS hzT hkT⟩) hS.2.2 (by omega) (by omega)

