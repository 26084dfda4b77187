set_option maxHeartbeats 4000000 in
set_option maxRecDepth 100000 in
theorem c_X0_howMany (l : Launch) (dC : Nat → ClassId) (dI : Nat → Nat → Nat) (cI : ClassId) (h0 q1 q2 n : Nat) (g z : Nat → Nat)  : Met l yX0_howMany wsX0_howMany ({ frames := 0, cells := 0, slots := 0, locals := 0 } : Room) (va_Pc [.ref h0] (fun U => va_P (dC, dI) vwCl [(h0, .inr (0, [.ref q1, .ref q2, .int (nI n)])), (q1, .inl (cI, 8000, .inl (fun j => nI (g j)))), (q2, .inl (cI, 40, .inl (fun j => nI (z j))))] U.heap ∧ va_K (dC, dI) vwCl [(cI, .int)] U)) (vp_Si (fun r : Int32 => r = nI n)) 0 0 (fun _ => False) := by
  refine Met.ofW (cc := cX0_howMany) (maxL := 1) (ret := (some .int)) (by decide) rfl ?_
  intro p e s m args below meth c s₁ B hml hv
  obtain ⟨rfl, hP, hK⟩ := hv
  have hx := B.exec
  have hb := B.bytes
  have hr := B.returns
  have hts := atoms_spec (ws := wsX0_howMany) B.pre
  have hown : s.vm.findClass RX0 = some m.cls := findClass_of_methodNamed B.named
  have hlocks := B.notSynchronized
  have hinX0 : ∀ w ∈ wsX00, w ∈ wsX0_howMany := by decide +kernel
  have hl := lv_entry ([.ref h0]) (n := 1) (Nat.le_of_ble_eq_true rfl)
  rw [lg_entry_eq]
  generalize (lg_sl ([.ref h0]) ++ List.replicate (1 - (lg_sl ([.ref h0])).length) Slot.unset).toArray = ls at hl ⊢
  have hl : lv_has ls 1 [(0, .ref h0)] := hl
  refine lv_aload_n hx hb dX0_howMany_0 rfl (lv_at hl 0 rfl) ?_
  refine va_get (D := (dC, dI)) (ci := 0) (v := .int (nI n)) (C := RX0) (T := TX0) (N := 3) hx hb hts hinX0 hown hK hP 0 rfl rfl 2 (by decide) (hts (.fieldLink RX0 18 "NumberContents$Numbers" "used" "I") (by decide +kernel)) (fun _ h9 => h9) rfl dX0_howMany_1 ?_
  exact W.iret (v := (nI n)) hx hb hr (fun tS htS hW => ⟨(nI n), rfl, rfl, htS⟩) t_nil dX0_howMany_4

set_option maxHeartbeats 4000000 in
set_option maxRecDepth 100000 in
theorem c_X0_has (l : Launch) (dC : Nat → ClassId) (dI : Nat → Nat → Nat) (cI : ClassId) (h0 q1 q2 n : Nat) (g z : Nat → Nat) (i : Int32) (hn : n ≤ 40) : Met l yX0_has wsX0_has ({ frames := 0, cells := 0, slots := 0, locals := 0 } : Room) (va_Pc [.ref h0, .int i] (fun U => va_P (dC, dI) vwCl [(h0, .inr (0, [.ref q1, .ref q2, .int (nI n)])), (q1, .inl (cI, 8000, .inl (fun j => nI (g j)))), (q2, .inl (cI, 40, .inl (fun j => nI (z j))))] U.heap ∧ va_K (dC, dI) vwCl [(cI, .int)] U)) (vp_Si (fun r : Int32 => (r = 1 ∧ vp_in i n) ∨ (r = 0 ∧ ¬ vp_in i n))) 0 0 (fun _ => False) := by
  refine Met.ofW (cc := cX0_has) (maxL := 2) (ret := (some .boolean)) (by decide) rfl ?_
  intro p e s m args below meth c s₁ B hml hv
  obtain ⟨rfl, hP, hK⟩ := hv
  have hx := B.exec
  have hb := B.bytes
  have hr := B.returns
  have hts := atoms_spec (ws := wsX0_has) B.pre
  have hown : s.vm.findClass RX0 = some m.cls := findClass_of_methodNamed B.named
  have hlocks := B.notSynchronized
  have hinX0 : ∀ w ∈ wsX00, w ∈ wsX0_has := by decide +kernel
  have hl := lv_entry ([.ref h0, .int i]) (n := 2) (Nat.le_of_ble_eq_true rfl)
  rw [lg_entry_eq]
  generalize (lg_sl ([.ref h0, .int i]) ++ List.replicate (2 - (lg_sl ([.ref h0, .int i])).length) Slot.unset).toArray = ls at hl ⊢
  have hl : lv_has ls 2 [(0, .ref h0), (1, .int i)] := hl
  refine lv_iload_n hx hb dX0_has_0 rfl (lv_at hl 1 rfl) ?_
  refine lv_if_lt (tgt := 16) hx hb dX0_has_1 (by decide) (fun c1 => ?_) (fun c1 => ?_)
  · refine lv_iconst (v := 0) hx hb dX0_has_16 (by decide) ?_
    exact W.zret (v := 0) hx hb hr rfl (fun tS htS hW => ⟨0, rfl, (by first | exact Or.inl ⟨rfl, vi_lt c1 (by omega) c9⟩ | exact Or.inr ⟨rfl, vi_ge (by omega) c9⟩ | exact Or.inr ⟨rfl, vi_neg c1⟩), htS⟩) t_nil dX0_has_17
  · refine lv_iload_n hx hb dX0_has_4 rfl (lv_at hl 1 rfl) ?_
    refine lv_aload_n hx hb dX0_has_5 rfl (lv_at hl 0 rfl) ?_
    refine va_get (D := (dC, dI)) (ci := 0) (v := .int (nI n)) (C := RX0) (T := TX0) (N := 3) hx hb hts hinX0 hown hK hP 0 rfl rfl 2 (by decide) (hts (.fieldLink RX0 18 "NumberContents$Numbers" "used" "I") (by decide +kernel)) (fun _ h9 => h9) rfl dX0_has_6 ?_
    refine lv_icmp_ge (tgt := 16) hx hb dX0_has_9 (by decide) (fun c9 => ?_) (fun c9 => ?_)
    · refine lv_iconst (v := 0) hx hb dX0_has_16 (by decide) ?_
      exact W.zret (v := 0) hx hb hr rfl (fun tS htS hW => ⟨0, rfl, (by first | exact Or.inl ⟨rfl, vi_lt c1 (by omega) c9⟩ | exact Or.inr ⟨rfl, vi_ge (by omega) c9⟩ | exact Or.inr ⟨rfl, vi_neg c1⟩), htS⟩) t_nil dX0_has_17
    · refine lv_iconst (v := 1) hx hb dX0_has_12 (by decide) ?_
      refine lv_goto (tgt := 17) hx hb dX0_has_13 (by decide) ?_
      exact W.zret (v := 1) hx hb hr rfl (fun tS htS hW => ⟨1, rfl, (by first | exact Or.inl ⟨rfl, vi_lt c1 (by omega) c9⟩ | exact Or.inr ⟨rfl, vi_ge (by omega) c9⟩ | exact Or.inr ⟨rfl, vi_neg c1⟩), htS⟩) t_nil dX0_has_17

set_option maxHeartbeats 4000000 in
set_option maxRecDepth 100000 in
theorem c_X0_hasRoom (l : Launch) (dC : Nat → ClassId) (dI : Nat → Nat → Nat) (cI : ClassId) (h0 q1 q2 n : Nat) (g z : Nat → Nat) (hn : n ≤ 40) : Met l yX0_hasRoom wsX0_hasRoom ({ frames := 0, cells := 0, slots := 0, locals := 0 } : Room) (va_Pc [.ref h0] (fun U => va_P (dC, dI) vwCl [(h0, .inr (0, [.ref q1, .ref q2, .int (nI n)])), (q1, .inl (cI, 8000, .inl (fun j => nI (g j)))), (q2, .inl (cI, 40, .inl (fun j => nI (z j))))] U.heap ∧ va_K (dC, dI) vwCl [(cI, .int)] U)) (vp_Si (fun r : Int32 => (r = 1 ∧ n < 40) ∨ (r = 0 ∧ ¬ n < 40))) 0 0 (fun _ => False) := by
  refine Met.ofW (cc := cX0_hasRoom) (maxL := 1) (ret := (some .boolean)) (by decide) rfl ?_
  intro p e s m args below meth c s₁ B hml hv
  obtain ⟨rfl, hP, hK⟩ := hv
  have hx := B.exec
  have hb := B.bytes
  have hr := B.returns
  have hts := atoms_spec (ws := wsX0_hasRoom) B.pre
  have hown : s.vm.findClass RX0 = some m.cls := findClass_of_methodNamed B.named
  have hlocks := B.notSynchronized
  have hinX0 : ∀ w ∈ wsX00, w ∈ wsX0_hasRoom := by decide +kernel
  have hl := lv_entry ([.ref h0]) (n := 1) (Nat.le_of_ble_eq_true rfl)
  rw [lg_entry_eq]
  generalize (lg_sl ([.ref h0]) ++ List.replicate (1 - (lg_sl ([.ref h0])).length) Slot.unset).toArray = ls at hl ⊢
  have hl : lv_has ls 1 [(0, .ref h0)] := hl
  refine lv_aload_n hx hb dX0_hasRoom_0 rfl (lv_at hl 0 rfl) ?_
  refine va_get (D := (dC, dI)) (ci := 0) (v := .int (nI n)) (C := RX0) (T := TX0) (N := 3) hx hb hts hinX0 hown hK hP 0 rfl rfl 2 (by decide) (hts (.fieldLink RX0 18 "NumberContents$Numbers" "used" "I") (by decide +kernel)) (fun _ h9 => h9) rfl dX0_hasRoom_1 ?_
  refine lv_bipush (v := (nI 40)) hx hb dX0_hasRoom_4 (by decide) ?_
  refine lv_icmp_ge (tgt := 13) hx hb dX0_hasRoom_6 (by decide) (fun c6 => ?_) (fun c6 => ?_)
  · refine lv_iconst (v := 0) hx hb dX0_hasRoom_13 (by decide) ?_
    exact W.zret (v := 0) hx hb hr rfl (fun tS htS hW => ⟨0, rfl, (by first | exact Or.inr ⟨rfl, fun y => nI_ge y (by omega) c6⟩ | exact Or.inl ⟨rfl, Nat.lt_of_not_le (fun y => c6 (nI_le y (by omega)))⟩), htS⟩) t_nil dX0_hasRoom_14
  · refine lv_iconst (v := 1) hx hb dX0_hasRoom_9 (by decide) ?_
    refine lv_goto (tgt := 14) hx hb dX0_hasRoom_10 (by decide) ?_
    exact W.zret (v := 1) hx hb hr rfl (fun tS htS hW => ⟨1, rfl, (by first | exact Or.inr ⟨rfl, fun y => nI_ge y (by omega) c6⟩ | exact Or.inl ⟨rfl, Nat.lt_of_not_le (fun y => c6 (nI_le y (by omega)))⟩), htS⟩) t_nil dX0_hasRoom_14

set_option maxHeartbeats 4000000 in
set_option maxRecDepth 100000 in
theorem c_X0_sizeOf (l : Launch) (dC : Nat → ClassId) (dI : Nat → Nat → Nat) (cI : ClassId) (h0 q1 q2 n : Nat) (g z : Nat → Nat) (a : Nat) (hn : n ≤ 40) (ha : a < n) : Met l yX0_sizeOf wsX0_sizeOf ({ frames := 1, cells := 0, slots := 0, locals := 21 } : Room) (va_Pc [.ref h0, .int (nI a)] (fun U => va_P (dC, dI) vwCl [(h0, .inr (0, [.ref q1, .ref q2, .int (nI n)])), (q1, .inl (cI, 8000, .inl (fun j => nI (g j)))), (q2, .inl (cI, 40, .inl (fun j => nI (z j))))] U.heap ∧ va_K (dC, dI) vwCl [(cI, .int)] U)) (vp_Si (fun r : Int32 => r = nI (z a))) 0 0 (fun _ => False) := by
  refine Met.ofW (cc := cX0_sizeOf) (maxL := 2) (ret := (some .int)) (by decide) rfl ?_
  intro p e s m args below meth c s₁ B hml hv
  obtain ⟨rfl, hP, hK⟩ := hv
  have hx := B.exec
  have hb := B.bytes
  have hr := B.returns
  have hts := atoms_spec (ws := wsX0_sizeOf) B.pre
  have hown : s.vm.findClass RX0 = some m.cls := findClass_of_methodNamed B.named
  have hlocks := B.notSynchronized
  have hinX0 : ∀ w ∈ wsX00, w ∈ wsX0_sizeOf := by decide +kernel
  have hl := lv_entry ([.ref h0, .int (nI a)]) (n := 2) (Nat.le_of_ble_eq_true rfl)
  rw [lg_entry_eq]
  generalize (lg_sl ([.ref h0, .int (nI a)]) ++ List.replicate (2 - (lg_sl ([.ref h0, .int (nI a)])).length) Slot.unset).toArray = ls at hl ⊢
  have hl : lv_has ls 2 [(0, .ref h0), (1, .int (nI a))] := hl
  refine lv_aload_n hx hb dX0_sizeOf_0 rfl (lv_at hl 0 rfl) ?_
  refine lv_iload_n hx hb dX0_sizeOf_1 rfl (lv_at hl 1 rfl) ?_
  have hPc := hP.sub (ws' := [(h0, .inr (0, [.ref q1, .ref q2, .int (nI n)])), (q1, .inl (cI, 8000, .inl (fun j => nI (g j)))), (q2, .inl (cI, 40, .inl (fun j => nI (z j))))]) [0, 1, 2] rfl
  have hKc := hK.sub (tys' := [(cI, .int)]) [0] rfl
  refine vp_callSi (W.runV (As := [.int (nI a)]) (rest := []) ⟨hx, hb, hml, hown, hts⟩ (c_X0_has l dC dI cI h0 q1 q2 n g z (nI a) hn) (cwV 1 hts gX0_sizeOf_X0_has rfl rfl rfl (by decide +kernel) ⟨Nat.le_of_ble_eq_true rfl, Nat.le_of_ble_eq_true rfl⟩) ⟨fun a U g mk q => by obtain ⟨q0, qP, qK⟩ := q; exact ⟨q0, qP, va_K.moved (u := U) (U := U.calling g mk a) (Vm.Alike.refl U.vm) qK⟩, va_recv hK hP (ci := 0) (q0 := 0) rfl rfl, fun U hU hW => ⟨rfl, by rw [hU]; exact hPc, va_K.moved hW.alike hKc⟩⟩ rfl rfl hl.1 rfl (lv_room (Nat.le_of_ble_eq_true rfl)) dX0_sizeOf_2 ⟨Nat.le_of_ble_eq_true rfl, Nat.le_of_ble_eq_true rfl⟩) (fun r2 h2 => ?_)
  refine lv_if_eq (tgt := 17) hx hb dX0_sizeOf_5 (by decide) (fun c5 => ?_) (fun c5 => ?_)
  · exact absurd c5 (fun y => ite_r h2 y (vp_in_nI ha (by omega)))
  · refine lv_aload_n hx hb dX0_sizeOf_8 rfl (lv_at hl 0 rfl) ?_
    refine va_get (D := (dC, dI)) (ci := 0) (v := .ref q2) (C := RX0) (T := TX0) (N := 3) hx hb hts hinX0 hown hK hP 0 rfl rfl 1 (by decide) (hts (.fieldLink RX0 15 "NumberContents$Numbers" "sizes" "[I") (by decide +kernel)) (fun _ h9 => h9) rfl dX0_sizeOf_9 ?_
    refine lv_iload_n hx hb dX0_sizeOf_12 rfl (lv_at hl 1 rfl) ?_
    refine va_iald hx hb hK hP 2 0 rfl rfl (vp_in_nI (by omega) (by omega)) dX0_sizeOf_13 ?_
    refine lv_topi (fun x13 e13 => ?_)
    obtain rfl : x13 = nI (z a) := e13.trans (atg (by omega))
    refine lv_goto (tgt := 18) hx hb dX0_sizeOf_14 (by decide) ?_
    exact W.iret (v := (nI (z a))) hx hb hr (fun tS htS hW => ⟨(nI (z a)), rfl, rfl, htS⟩) t_nil dX0_sizeOf_18

set_option maxHeartbeats 4000000 in
set_option maxRecDepth 100000 in
theorem c_X0_lowByte (l : Launch) (dC : Nat → ClassId) (dI : Nat → Nat → Nat) (cI : ClassId) (h0 q1 q2 n : Nat) (g z : Nat → Nat) (a i : Nat) (hn : n ≤ 40) (hz : ∀ a, a < n → 1 ≤ z a ∧ z a ≤ 200) (ha : a < n) (hi : i < z a) : Met l yX0_lowByte wsX0_lowByte ({ frames := 1, cells := 0, slots := 0, locals := 21 } : Room) (va_Pc [.ref h0, .int (nI a), .int (nI i)] (fun U => va_P (dC, dI) vwCl [(h0, .inr (0, [.ref q1, .ref q2, .int (nI n)])), (q1, .inl (cI, 8000, .inl (fun j => nI (g j)))), (q2, .inl (cI, 40, .inl (fun j => nI (z j))))] U.heap ∧ va_K (dC, dI) vwCl [(cI, .int)] U)) (vp_Si (fun r : Int32 => r = nI (g (a * 200 + i)))) 0 0 (fun _ => False) := by
  refine Met.ofW (cc := cX0_lowByte) (maxL := 3) (ret := (some .int)) (by decide) rfl ?_
  intro p e s m args below meth c s₁ B hml hv
  obtain ⟨rfl, hP, hK⟩ := hv
  have hx := B.exec
  have hb := B.bytes
  have hr := B.returns
  have hts := atoms_spec (ws := wsX0_lowByte) B.pre
  have hown : s.vm.findClass RX0 = some m.cls := findClass_of_methodNamed B.named
  have hlocks := B.notSynchronized
  have hinX0 : ∀ w ∈ wsX00, w ∈ wsX0_lowByte := by decide +kernel
  have hl := lv_entry ([.ref h0, .int (nI a), .int (nI i)]) (n := 3) (Nat.le_of_ble_eq_true rfl)
  rw [lg_entry_eq]
  generalize (lg_sl ([.ref h0, .int (nI a), .int (nI i)]) ++ List.replicate (3 - (lg_sl ([.ref h0, .int (nI a), .int (nI i)])).length) Slot.unset).toArray = ls at hl ⊢
  have hl : lv_has ls 3 [(0, .ref h0), (1, .int (nI a)), (2, .int (nI i))] := hl
  have hza := hz a ha
  refine lv_aload_n hx hb dX0_lowByte_0 rfl (lv_at hl 0 rfl) ?_
  refine lv_iload_n hx hb dX0_lowByte_1 rfl (lv_at hl 1 rfl) ?_
  have hPc := hP.sub (ws' := [(h0, .inr (0, [.ref q1, .ref q2, .int (nI n)])), (q1, .inl (cI, 8000, .inl (fun j => nI (g j)))), (q2, .inl (cI, 40, .inl (fun j => nI (z j))))]) [0, 1, 2] rfl
  have hKc := hK.sub (tys' := [(cI, .int)]) [0] rfl
  refine vp_callSi (W.runV (As := [.int (nI a)]) (rest := []) ⟨hx, hb, hml, hown, hts⟩ (c_X0_has l dC dI cI h0 q1 q2 n g z (nI a) hn) (cwV 1 hts gX0_lowByte_X0_has rfl rfl rfl (by decide +kernel) ⟨Nat.le_of_ble_eq_true rfl, Nat.le_of_ble_eq_true rfl⟩) ⟨fun a U g mk q => by obtain ⟨q0, qP, qK⟩ := q; exact ⟨q0, qP, va_K.moved (u := U) (U := U.calling g mk a) (Vm.Alike.refl U.vm) qK⟩, va_recv hK hP (ci := 0) (q0 := 0) rfl rfl, fun U hU hW => ⟨rfl, by rw [hU]; exact hPc, va_K.moved hW.alike hKc⟩⟩ rfl rfl hl.1 rfl (lv_room (Nat.le_of_ble_eq_true rfl)) dX0_lowByte_2 ⟨Nat.le_of_ble_eq_true rfl, Nat.le_of_ble_eq_true rfl⟩) (fun r2 h2 => ?_)
  refine lv_if_eq (tgt := 37) hx hb dX0_lowByte_5 (by decide) (fun c5 => ?_) (fun c5 => ?_)
  · exact absurd c5 (fun y => ite_r h2 y (vp_in_nI ha (by omega)))
  · refine lv_iload_n hx hb dX0_lowByte_8 rfl (lv_at hl 2 rfl) ?_
    refine lv_if_lt (tgt := 37) hx hb dX0_lowByte_9 (by decide) (fun c9 => ?_) (fun c9 => ?_)
    · exact absurd c9 (nI_pos (by omega))
    · refine lv_iload_n hx hb dX0_lowByte_12 rfl (lv_at hl 2 rfl) ?_
      refine lv_aload_n hx hb dX0_lowByte_13 rfl (lv_at hl 0 rfl) ?_
      refine va_get (D := (dC, dI)) (ci := 0) (v := .ref q2) (C := RX0) (T := TX0) (N := 3) hx hb hts hinX0 hown hK hP 0 rfl rfl 1 (by decide) (hts (.fieldLink RX0 15 "NumberContents$Numbers" "sizes" "[I") (by decide +kernel)) (fun _ h9 => h9) rfl dX0_lowByte_14 ?_
      refine lv_iload_n hx hb dX0_lowByte_17 rfl (lv_at hl 1 rfl) ?_
      refine va_iald hx hb hK hP 2 0 rfl rfl (vp_in_nI (by omega) (by omega)) dX0_lowByte_18 ?_
      refine lv_topi (fun x18 e18 => ?_)
      obtain rfl : x18 = nI (z a) := e18.trans (atg (by omega))
      refine lv_icmp_ge (tgt := 37) hx hb dX0_lowByte_19 (by decide) (fun c19 => ?_) (fun c19 => ?_)
      · exact absurd c19 (nI_ge hi (by omega))
      · refine lv_aload_n hx hb dX0_lowByte_22 rfl (lv_at hl 0 rfl) ?_
        refine va_get (D := (dC, dI)) (ci := 0) (v := .ref q1) (C := RX0) (T := TX0) (N := 3) hx hb hts hinX0 hown hK hP 0 rfl rfl 0 (by decide) (hts (.fieldLink RX0 9 "NumberContents$Numbers" "items" "[I") (by decide +kernel)) (fun _ h9 => h9) rfl dX0_lowByte_23 ?_
        refine lv_iload_n hx hb dX0_lowByte_26 rfl (lv_at hl 1 rfl) ?_
        refine lv_sipush (v := (nI 200)) hx hb dX0_lowByte_27 (by decide) ?_
        refine lv_imul hx hb dX0_lowByte_30 ?_
        refine lv_topi (fun x30 e30 => ?_)
        obtain rfl : x30 = nI (a * 200) := e30.trans (pk_mul a 200)
        refine lv_iload_n hx hb dX0_lowByte_31 rfl (lv_at hl 2 rfl) ?_
        refine lv_iadd hx hb dX0_lowByte_32 ?_
        refine lv_topi (fun x32 e32 => ?_)
        obtain rfl : x32 = nI (a * 200 + i) := e32.trans (nI_add _ _)
        refine va_iald hx hb hK hP 1 0 rfl rfl (vp_in_nI (by omega) (by omega)) dX0_lowByte_33 ?_
        refine lv_topi (fun x33 e33 => ?_)
        obtain rfl : x33 = nI (g (a * 200 + i)) := e33.trans (atg (by omega))
        refine lv_goto (tgt := 38) hx hb dX0_lowByte_34 (by decide) ?_
        exact W.iret (v := (nI (g (a * 200 + i)))) hx hb hr (fun tS htS hW => ⟨(nI (g (a * 200 + i))), rfl, rfl, htS⟩) t_nil dX0_lowByte_38

set_option maxHeartbeats 4000000 in
set_option maxRecDepth 100000 in
theorem c_X0_isMinus (l : Launch) (dC : Nat → ClassId) (dI : Nat → Nat → Nat) (cI : ClassId) (h0 q1 q2 n : Nat) (g z : Nat → Nat) (a : Nat) (hg : ∀ j, g j < 256) (hn : n ≤ 40) (hz : ∀ a, a < n → 1 ≤ z a ∧ z a ≤ 200) (ha : a < n) : Met l yX0_isMinus wsX0_isMinus ({ frames := 2, cells := 0, slots := 0, locals := 43 } : Room) (va_Pc [.ref h0, .int (nI a)] (fun U => va_P (dC, dI) vwCl [(h0, .inr (0, [.ref q1, .ref q2, .int (nI n)])), (q1, .inl (cI, 8000, .inl (fun j => nI (g j)))), (q2, .inl (cI, 40, .inl (fun j => nI (z j))))] U.heap ∧ va_K (dC, dI) vwCl [(cI, .int)] U)) (vp_Si (fun r : Int32 => (r = 1 ∧ 128 ≤ g (a * 200 + (z a - 1))) ∨ (r = 0 ∧ ¬ 128 ≤ g (a * 200 + (z a - 1))))) 0 0 (fun _ => False) := by
  refine Met.ofW (cc := cX0_isMinus) (maxL := 2) (ret := (some .boolean)) (by decide) rfl ?_
  intro p e s m args below meth c s₁ B hml hv
  obtain ⟨rfl, hP, hK⟩ := hv
  have hx := B.exec
  have hb := B.bytes
  have hr := B.returns
  have hts := atoms_spec (ws := wsX0_isMinus) B.pre
  have hown : s.vm.findClass RX0 = some m.cls := findClass_of_methodNamed B.named
  have hlocks := B.notSynchronized
  have hl := lv_entry ([.ref h0, .int (nI a)]) (n := 2) (Nat.le_of_ble_eq_true rfl)
  rw [lg_entry_eq]
  generalize (lg_sl ([.ref h0, .int (nI a)]) ++ List.replicate (2 - (lg_sl ([.ref h0, .int (nI a)])).length) Slot.unset).toArray = ls at hl ⊢
  have hl : lv_has ls 2 [(0, .ref h0), (1, .int (nI a))] := hl
  have hza := hz a ha
  refine lv_aload_n hx hb dX0_isMinus_0 rfl (lv_at hl 0 rfl) ?_
  refine lv_iload_n hx hb dX0_isMinus_1 rfl (lv_at hl 1 rfl) ?_
  refine lv_aload_n hx hb dX0_isMinus_2 rfl (lv_at hl 0 rfl) ?_
  refine lv_iload_n hx hb dX0_isMinus_3 rfl (lv_at hl 1 rfl) ?_
  have hPc := hP.sub (ws' := [(h0, .inr (0, [.ref q1, .ref q2, .int (nI n)])), (q1, .inl (cI, 8000, .inl (fun j => nI (g j)))), (q2, .inl (cI, 40, .inl (fun j => nI (z j))))]) [0, 1, 2] rfl
  have hKc := hK.sub (tys' := [(cI, .int)]) [0] rfl
  refine vp_callSi (W.runV (As := [.int (nI a)]) (rest := [.int (nI a), .ref h0]) ⟨hx, hb, hml, hown, hts⟩ (c_X0_sizeOf l dC dI cI h0 q1 q2 n g z a hn ha) (cwV 1 hts gX0_isMinus_X0_sizeOf rfl rfl rfl (by decide +kernel) ⟨Nat.le_of_ble_eq_true rfl, Nat.le_of_ble_eq_true rfl⟩) ⟨fun a U g mk q => by obtain ⟨q0, qP, qK⟩ := q; exact ⟨q0, qP, va_K.moved (u := U) (U := U.calling g mk a) (Vm.Alike.refl U.vm) qK⟩, va_recv hK hP (ci := 0) (q0 := 0) rfl rfl, fun U hU hW => ⟨rfl, by rw [hU]; exact hPc, va_K.moved hW.alike hKc⟩⟩ rfl rfl hl.1 rfl (lv_room (Nat.le_of_ble_eq_true rfl)) dX0_isMinus_4 ⟨Nat.le_of_ble_eq_true rfl, Nat.le_of_ble_eq_true rfl⟩) (fun r4 h4 => ?_)
  obtain rfl : r4 = nI (z a) := h4
  refine lv_iconst (v := 1) hx hb dX0_isMinus_7 (by decide) ?_
  refine lv_isub hx hb dX0_isMinus_8 ?_
  refine lv_topi (fun x8 e8 => ?_)
  obtain rfl : x8 = nI (z a - 1) := e8.trans (nI_m1 (by omega))
  have hPc := hP.sub (ws' := [(h0, .inr (0, [.ref q1, .ref q2, .int (nI n)])), (q1, .inl (cI, 8000, .inl (fun j => nI (g j)))), (q2, .inl (cI, 40, .inl (fun j => nI (z j))))]) [0, 1, 2] rfl
  have hKc := hK.sub (tys' := [(cI, .int)]) [0] rfl
  refine vp_callSi (W.runV (As := [.int (nI a), .int (nI (z a - 1))]) (rest := []) ⟨hx, hb, hml, hown, hts⟩ (c_X0_lowByte l dC dI cI h0 q1 q2 n g z a (z a - 1) hn hz ha (by omega)) (cwV 2 hts gX0_isMinus_X0_lowByte rfl rfl rfl (by decide +kernel) ⟨Nat.le_of_ble_eq_true rfl, Nat.le_of_ble_eq_true rfl⟩) ⟨fun a U g mk q => by obtain ⟨q0, qP, qK⟩ := q; exact ⟨q0, qP, va_K.moved (u := U) (U := U.calling g mk a) (Vm.Alike.refl U.vm) qK⟩, va_recv hK hP (ci := 0) (q0 := 0) rfl rfl, fun U hU hW => ⟨rfl, by rw [hU]; exact hPc, va_K.moved hW.alike hKc⟩⟩ rfl rfl hl.1 rfl (lv_room (Nat.le_of_ble_eq_true rfl)) dX0_isMinus_9 ⟨Nat.le_of_ble_eq_true rfl, Nat.le_of_ble_eq_true rfl⟩) (fun r9 h9 => ?_)
  obtain rfl : r9 = nI (g (a * 200 + (z a - 1))) := h9
  refine lv_sipush (v := (nI 128)) hx hb dX0_isMinus_12 (by decide) ?_
  refine lv_icmp_lt (tgt := 22) hx hb dX0_isMinus_15 (by decide) (fun c15 => ?_) (fun c15 => ?_)
  · refine lv_iconst (v := 0) hx hb dX0_isMinus_22 (by decide) ?_
    exact W.zret (v := 0) hx hb hr rfl (fun tS htS hW => ⟨0, rfl, (by first | exact Or.inl ⟨rfl, fb_ge (hg _) c15⟩ | exact Or.inr ⟨rfl, by have := fb_lt (hg _) c15; omega⟩), htS⟩) t_nil dX0_isMinus_23
  · refine lv_iconst (v := 1) hx hb dX0_isMinus_18 (by decide) ?_
    refine lv_goto (tgt := 23) hx hb dX0_isMinus_19 (by decide) ?_
    exact W.zret (v := 1) hx hb hr rfl (fun tS htS hW => ⟨1, rfl, (by first | exact Or.inl ⟨rfl, fb_ge (hg _) c15⟩ | exact Or.inr ⟨rfl, by have := fb_lt (hg _) c15; omega⟩), htS⟩) t_nil dX0_isMinus_23

set_option maxHeartbeats 4000000 in
set_option maxRecDepth 100000 in
theorem c_X0_highByte (l : Launch) (dC : Nat → ClassId) (dI : Nat → Nat → Nat) (cI : ClassId) (h0 q1 q2 n : Nat) (g z : Nat → Nat) (a i : Nat) (hn : n ≤ 40) (hz : ∀ a, a < n → 1 ≤ z a ∧ z a ≤ 200) (ha : a < n) (hi : i < z a) : Met l yX0_highByte wsX0_highByte ({ frames := 2, cells := 0, slots := 0, locals := 43 } : Room) (va_Pc [.ref h0, .int (nI a), .int (nI i)] (fun U => va_P (dC, dI) vwCl [(h0, .inr (0, [.ref q1, .ref q2, .int (nI n)])), (q1, .inl (cI, 8000, .inl (fun j => nI (g j)))), (q2, .inl (cI, 40, .inl (fun j => nI (z j))))] U.heap ∧ va_K (dC, dI) vwCl [(cI, .int)] U)) (vp_Si (fun r : Int32 => r = nI (g (a * 200 + (z a - 1 - i))))) 0 0 (fun _ => False) := by
  refine Met.ofW (cc := cX0_highByte) (maxL := 3) (ret := (some .int)) (by decide) rfl ?_
  intro p e s m args below meth c s₁ B hml hv
  obtain ⟨rfl, hP, hK⟩ := hv
  have hx := B.exec
  have hb := B.bytes
  have hr := B.returns
  have hts := atoms_spec (ws := wsX0_highByte) B.pre
  have hown : s.vm.findClass RX0 = some m.cls := findClass_of_methodNamed B.named
  have hlocks := B.notSynchronized
  have hl := lv_entry ([.ref h0, .int (nI a), .int (nI i)]) (n := 3) (Nat.le_of_ble_eq_true rfl)
  rw [lg_entry_eq]
  generalize (lg_sl ([.ref h0, .int (nI a), .int (nI i)]) ++ List.replicate (3 - (lg_sl ([.ref h0, .int (nI a), .int (nI i)])).length) Slot.unset).toArray = ls at hl ⊢
  have hl : lv_has ls 3 [(0, .ref h0), (1, .int (nI a)), (2, .int (nI i))] := hl
  have hza := hz a ha
  refine lv_aload_n hx hb dX0_highByte_0 rfl (lv_at hl 0 rfl) ?_
  refine lv_iload_n hx hb dX0_highByte_1 rfl (lv_at hl 1 rfl) ?_
  refine lv_aload_n hx hb dX0_highByte_2 rfl (lv_at hl 0 rfl) ?_
  refine lv_iload_n hx hb dX0_highByte_3 rfl (lv_at hl 1 rfl) ?_
  have hPc := hP.sub (ws' := [(h0, .inr (0, [.ref q1, .ref q2, .int (nI n)])), (q1, .inl (cI, 8000, .inl (fun j => nI (g j)))), (q2, .inl (cI, 40, .inl (fun j => nI (z j))))]) [0, 1, 2] rfl
  have hKc := hK.sub (tys' := [(cI, .int)]) [0] rfl
  refine vp_callSi (W.runV (As := [.int (nI a)]) (rest := [.int (nI a), .ref h0]) ⟨hx, hb, hml, hown, hts⟩ (c_X0_sizeOf l dC dI cI h0 q1 q2 n g z a hn ha) (cwV 1 hts gX0_highByte_X0_sizeOf rfl rfl rfl (by decide +kernel) ⟨Nat.le_of_ble_eq_true rfl, Nat.le_of_ble_eq_true rfl⟩) ⟨fun a U g mk q => by obtain ⟨q0, qP, qK⟩ := q; exact ⟨q0, qP, va_K.moved (u := U) (U := U.calling g mk a) (Vm.Alike.refl U.vm) qK⟩, va_recv hK hP (ci := 0) (q0 := 0) rfl rfl, fun U hU hW => ⟨rfl, by rw [hU]; exact hPc, va_K.moved hW.alike hKc⟩⟩ rfl rfl hl.1 rfl (lv_room (Nat.le_of_ble_eq_true rfl)) dX0_highByte_4 ⟨Nat.le_of_ble_eq_true rfl, Nat.le_of_ble_eq_true rfl⟩) (fun r4 h4 => ?_)
  obtain rfl : r4 = nI (z a) := h4
  refine lv_iconst (v := 1) hx hb dX0_highByte_7 (by decide) ?_
  refine lv_isub hx hb dX0_highByte_8 ?_
  refine lv_topi (fun x8 e8 => ?_)
  obtain rfl : x8 = nI (z a - 1) := e8.trans (nI_m1 (by omega))
  refine lv_iload_n hx hb dX0_highByte_9 rfl (lv_at hl 2 rfl) ?_
  refine lv_isub hx hb dX0_highByte_10 ?_
  refine lv_topi (fun x10 e10 => ?_)
  obtain rfl : x10 = nI (z a - 1 - i) := e10.trans (pk_sub (by omega))
  have hPc := hP.sub (ws' := [(h0, .inr (0, [.ref q1, .ref q2, .int (nI n)])), (q1, .inl (cI, 8000, .inl (fun j => nI (g j)))), (q2, .inl (cI, 40, .inl (fun j => nI (z j))))]) [0, 1, 2] rfl
  have hKc := hK.sub (tys' := [(cI, .int)]) [0] rfl
  refine vp_callSi (W.runV (As := [.int (nI a), .int (nI (z a - 1 - i))]) (rest := []) ⟨hx, hb, hml, hown, hts⟩ (c_X0_lowByte l dC dI cI h0 q1 q2 n g z a (z a - 1 - i) hn hz ha (by omega)) (cwV 2 hts gX0_highByte_X0_lowByte rfl rfl rfl (by decide +kernel) ⟨Nat.le_of_ble_eq_true rfl, Nat.le_of_ble_eq_true rfl⟩) ⟨fun a U g mk q => by obtain ⟨q0, qP, qK⟩ := q; exact ⟨q0, qP, va_K.moved (u := U) (U := U.calling g mk a) (Vm.Alike.refl U.vm) qK⟩, va_recv hK hP (ci := 0) (q0 := 0) rfl rfl, fun U hU hW => ⟨rfl, by rw [hU]; exact hPc, va_K.moved hW.alike hKc⟩⟩ rfl rfl hl.1 rfl (lv_room (Nat.le_of_ble_eq_true rfl)) dX0_highByte_11 ⟨Nat.le_of_ble_eq_true rfl, Nat.le_of_ble_eq_true rfl⟩) (fun r11 h11 => ?_)
  obtain rfl : r11 = nI (g (a * 200 + (z a - 1 - i))) := h11
  exact W.iret (v := (nI (g (a * 200 + (z a - 1 - i))))) hx hb hr (fun tS htS hW => ⟨(nI (g (a * 200 + (z a - 1 - i)))), rfl, rfl, htS⟩) t_nil dX0_highByte_14

set_option maxHeartbeats 4000000 in
set_option maxRecDepth 100000 in
theorem c_X0_add (l : Launch) (dC : Nat → ClassId) (dI : Nat → Nat → Nat) (cI : ClassId) (h0 q1 q2 n : Nat) (g z : Nat → Nat) (hw qw k : Nat) (w : Nat → Nat) (sz : Nat) (hn : n < 40) (hk : 1 ≤ k ∧ k ≤ 200) : Met l yX0_add wsX0_add ({ frames := 2, cells := 0, slots := 0, locals := 42 } : Room) (va_Pc [.ref h0, .ref hw, .int (nI k)] (fun U => U.heap.size = sz ∧ va_P (dC, dI) vwCl [(h0, .inr (0, [.ref q1, .ref q2, .int (nI n)])), (q1, .inl (cI, 8000, .inl (fun j => nI (g j)))), (q2, .inl (cI, 40, .inl (fun j => nI (z j)))), (hw, .inr (2, [.ref qw])), (qw, .inl (cI, 204, .inl (fun j => nI (w j))))] U.heap ∧ va_K (dC, dI) vwCl [(cI, .int)] U ∧ va_D (fun _ => True) [(h0, .inr (0, [.ref q1, .ref q2, .int (nI n)])), (q1, .inl (cI, 8000, .inl (fun j => nI (g j)))), (q2, .inl (cI, 40, .inl (fun j => nI (z j)))), (hw, .inr (2, [.ref qw])), (qw, .inl (cI, 204, .inl (fun j => nI (w j))))])) (va_Qi (fun (r : Int32) (g3 : Nat → Nat) => r = nI n ∧ (∀ j, j < k → g3 (n * 200 + j) = w j) ∧ (∀ y, y < n * 200 ∨ n * 200 + k ≤ y → g3 y = g y)) (fun (g3 : Nat → Nat) (tS : State) => va_P (dC, dI) vwCl [(h0, .inr (0, [.ref q1, .ref q2, .int (nI (n + 1))])), (q1, .inl (cI, 8000, .inl (fun j => nI (g3 j)))), (q2, .inl (cI, 40, .inl (fun j => nI (va_up z n k j)))), (hw, .inr (2, [.ref qw])), (qw, .inl (cI, 204, .inl (fun j => nI (w j))))] tS.heap ∧ va_K (dC, dI) vwCl [(cI, .int)] tS ∧ va_D (va_A [(h0, .inr (0, [.ref q1, .ref q2, .int (nI n)])), (q1, .inl (cI, 8000, .inl (fun j => nI (g j)))), (q2, .inl (cI, 40, .inl (fun j => nI (z j)))), (hw, .inr (2, [.ref qw])), (qw, .inl (cI, 204, .inl (fun j => nI (w j))))] sz) [(h0, .inr (0, [.ref q1, .ref q2, .int (nI (n + 1))])), (q1, .inl (cI, 8000, .inl (fun j => nI (g3 j)))), (q2, .inl (cI, 40, .inl (fun j => nI (va_up z n k j)))), (hw, .inr (2, [.ref qw])), (qw, .inl (cI, 204, .inl (fun j => nI (w j))))]) (va_A [(h0, .inr (0, [.ref q1, .ref q2, .int (nI n)])), (q1, .inl (cI, 8000, .inl (fun j => nI (g j)))), (q2, .inl (cI, 40, .inl (fun j => nI (z j)))), (hw, .inr (2, [.ref qw])), (qw, .inl (cI, 204, .inl (fun j => nI (w j))))] sz)) 0 0 (va_A [(h0, .inr (0, [.ref q1, .ref q2, .int (nI n)])), (q1, .inl (cI, 8000, .inl (fun j => nI (g j)))), (q2, .inl (cI, 40, .inl (fun j => nI (z j)))), (hw, .inr (2, [.ref qw])), (qw, .inl (cI, 204, .inl (fun j => nI (w j))))] sz) := by
  refine Met.ofW (cc := cX0_add) (maxL := 5) (ret := (some .int)) (by decide) rfl ?_
  intro p e s m args below meth c s₁ B hml hv
  obtain ⟨rfl, hsz, hP, hK, hD0⟩ := hv
  have hx := B.exec
  have hb := B.bytes
  have hr := B.returns
  have hts := atoms_spec (ws := wsX0_add) B.pre
  have hown : s.vm.findClass RX0 = some m.cls := findClass_of_methodNamed B.named
  have hlocks := B.notSynchronized
  subst hsz
  have hD := hD0.self (sz := s.heap.size)
  generalize hAe : va_A [(h0, .inr (0, [.ref q1, .ref q2, .int (nI n)])), (q1, .inl (cI, 8000, .inl (fun j => nI (g j)))), (q2, .inl (cI, 40, .inl (fun j => nI (z j)))), (hw, .inr (2, [.ref qw])), (qw, .inl (cI, 204, .inl (fun j => nI (w j))))] s.heap.size = A at hD ⊢
  have hA : ∀ q : Nat, s.heap.size ≤ q → A q := fun q h => by rw [← hAe]; exact Or.inr h
  have hS : va_S A s.heap s.heap [] := va_S.rf
  have hinX0 : ∀ w ∈ wsX00, w ∈ wsX0_add := by decide +kernel
  have hl := lv_entry ([.ref h0, .ref hw, .int (nI k)]) (n := 5) (Nat.le_of_ble_eq_true rfl)
  rw [lg_entry_eq]
  generalize (lg_sl ([.ref h0, .ref hw, .int (nI k)]) ++ List.replicate (5 - (lg_sl ([.ref h0, .ref hw, .int (nI k)])).length) Slot.unset).toArray = ls at hl ⊢
  have hl : lv_has ls 5 [(0, .ref h0), (1, .ref hw), (2, .int (nI k))] := hl
  refine lv_aload_n hx hb dX0_add_0 rfl (lv_at hl 0 rfl) ?_
  refine va_get (D := (dC, dI)) (ci := 0) (v := .int (nI n)) (C := RX0) (T := TX0) (N := 3) hx hb hts hinX0 hown hK hP 0 rfl rfl 2 (by decide) (hts (.fieldLink RX0 18 "NumberContents$Numbers" "used" "I") (by decide +kernel)) (fun _ h9 => h9) rfl dX0_add_1 ?_
  refine lv_istore_n (lv' := [(3, .int (nI n)), (0, .ref h0), (1, .ref hw), (2, .int (nI k))]) hx hb dX0_add_4 rfl hl (by decide) rfl (fun ls hl => ?_)
  refine lv_aload_n hx hb dX0_add_5 rfl (lv_at hl 2 rfl) ?_
  refine lv_ifnull hx hb dX0_add_6 ?_
  refine lv_aload_n hx hb dX0_add_9 rfl (lv_at hl 1 rfl) ?_
  have hPc := hP.sub (ws' := [(h0, .inr (0, [.ref q1, .ref q2, .int (nI n)])), (q1, .inl (cI, 8000, .inl (fun j => nI (g j)))), (q2, .inl (cI, 40, .inl (fun j => nI (z j))))]) [0, 1, 2] rfl
  have hKc := hK.sub (tys' := [(cI, .int)]) [0] rfl
  refine vp_callSi (W.runV (As := []) (rest := []) ⟨hx, hb, hml, hown, hts⟩ (c_X0_hasRoom l dC dI cI h0 q1 q2 n g z (by omega)) (cwV 0 hts gX0_add_X0_hasRoom rfl rfl rfl (by decide +kernel) ⟨Nat.le_of_ble_eq_true rfl, Nat.le_of_ble_eq_true rfl⟩) ⟨fun a U g mk q => by obtain ⟨q0, qP, qK⟩ := q; exact ⟨q0, qP, va_K.moved (u := U) (U := U.calling g mk a) (Vm.Alike.refl U.vm) qK⟩, va_recv hK hP (ci := 0) (q0 := 0) rfl rfl, fun U hU hW => ⟨rfl, by rw [hU]; exact hPc, va_K.moved hW.alike hKc⟩⟩ rfl rfl hl.1 rfl (lv_room (Nat.le_of_ble_eq_true rfl)) dX0_add_10 ⟨Nat.le_of_ble_eq_true rfl, Nat.le_of_ble_eq_true rfl⟩) (fun r10 h10 => ?_)
  refine lv_if_eq (tgt := 28) hx hb dX0_add_13 (by decide) (fun c13 => ?_) (fun c13 => ?_)
  · exact absurd c13 (fun y => ite_r h10 y hn)
  · refine lv_iload_n hx hb dX0_add_16 rfl (lv_at hl 3 rfl) ?_
    refine lv_iconst (v := 1) hx hb dX0_add_17 (by decide) ?_
    refine lv_icmp_lt (tgt := 28) hx hb dX0_add_18 (by decide) (fun c18 => ?_) (fun c18 => ?_)
    · exact absurd c18 (nI_lt1 (by omega) (by omega))
    · refine lv_iload_n hx hb dX0_add_21 rfl (lv_at hl 3 rfl) ?_
      refine lv_sipush (v := (nI 200)) hx hb dX0_add_22 (by decide) ?_
      refine lv_icmp_le (tgt := 30) hx hb dX0_add_25 (by decide) (fun c25 => ?_) (fun c25 => ?_)
      · refine lv_iconst (v := (nI 0)) hx hb dX0_add_30 (by decide) ?_
        refine lv_istore (lv' := [(4, .int (nI 0)), (3, .int (nI n)), (0, .ref h0), (1, .ref hw), (2, .int (nI k))]) hx hb dX0_add_31 hl (by decide) rfl (fun ls hl => ?_)
        have LP33 : ∀ (n9 : Nat) (i : Nat) (g2 : Nat → Nat) (hm : (k - i) < n9) (hi : i ≤ k) (hA2 : ∀ j, j < i → g2 (n * 200 + j) = w j) (hB2 : ∀ y, y < n * 200 ∨ n * 200 + i ≤ y → g2 y = g y) (H : Heap) (locs : List Loc) (ls : Array Slot) (hP : va_P (dC, dI) vwCl [(h0, .inr (0, [.ref q1, .ref q2, .int (nI n)])), (q1, .inl (cI, 8000, .inl (fun j => nI (g2 j)))), (q2, .inl (cI, 40, .inl (fun j => nI (z j)))), (hw, .inr (2, [.ref qw])), (qw, .inl (cI, 204, .inl (fun j => nI (w j))))] H) (hD : va_D A [(h0, .inr (0, [.ref q1, .ref q2, .int (nI n)])), (q1, .inl (cI, 8000, .inl (fun j => nI (g2 j)))), (q2, .inl (cI, 40, .inl (fun j => nI (z j)))), (hw, .inr (2, [.ref qw])), (qw, .inl (cI, 204, .inl (fun j => nI (w j))))]) (hS : va_S A s.heap H locs) (hl : lv_has ls 5 [(0, .ref h0), (1, .ref hw), (2, .int (nI k)), (3, .int (nI n)), (4, .int (nI i))]), W p l e (headSpec wsX0_add ({ frames := 2, cells := 0, slots := 0, locals := 42 } : Room)).room s m ([.ref h0, .ref hw, .int (nI k)]).toArray below meth c H locs 0 0 (MQ below (va_Qi (fun (r : Int32) (g3 : Nat → Nat) => r = nI n ∧ (∀ j, j < k → g3 (n * 200 + j) = w j) ∧ (∀ y, y < n * 200 ∨ n * 200 + k ≤ y → g3 y = g y)) (fun (g3 : Nat → Nat) (tS : State) => va_P (dC, dI) vwCl [(h0, .inr (0, [.ref q1, .ref q2, .int (nI (n + 1))])), (q1, .inl (cI, 8000, .inl (fun j => nI (g3 j)))), (q2, .inl (cI, 40, .inl (fun j => nI (va_up z n k j)))), (hw, .inr (2, [.ref qw])), (qw, .inl (cI, 204, .inl (fun j => nI (w j))))] tS.heap ∧ va_K (dC, dI) vwCl [(cI, .int)] tS ∧ va_D A [(h0, .inr (0, [.ref q1, .ref q2, .int (nI (n + 1))])), (q1, .inl (cI, 8000, .inl (fun j => nI (g3 j)))), (q2, .inl (cI, 40, .inl (fun j => nI (va_up z n k j)))), (hw, .inr (2, [.ref qw])), (qw, .inl (cI, 204, .inl (fun j => nI (w j))))]) A) ([.ref h0, .ref hw, .int (nI k)]).toArray s 0 0 A) (F0 m 33 ls []) := by
          intro n9
          induction n9 with
          | zero => intro i g2 hm; exact absurd hm (Nat.not_lt_zero _)
          | succ n9 ih =>
            intro i g2 hm hi hA2 hB2 H locs ls hP hD hS hl
            have ih33 := ih
            refine lv_iload hx hb dX0_add_33 (lv_at hl 4 rfl) ?_
            refine lv_iload_n hx hb dX0_add_35 rfl (lv_at hl 2 rfl) ?_
            refine lv_icmp_ge (tgt := 64) hx hb dX0_add_36 (by decide) (fun c36 => ?_) (fun c36 => ?_)
            · refine lv_aload_n hx hb dX0_add_64 rfl (lv_at hl 0 rfl) ?_
              refine va_get (D := (dC, dI)) (ci := 0) (v := .ref q2) (C := RX0) (T := TX0) (N := 3) hx hb hts hinX0 hown hK hP 0 rfl rfl 1 (by decide) (hts (.fieldLink RX0 15 "NumberContents$Numbers" "sizes" "[I") (by decide +kernel)) (fun _ h9 => h9) rfl dX0_add_65 ?_
              refine lv_iload_n hx hb dX0_add_68 rfl (lv_at hl 3 rfl) ?_
              refine lv_iload_n hx hb dX0_add_69 rfl (lv_at hl 2 rfl) ?_
              refine va_iast hx hb hK hP hD hS 2 0 rfl rfl (vp_in_nI (by omega) (by omega)) dX0_add_70 (fun H locs hP hD hS => ?_)
              have hP : va_P (dC, dI) vwCl [(h0, .inr (0, [.ref q1, .ref q2, .int (nI n)])), (q1, .inl (cI, 8000, .inl (fun j => nI (g2 j)))), (q2, .inl (cI, 40, .inl (upd (fun j => nI (z j)) (nI n).toNatClampNeg (nI k)))), (hw, .inr (2, [.ref qw])), (qw, .inl (cI, 204, .inl (fun j => nI (w j))))] H := hP
              have hD : va_D A [(h0, .inr (0, [.ref q1, .ref q2, .int (nI n)])), (q1, .inl (cI, 8000, .inl (fun j => nI (g2 j)))), (q2, .inl (cI, 40, .inl (upd (fun j => nI (z j)) (nI n).toNatClampNeg (nI k)))), (hw, .inr (2, [.ref qw])), (qw, .inl (cI, 204, .inl (fun j => nI (w j))))] := hD
              obtain ⟨f70, e70⟩ : ∃ zz9 : Nat → Int32, zz9 = upd (fun j => nI (z j)) (nI n).toNatClampNeg (nI k) := ⟨_, rfl⟩
              rw [← e70] at hP hD
              obtain rfl : f70 = fun j => nI (va_up z n k j) := e70.trans (upg (by omega))
              refine lv_aload_n hx hb dX0_add_71 rfl (lv_at hl 0 rfl) ?_
              refine lv_dup hx hb dX0_add_72 rfl ?_
              refine va_get (D := (dC, dI)) (ci := 0) (v := .int (nI n)) (C := RX0) (T := TX0) (N := 3) hx hb hts hinX0 hown hK hP 0 rfl rfl 2 (by decide) (hts (.fieldLink RX0 18 "NumberContents$Numbers" "used" "I") (by decide +kernel)) (fun _ h9 => h9) rfl dX0_add_73 ?_
              refine lv_iconst (v := 1) hx hb dX0_add_76 (by decide) ?_
              refine lv_iadd hx hb dX0_add_77 ?_
              refine lv_topi (fun x77 e77 => ?_)
              obtain rfl : x77 = nI (n + 1) := e77.trans (nI_1 n)
              refine va_put (D := (dC, dI)) (ci := 0) (v := .int (nI (n + 1))) (ty := .int) (C := RX0) (T := TX0) (N := 3) hx hb hts hinX0 tyX0 tyX0_ok nmX0 hown hK hP hD hS 0 rfl rfl 2 (by decide) (hts (.fieldLink RX0 18 "NumberContents$Numbers" "used" "I") (by decide +kernel)) (fun _ h9 => h9) rfl (by decide +kernel) rfl rfl (Nat.le_of_ble_eq_true rfl) dX0_add_78 (fun H locs hP hD hS => ?_)
              have hP : va_P (dC, dI) vwCl [(h0, .inr (0, [.ref q1, .ref q2, .int (nI (n + 1))])), (q1, .inl (cI, 8000, .inl (fun j => nI (g2 j)))), (q2, .inl (cI, 40, .inl (fun j => nI (va_up z n k j)))), (hw, .inr (2, [.ref qw])), (qw, .inl (cI, 204, .inl (fun j => nI (w j))))] H := hP
              have hD : va_D A [(h0, .inr (0, [.ref q1, .ref q2, .int (nI (n + 1))])), (q1, .inl (cI, 8000, .inl (fun j => nI (g2 j)))), (q2, .inl (cI, 40, .inl (fun j => nI (va_up z n k j)))), (hw, .inr (2, [.ref qw])), (qw, .inl (cI, 204, .inl (fun j => nI (w j))))] := hD
              refine lv_iload_n hx hb dX0_add_81 rfl (lv_at hl 3 rfl) ?_
              have hP9 := hP.sub (ws' := [(h0, .inr (0, [.ref q1, .ref q2, .int (nI (n + 1))])), (q1, .inl (cI, 8000, .inl (fun j => nI (g2 j)))), (q2, .inl (cI, 40, .inl (fun j => nI (va_up z n k j)))), (hw, .inr (2, [.ref qw])), (qw, .inl (cI, 204, .inl (fun j => nI (w j))))]) [0, 1, 2, 3, 4] rfl
              have hD9 := hD.sub (ws' := [(h0, .inr (0, [.ref q1, .ref q2, .int (nI (n + 1))])), (q1, .inl (cI, 8000, .inl (fun j => nI (g2 j)))), (q2, .inl (cI, 40, .inl (fun j => nI (va_up z n k j)))), (hw, .inr (2, [.ref qw])), (qw, .inl (cI, 204, .inl (fun j => nI (w j))))]) [0, 1, 2, 3, 4] (by decide) rfl
              have hK9 := hK.sub (tys' := [(cI, .int)]) [0] rfl
              exact W.iret (v := (nI n)) hx hb hr (fun tS htS hW => ⟨⟨(nI n), g2, rfl, (by have he : i = k := Nat.le_antisymm hi ((nI_leI (by omega) (by omega)).mp c36); subst he; exact ⟨rfl, hA2, hB2⟩), by rw [htS]; exact hP9, va_K.moved hW.alike hK9, hD9⟩, hS.F htS⟩) hS.2.2 dX0_add_82
            · have hlt : i < k := Nat.lt_of_not_le (fun h => c36 (nI_le h (by omega)))
              refine lv_aload_n hx hb dX0_add_39 rfl (lv_at hl 0 rfl) ?_
              refine va_get (D := (dC, dI)) (ci := 0) (v := .ref q1) (C := RX0) (T := TX0) (N := 3) hx hb hts hinX0 hown hK hP 0 rfl rfl 0 (by decide) (hts (.fieldLink RX0 9 "NumberContents$Numbers" "items" "[I") (by decide +kernel)) (fun _ h9 => h9) rfl dX0_add_40 ?_
              refine lv_iload_n hx hb dX0_add_43 rfl (lv_at hl 3 rfl) ?_
              refine lv_sipush (v := (nI 200)) hx hb dX0_add_44 (by decide) ?_
              refine lv_imul hx hb dX0_add_47 ?_
              refine lv_topi (fun x47 e47 => ?_)
              obtain rfl : x47 = nI (n * 200) := e47.trans (pk_mul n 200)
              refine lv_iload hx hb dX0_add_48 (lv_at hl 4 rfl) ?_
              refine lv_iadd hx hb dX0_add_50 ?_
              refine lv_topi (fun x50 e50 => ?_)
              obtain rfl : x50 = nI (n * 200 + i) := e50.trans (nI_add _ _)
              refine lv_aload_n hx hb dX0_add_51 rfl (lv_at hl 1 rfl) ?_
              refine lv_iload hx hb dX0_add_52 (lv_at hl 4 rfl) ?_
              have hPc := hP.sub (ws' := [(hw, .inr (2, [.ref qw])), (qw, .inl (cI, 204, .inl (fun j => nI (w j))))]) [3, 4] rfl
              have hKc := hK.sub (tys' := [(cI, .int)]) [0] rfl
              refine vp_callSi (W.runV (As := [.int (nI i)]) (rest := [.int (nI (n * 200 + i)), .ref q1]) ⟨hx, hb, hml, hown, hts⟩ (c_X2_byteOf l dC dI cI hw qw w (nI i) ) (cwV 1 hts gX0_add_X2_byteOf rfl rfl rfl (by decide +kernel) ⟨Nat.le_of_ble_eq_true rfl, Nat.le_of_ble_eq_true rfl⟩) ⟨fun a U g mk q => by obtain ⟨q0, qP, qK⟩ := q; exact ⟨q0, qP, va_K.moved (u := U) (U := U.calling g mk a) (Vm.Alike.refl U.vm) qK⟩, va_recv hK hP (ci := 2) (q0 := 3) rfl rfl, fun U hU hW => ⟨rfl, by rw [hU]; exact hPc, va_K.moved hW.alike hKc⟩⟩ rfl rfl hl.1 rfl (lv_room (Nat.le_of_ble_eq_true rfl)) dX0_add_54 ⟨Nat.le_of_ble_eq_true rfl, Nat.le_of_ble_eq_true rfl⟩) (fun r54 h54 => ?_)
              obtain rfl : r54 = nI (w i) := bo_at (by omega) h54
              refine va_iast hx hb hK hP hD hS 1 0 rfl rfl (vp_in_nI (by omega) (by omega)) dX0_add_57 (fun H locs hP hD hS => ?_)
              have hP : va_P (dC, dI) vwCl [(h0, .inr (0, [.ref q1, .ref q2, .int (nI n)])), (q1, .inl (cI, 8000, .inl (upd (fun j => nI (g2 j)) (nI (n * 200 + i)).toNatClampNeg (nI (w i))))), (q2, .inl (cI, 40, .inl (fun j => nI (z j)))), (hw, .inr (2, [.ref qw])), (qw, .inl (cI, 204, .inl (fun j => nI (w j))))] H := hP
              have hD : va_D A [(h0, .inr (0, [.ref q1, .ref q2, .int (nI n)])), (q1, .inl (cI, 8000, .inl (upd (fun j => nI (g2 j)) (nI (n * 200 + i)).toNatClampNeg (nI (w i))))), (q2, .inl (cI, 40, .inl (fun j => nI (z j)))), (hw, .inr (2, [.ref qw])), (qw, .inl (cI, 204, .inl (fun j => nI (w j))))] := hD
              obtain ⟨f57, e57⟩ : ∃ zz9 : Nat → Int32, zz9 = upd (fun j => nI (g2 j)) (nI (n * 200 + i)).toNatClampNeg (nI (w i)) := ⟨_, rfl⟩
              rw [← e57] at hP hD
              obtain rfl : f57 = fun j => nI (va_up g2 (n * 200 + i) (w i) j) := e57.trans (upg (by omega))
              obtain ⟨x58, e58⟩ : ∃ zz9 : Int32, zz9 = (nI i) + 1 := ⟨_, rfl⟩
              refine lv_iinc (v := x58) (lv' := [(4, .int x58), (0, .ref h0), (1, .ref hw), (2, .int (nI k)), (3, .int (nI n))]) hx hb dX0_add_58 hl (k := 4) rfl (by rw [e58]; rfl) (by decide) rfl (fun ls hl => ?_)
              obtain rfl : x58 = nI (i + 1) := e58.trans (nI_1 i)
              refine lv_goto (tgt := 33) hx hb dX0_add_61 (by decide) ?_
              exact ih33 (i + 1) (va_up g2 (n * 200 + i) (w i)) (by omega) (by omega) (fun j h => by by_cases e : j = i; rw [e, va_up_self]; rw [va_up_ne _ _ (by omega)]; exact hA2 j (by omega)) (fun y h => by rw [va_up_ne _ _ (by omega)]; exact hB2 y (by omega)) _ _ _ (hP.sub [0, 1, 2, 3, 4] rfl) (hD.sub [0, 1, 2, 3, 4] (by decide) rfl) hS (lv_sub hl [1, 2, 3, 4, 0] rfl)
        exact LP33 _ 0 g (Nat.lt_succ_self _) (by omega) (fun j h => absurd h (by omega)) (fun y h => rfl) _ _ _ (hP.sub [0, 1, 2, 3, 4] rfl) (hD.sub [0, 1, 2, 3, 4] (by decide) rfl) hS (lv_sub hl [2, 3, 4, 1, 0] rfl)
      · exact absurd (nI_le (by omega) (by omega)) c25

set_option maxHeartbeats 4000000 in
set_option maxRecDepth 100000 in
theorem c_X0_empty (l : Launch) (dC : Nat → ClassId) (dI : Nat → Nat → Nat) (cI : ClassId) (h0 q1 q2 n : Nat) (g z : Nat → Nat) (sz : Nat)  : Met l yX0_empty wsX0_empty ({ frames := 0, cells := 0, slots := 0, locals := 0 } : Room) (va_Pc [.ref h0] (fun U => U.heap.size = sz ∧ va_P (dC, dI) vwCl [(h0, .inr (0, [.ref q1, .ref q2, .int (nI n)])), (q1, .inl (cI, 8000, .inl (fun j => nI (g j)))), (q2, .inl (cI, 40, .inl (fun j => nI (z j))))] U.heap ∧ va_K (dC, dI) vwCl [(cI, .int)] U ∧ va_D (fun _ => True) [(h0, .inr (0, [.ref q1, .ref q2, .int (nI n)])), (q1, .inl (cI, 8000, .inl (fun j => nI (g j)))), (q2, .inl (cI, 40, .inl (fun j => nI (z j))))])) (va_Qv (fun (_ : Unit) => True) (fun (_ : Unit) (tS : State) => va_P (dC, dI) vwCl [(h0, .inr (0, [.ref q1, .ref q2, .int (nI 0)])), (q1, .inl (cI, 8000, .inl (fun j => nI (g j)))), (q2, .inl (cI, 40, .inl (fun j => nI (z j))))] tS.heap ∧ va_K (dC, dI) vwCl [(cI, .int)] tS ∧ va_D (va_A [(h0, .inr (0, [.ref q1, .ref q2, .int (nI n)])), (q1, .inl (cI, 8000, .inl (fun j => nI (g j)))), (q2, .inl (cI, 40, .inl (fun j => nI (z j))))] sz) [(h0, .inr (0, [.ref q1, .ref q2, .int (nI 0)])), (q1, .inl (cI, 8000, .inl (fun j => nI (g j)))), (q2, .inl (cI, 40, .inl (fun j => nI (z j))))]) (va_A [(h0, .inr (0, [.ref q1, .ref q2, .int (nI n)])), (q1, .inl (cI, 8000, .inl (fun j => nI (g j)))), (q2, .inl (cI, 40, .inl (fun j => nI (z j))))] sz)) 0 0 (va_A [(h0, .inr (0, [.ref q1, .ref q2, .int (nI n)])), (q1, .inl (cI, 8000, .inl (fun j => nI (g j)))), (q2, .inl (cI, 40, .inl (fun j => nI (z j))))] sz) := by
  refine Met.ofW (cc := cX0_empty) (maxL := 1) (ret := none) (by decide) rfl ?_
  intro p e s m args below meth c s₁ B hml hv
  obtain ⟨rfl, hsz, hP, hK, hD0⟩ := hv
  have hx := B.exec
  have hb := B.bytes
  have hr := B.returns
  have hts := atoms_spec (ws := wsX0_empty) B.pre
  have hown : s.vm.findClass RX0 = some m.cls := findClass_of_methodNamed B.named
  have hlocks := B.notSynchronized
  subst hsz
  have hD := hD0.self (sz := s.heap.size)
  generalize hAe : va_A [(h0, .inr (0, [.ref q1, .ref q2, .int (nI n)])), (q1, .inl (cI, 8000, .inl (fun j => nI (g j)))), (q2, .inl (cI, 40, .inl (fun j => nI (z j))))] s.heap.size = A at hD ⊢
  have hA : ∀ q : Nat, s.heap.size ≤ q → A q := fun q h => by rw [← hAe]; exact Or.inr h
  have hS : va_S A s.heap s.heap [] := va_S.rf
  have hinX0 : ∀ w ∈ wsX00, w ∈ wsX0_empty := by decide +kernel
  have hl := lv_entry ([.ref h0]) (n := 1) (Nat.le_of_ble_eq_true rfl)
  rw [lg_entry_eq]
  generalize (lg_sl ([.ref h0]) ++ List.replicate (1 - (lg_sl ([.ref h0])).length) Slot.unset).toArray = ls at hl ⊢
  have hl : lv_has ls 1 [(0, .ref h0)] := hl
  refine lv_aload_n hx hb dX0_empty_0 rfl (lv_at hl 0 rfl) ?_
  refine lv_iconst (v := (nI 0)) hx hb dX0_empty_1 (by decide) ?_
  refine va_put (D := (dC, dI)) (ci := 0) (v := .int (nI 0)) (ty := .int) (C := RX0) (T := TX0) (N := 3) hx hb hts hinX0 tyX0 tyX0_ok nmX0 hown hK hP hD hS 0 rfl rfl 2 (by decide) (hts (.fieldLink RX0 18 "NumberContents$Numbers" "used" "I") (by decide +kernel)) (fun _ h9 => h9) rfl (by decide +kernel) rfl rfl (Nat.le_of_ble_eq_true rfl) dX0_empty_2 (fun H locs hP hD hS => ?_)
  have hP : va_P (dC, dI) vwCl [(h0, .inr (0, [.ref q1, .ref q2, .int (nI 0)])), (q1, .inl (cI, 8000, .inl (fun j => nI (g j)))), (q2, .inl (cI, 40, .inl (fun j => nI (z j))))] H := hP
  have hD : va_D A [(h0, .inr (0, [.ref q1, .ref q2, .int (nI 0)])), (q1, .inl (cI, 8000, .inl (fun j => nI (g j)))), (q2, .inl (cI, 40, .inl (fun j => nI (z j))))] := hD
  have hP9 := hP.sub (ws' := [(h0, .inr (0, [.ref q1, .ref q2, .int (nI 0)])), (q1, .inl (cI, 8000, .inl (fun j => nI (g j)))), (q2, .inl (cI, 40, .inl (fun j => nI (z j))))]) [0, 1, 2] rfl
  have hD9 := hD.sub (ws' := [(h0, .inr (0, [.ref q1, .ref q2, .int (nI 0)])), (q1, .inl (cI, 8000, .inl (fun j => nI (g j)))), (q2, .inl (cI, 40, .inl (fun j => nI (z j))))]) [0, 1, 2] (by decide) rfl
  have hK9 := hK.sub (tys' := [(cI, .int)]) [0] rfl
  exact W.vret hx hb hr (fun tS htS hW => ⟨⟨(), rfl, trivial, by rw [htS]; exact hP9, va_K.moved hW.alike hK9, hD9⟩, hS.F htS⟩) hS.2.2 dX0_empty_5

