set_option maxHeartbeats 4000000 in
set_option maxRecDepth 100000 in
theorem c_X2_isIndex (l : Launch) (dC : Nat → ClassId) (dI : Nat → Nat → Nat) (i : Int32)  : Met l yX2_isIndex wsX2_isIndex ({ frames := 0, cells := 0, slots := 0, locals := 0 } : Room) (va_Pc [.int i] (fun _ => True)) (vp_Si (fun r : Int32 => (r = 1 ∧ vp_in i 204) ∨ (r = 0 ∧ ¬ vp_in i 204))) 0 0 (fun _ => False) := by
  refine Met.ofW (cc := cX2_isIndex) (maxL := 1) (ret := (some .boolean)) (by decide) rfl ?_
  intro p e s m args below meth c s₁ B hml hv
  obtain ⟨rfl, -⟩ := hv
  have hx := B.exec
  have hb := B.bytes
  have hr := B.returns
  have hts := atoms_spec (ws := wsX2_isIndex) B.pre
  have hown : s.vm.findClass RX2 = some m.cls := findClass_of_methodNamed B.named
  have hlocks := B.notSynchronized
  have hl := lv_entry ([.int i]) (n := 1) (Nat.le_of_ble_eq_true rfl)
  rw [lg_entry_eq]
  generalize (lg_sl ([.int i]) ++ List.replicate (1 - (lg_sl ([.int i])).length) Slot.unset).toArray = ls at hl ⊢
  have hl : lv_has ls 1 [(0, .int i)] := hl
  refine lv_iload_n hx hb dX2_isIndex_0 rfl (lv_at hl 0 rfl) ?_
  refine lv_if_lt (tgt := 15) hx hb dX2_isIndex_1 (by decide) (fun c1 => ?_) (fun c1 => ?_)
  · refine lv_iconst (v := 0) hx hb dX2_isIndex_15 (by decide) ?_
    exact W.zret (v := 0) hx hb hr rfl (fun tS htS hW => ⟨0, rfl, (by first | exact Or.inl ⟨rfl, vi_lt c1 (by omega) c8⟩ | exact Or.inr ⟨rfl, vi_ge (by omega) c8⟩ | exact Or.inr ⟨rfl, vi_neg c1⟩), htS⟩) t_nil dX2_isIndex_16
  · refine lv_iload_n hx hb dX2_isIndex_4 rfl (lv_at hl 0 rfl) ?_
    refine lv_sipush (v := (nI 204)) hx hb dX2_isIndex_5 (by decide) ?_
    refine lv_icmp_ge (tgt := 15) hx hb dX2_isIndex_8 (by decide) (fun c8 => ?_) (fun c8 => ?_)
    · refine lv_iconst (v := 0) hx hb dX2_isIndex_15 (by decide) ?_
      exact W.zret (v := 0) hx hb hr rfl (fun tS htS hW => ⟨0, rfl, (by first | exact Or.inl ⟨rfl, vi_lt c1 (by omega) c8⟩ | exact Or.inr ⟨rfl, vi_ge (by omega) c8⟩ | exact Or.inr ⟨rfl, vi_neg c1⟩), htS⟩) t_nil dX2_isIndex_16
    · refine lv_iconst (v := 1) hx hb dX2_isIndex_11 (by decide) ?_
      refine lv_goto (tgt := 16) hx hb dX2_isIndex_12 (by decide) ?_
      exact W.zret (v := 1) hx hb hr rfl (fun tS htS hW => ⟨1, rfl, (by first | exact Or.inl ⟨rfl, vi_lt c1 (by omega) c8⟩ | exact Or.inr ⟨rfl, vi_ge (by omega) c8⟩ | exact Or.inr ⟨rfl, vi_neg c1⟩), htS⟩) t_nil dX2_isIndex_16

set_option maxHeartbeats 4000000 in
set_option maxRecDepth 100000 in
theorem c_X2_byteOf (l : Launch) (dC : Nat → ClassId) (dI : Nat → Nat → Nat) (cI : ClassId) (h0 q1 : Nat) (g : Nat → Nat) (i : Int32)  : Met l yX2_byteOf wsX2_byteOf ({ frames := 1, cells := 0, slots := 0, locals := 20 } : Room) (va_Pc [.ref h0, .int i] (fun U => va_P (dC, dI) vwCl [(h0, .inr (2, [.ref q1])), (q1, .inl (cI, 204, .inl (fun j => nI (g j))))] U.heap ∧ va_K (dC, dI) vwCl [(cI, .int)] U)) (vp_Si (fun r : Int32 => (vp_in i 204 ∧ r = nI (g i.toNatClampNeg)) ∨ (¬ vp_in i 204 ∧ r = 0))) 0 0 (fun _ => False) := by
  refine Met.ofW (cc := cX2_byteOf) (maxL := 2) (ret := (some .int)) (by decide) rfl ?_
  intro p e s m args below meth c s₁ B hml hv
  obtain ⟨rfl, hP, hK⟩ := hv
  have hx := B.exec
  have hb := B.bytes
  have hr := B.returns
  have hts := atoms_spec (ws := wsX2_byteOf) B.pre
  have hown : s.vm.findClass RX2 = some m.cls := findClass_of_methodNamed B.named
  have hlocks := B.notSynchronized
  have hinX2 : ∀ w ∈ wsX20, w ∈ wsX2_byteOf := by decide +kernel
  have hl := lv_entry ([.ref h0, .int i]) (n := 2) (Nat.le_of_ble_eq_true rfl)
  rw [lg_entry_eq]
  generalize (lg_sl ([.ref h0, .int i]) ++ List.replicate (2 - (lg_sl ([.ref h0, .int i])).length) Slot.unset).toArray = ls at hl ⊢
  have hl : lv_has ls 2 [(0, .ref h0), (1, .int i)] := hl
  refine lv_iload_n hx hb dX2_byteOf_0 rfl (lv_at hl 1 rfl) ?_
  refine vp_callSi (W.runS (As := [.int i]) (rest := []) ⟨hx, hb, hml, hown, hts⟩ (c_X2_isIndex l dC dI i ) (va_cwS 1 hts gX2_byteOf_X2_isIndex rfl rfl rfl (by decide +kernel) ⟨Nat.le_of_ble_eq_true rfl, Nat.le_of_ble_eq_true rfl⟩) ⟨fun a U g mk q => q, fun U hU hW => ⟨rfl, trivial⟩⟩ rfl rfl hl.1 rfl (lv_room (Nat.le_of_ble_eq_true rfl)) dX2_byteOf_1 ⟨Nat.le_of_ble_eq_true rfl, Nat.le_of_ble_eq_true rfl⟩) (fun r1 h1 => ?_)
  refine lv_if_eq (tgt := 16) hx hb dX2_byteOf_4 (by decide) (fun c4 => ?_) (fun c4 => ?_)
  · refine lv_iconst (v := 0) hx hb dX2_byteOf_16 (by decide) ?_
    exact W.iret (v := 0) hx hb hr (fun tS htS hW => ⟨0, rfl, (by first | exact Or.inl ⟨ite_s h1 c4, e12⟩ | exact Or.inr ⟨ite_r h1 c4, rfl⟩), htS⟩) t_nil dX2_byteOf_17
  · refine lv_aload_n hx hb dX2_byteOf_7 rfl (lv_at hl 0 rfl) ?_
    refine va_get (D := (dC, dI)) (ci := 2) (v := .ref q1) (C := RX2) (T := TX2) (N := 1) hx hb hts hinX2 hown hK hP 0 rfl rfl 0 (by decide) (hts (.fieldLink RX2 9 "NumberContents$Wide" "items" "[I") (by decide +kernel)) (fun _ h9 => h9) rfl dX2_byteOf_8 ?_
    refine lv_iload_n hx hb dX2_byteOf_11 rfl (lv_at hl 1 rfl) ?_
    refine va_iald hx hb hK hP 1 0 rfl rfl (ite_s h1 c4) dX2_byteOf_12 ?_
    refine lv_topi (fun x12 e12 => ?_)
    refine lv_goto (tgt := 17) hx hb dX2_byteOf_13 (by decide) ?_
    exact W.iret (v := x12) hx hb hr (fun tS htS hW => ⟨x12, rfl, (by first | exact Or.inl ⟨ite_s h1 c4, e12⟩ | exact Or.inr ⟨ite_r h1 c4, rfl⟩), htS⟩) t_nil dX2_byteOf_17

set_option maxHeartbeats 4000000 in
set_option maxRecDepth 100000 in
theorem c_X2_setByte (l : Launch) (dC : Nat → ClassId) (dI : Nat → Nat → Nat) (cI : ClassId) (h0 q1 : Nat) (g : Nat → Nat) (k v : Nat) (sz : Nat) (hk : k < 204) : Met l yX2_setByte wsX2_setByte ({ frames := 1, cells := 0, slots := 0, locals := 20 } : Room) (va_Pc [.ref h0, .int (nI k), .int (nI v)] (fun U => U.heap.size = sz ∧ va_P (dC, dI) vwCl [(h0, .inr (2, [.ref q1])), (q1, .inl (cI, 204, .inl (fun j => nI (g j))))] U.heap ∧ va_K (dC, dI) vwCl [(cI, .int)] U ∧ va_D (fun _ => True) [(h0, .inr (2, [.ref q1])), (q1, .inl (cI, 204, .inl (fun j => nI (g j))))])) (va_Qv (fun (_ : Unit) => True) (fun (_ : Unit) (tS : State) => va_P (dC, dI) vwCl [(h0, .inr (2, [.ref q1])), (q1, .inl (cI, 204, .inl (fun j => nI (va_up g k v j))))] tS.heap ∧ va_K (dC, dI) vwCl [(cI, .int)] tS ∧ va_D (va_A [(h0, .inr (2, [.ref q1])), (q1, .inl (cI, 204, .inl (fun j => nI (g j))))] sz) [(h0, .inr (2, [.ref q1])), (q1, .inl (cI, 204, .inl (fun j => nI (va_up g k v j))))]) (va_A [(h0, .inr (2, [.ref q1])), (q1, .inl (cI, 204, .inl (fun j => nI (g j))))] sz)) 0 0 (va_A [(h0, .inr (2, [.ref q1])), (q1, .inl (cI, 204, .inl (fun j => nI (g j))))] sz) := by
  refine Met.ofW (cc := cX2_setByte) (maxL := 3) (ret := none) (by decide) rfl ?_
  intro p e s m args below meth c s₁ B hml hv
  obtain ⟨rfl, hsz, hP, hK, hD0⟩ := hv
  have hx := B.exec
  have hb := B.bytes
  have hr := B.returns
  have hts := atoms_spec (ws := wsX2_setByte) B.pre
  have hown : s.vm.findClass RX2 = some m.cls := findClass_of_methodNamed B.named
  have hlocks := B.notSynchronized
  subst hsz
  have hD := hD0.self (sz := s.heap.size)
  generalize hAe : va_A [(h0, .inr (2, [.ref q1])), (q1, .inl (cI, 204, .inl (fun j => nI (g j))))] s.heap.size = A at hD ⊢
  have hA : ∀ q : Nat, s.heap.size ≤ q → A q := fun q h => by rw [← hAe]; exact Or.inr h
  have hS : va_S A s.heap s.heap [] := va_S.rf
  have hinX2 : ∀ w ∈ wsX20, w ∈ wsX2_setByte := by decide +kernel
  have hl := lv_entry ([.ref h0, .int (nI k), .int (nI v)]) (n := 3) (Nat.le_of_ble_eq_true rfl)
  rw [lg_entry_eq]
  generalize (lg_sl ([.ref h0, .int (nI k), .int (nI v)]) ++ List.replicate (3 - (lg_sl ([.ref h0, .int (nI k), .int (nI v)])).length) Slot.unset).toArray = ls at hl ⊢
  have hl : lv_has ls 3 [(0, .ref h0), (1, .int (nI k)), (2, .int (nI v))] := hl
  refine lv_iload_n hx hb dX2_setByte_0 rfl (lv_at hl 1 rfl) ?_
  refine vp_callSi (W.runS (As := [.int (nI k)]) (rest := []) ⟨hx, hb, hml, hown, hts⟩ (c_X2_isIndex l dC dI (nI k) ) (va_cwS 1 hts gX2_setByte_X2_isIndex rfl rfl rfl (by decide +kernel) ⟨Nat.le_of_ble_eq_true rfl, Nat.le_of_ble_eq_true rfl⟩) ⟨fun a U g mk q => q, fun U hU hW => ⟨rfl, trivial⟩⟩ rfl rfl hl.1 rfl (lv_room (Nat.le_of_ble_eq_true rfl)) dX2_setByte_1 ⟨Nat.le_of_ble_eq_true rfl, Nat.le_of_ble_eq_true rfl⟩) (fun r1 h1 => ?_)
  refine lv_if_eq (tgt := 14) hx hb dX2_setByte_4 (by decide) (fun c4 => ?_) (fun c4 => ?_)
  · exact absurd c4 (fun z => ite_r h1 z (vp_in_nI hk (by omega)))
  · refine lv_aload_n hx hb dX2_setByte_7 rfl (lv_at hl 0 rfl) ?_
    refine va_get (D := (dC, dI)) (ci := 2) (v := .ref q1) (C := RX2) (T := TX2) (N := 1) hx hb hts hinX2 hown hK hP 0 rfl rfl 0 (by decide) (hts (.fieldLink RX2 9 "NumberContents$Wide" "items" "[I") (by decide +kernel)) (fun _ h9 => h9) rfl dX2_setByte_8 ?_
    refine lv_iload_n hx hb dX2_setByte_11 rfl (lv_at hl 1 rfl) ?_
    refine lv_iload_n hx hb dX2_setByte_12 rfl (lv_at hl 2 rfl) ?_
    refine va_iast hx hb hK hP hD hS 1 0 rfl rfl (vp_in_nI (by omega) (by omega)) dX2_setByte_13 (fun H locs hP hD hS => ?_)
    have hP : va_P (dC, dI) vwCl [(h0, .inr (2, [.ref q1])), (q1, .inl (cI, 204, .inl (upd (fun j => nI (g j)) (nI k).toNatClampNeg (nI v))))] H := hP
    have hD : va_D A [(h0, .inr (2, [.ref q1])), (q1, .inl (cI, 204, .inl (upd (fun j => nI (g j)) (nI k).toNatClampNeg (nI v))))] := hD
    obtain ⟨f13, e13⟩ : ∃ zz9 : Nat → Int32, zz9 = upd (fun j => nI (g j)) (nI k).toNatClampNeg (nI v) := ⟨_, rfl⟩
    rw [← e13] at hP hD
    obtain rfl : f13 = fun j => nI (va_up g k v j) := e13.trans (upg (by omega))
    have hP9 := hP.sub (ws' := [(h0, .inr (2, [.ref q1])), (q1, .inl (cI, 204, .inl (fun j => nI (va_up g k v j))))]) [0, 1] rfl
    have hD9 := hD.sub (ws' := [(h0, .inr (2, [.ref q1])), (q1, .inl (cI, 204, .inl (fun j => nI (va_up g k v j))))]) [0, 1] (by decide) rfl
    have hK9 := hK.sub (tys' := [(cI, .int)]) [0] rfl
    exact W.vret hx hb hr (fun tS htS hW => ⟨⟨(), rfl, trivial, by rw [htS]; exact hP9, va_K.moved hW.alike hK9, hD9⟩, hS.F htS⟩) hS.2.2 dX2_setByte_14

set_option maxHeartbeats 4000000 in
set_option maxRecDepth 100000 in
theorem c_X2_fill (l : Launch) (dC : Nat → ClassId) (dI : Nat → Nat → Nat) (cI : ClassId) (h0 q1 : Nat) (g : Nat → Nat) (v : Nat) (sz : Nat)  : Met l yX2_fill wsX2_fill ({ frames := 0, cells := 0, slots := 0, locals := 0 } : Room) (va_Pc [.ref h0, .int (nI v)] (fun U => U.heap.size = sz ∧ va_P (dC, dI) vwCl [(h0, .inr (2, [.ref q1])), (q1, .inl (cI, 204, .inl (fun j => nI (g j))))] U.heap ∧ va_K (dC, dI) vwCl [(cI, .int)] U ∧ va_D (fun _ => True) [(h0, .inr (2, [.ref q1])), (q1, .inl (cI, 204, .inl (fun j => nI (g j))))])) (va_Qv (fun (g3 : Nat → Nat) => (∀ j, j < 204 → g3 j = v) ∧ (∀ j, 204 ≤ j → g3 j = g j)) (fun (g3 : Nat → Nat) (tS : State) => va_P (dC, dI) vwCl [(h0, .inr (2, [.ref q1])), (q1, .inl (cI, 204, .inl (fun j => nI (g3 j))))] tS.heap ∧ va_K (dC, dI) vwCl [(cI, .int)] tS ∧ va_D (va_A [(h0, .inr (2, [.ref q1])), (q1, .inl (cI, 204, .inl (fun j => nI (g j))))] sz) [(h0, .inr (2, [.ref q1])), (q1, .inl (cI, 204, .inl (fun j => nI (g3 j))))]) (va_A [(h0, .inr (2, [.ref q1])), (q1, .inl (cI, 204, .inl (fun j => nI (g j))))] sz)) 0 0 (va_A [(h0, .inr (2, [.ref q1])), (q1, .inl (cI, 204, .inl (fun j => nI (g j))))] sz) := by
  refine Met.ofW (cc := cX2_fill) (maxL := 3) (ret := none) (by decide) rfl ?_
  intro p e s m args below meth c s₁ B hml hv
  obtain ⟨rfl, hsz, hP, hK, hD0⟩ := hv
  have hx := B.exec
  have hb := B.bytes
  have hr := B.returns
  have hts := atoms_spec (ws := wsX2_fill) B.pre
  have hown : s.vm.findClass RX2 = some m.cls := findClass_of_methodNamed B.named
  have hlocks := B.notSynchronized
  subst hsz
  have hD := hD0.self (sz := s.heap.size)
  generalize hAe : va_A [(h0, .inr (2, [.ref q1])), (q1, .inl (cI, 204, .inl (fun j => nI (g j))))] s.heap.size = A at hD ⊢
  have hA : ∀ q : Nat, s.heap.size ≤ q → A q := fun q h => by rw [← hAe]; exact Or.inr h
  have hS : va_S A s.heap s.heap [] := va_S.rf
  have hinX2 : ∀ w ∈ wsX20, w ∈ wsX2_fill := by decide +kernel
  have hl := lv_entry ([.ref h0, .int (nI v)]) (n := 3) (Nat.le_of_ble_eq_true rfl)
  rw [lg_entry_eq]
  generalize (lg_sl ([.ref h0, .int (nI v)]) ++ List.replicate (3 - (lg_sl ([.ref h0, .int (nI v)])).length) Slot.unset).toArray = ls at hl ⊢
  have hl : lv_has ls 3 [(0, .ref h0), (1, .int (nI v))] := hl
  refine lv_iconst (v := (nI 0)) hx hb dX2_fill_0 (by decide) ?_
  refine lv_istore_n (lv' := [(2, .int (nI 0)), (0, .ref h0), (1, .int (nI v))]) hx hb dX2_fill_1 rfl hl (by decide) rfl (fun ls hl => ?_)
  have LP2 : ∀ (n9 : Nat) (i : Nat) (g2 : Nat → Nat) (hm : (204 - i) < n9) (hi : i ≤ 204) (ha : ∀ j, j < i → g2 j = v) (hb2 : ∀ j, i ≤ j → g2 j = g j) (H : Heap) (locs : List Loc) (ls : Array Slot) (hP : va_P (dC, dI) vwCl [(h0, .inr (2, [.ref q1])), (q1, .inl (cI, 204, .inl (fun j => nI (g2 j))))] H) (hD : va_D A [(h0, .inr (2, [.ref q1])), (q1, .inl (cI, 204, .inl (fun j => nI (g2 j))))]) (hS : va_S A s.heap H locs) (hl : lv_has ls 3 [(0, .ref h0), (1, .int (nI v)), (2, .int (nI i))]), W p l e (headSpec wsX2_fill ({ frames := 0, cells := 0, slots := 0, locals := 0 } : Room)).room s m ([.ref h0, .int (nI v)]).toArray below meth c H locs 0 0 (MQ below (va_Qv (fun (g3 : Nat → Nat) => (∀ j, j < 204 → g3 j = v) ∧ (∀ j, 204 ≤ j → g3 j = g j)) (fun (g3 : Nat → Nat) (tS : State) => va_P (dC, dI) vwCl [(h0, .inr (2, [.ref q1])), (q1, .inl (cI, 204, .inl (fun j => nI (g3 j))))] tS.heap ∧ va_K (dC, dI) vwCl [(cI, .int)] tS ∧ va_D A [(h0, .inr (2, [.ref q1])), (q1, .inl (cI, 204, .inl (fun j => nI (g3 j))))]) A) ([.ref h0, .int (nI v)]).toArray s 0 0 A) (F0 m 2 ls []) := by
    intro n9
    induction n9 with
    | zero => intro i g2 hm; exact absurd hm (Nat.not_lt_zero _)
    | succ n9 ih =>
      intro i g2 hm hi ha hb2 H locs ls hP hD hS hl
      have ih2 := ih
      refine lv_iload_n hx hb dX2_fill_2 rfl (lv_at hl 2 rfl) ?_
      refine lv_sipush (v := (nI 204)) hx hb dX2_fill_3 (by decide) ?_
      refine lv_icmp_ge (tgt := 22) hx hb dX2_fill_6 (by decide) (fun c6 => ?_) (fun c6 => ?_)
      · have hP9 := hP.sub (ws' := [(h0, .inr (2, [.ref q1])), (q1, .inl (cI, 204, .inl (fun j => nI (g2 j))))]) [0, 1] rfl
        have hD9 := hD.sub (ws' := [(h0, .inr (2, [.ref q1])), (q1, .inl (cI, 204, .inl (fun j => nI (g2 j))))]) [0, 1] (by decide) rfl
        have hK9 := hK.sub (tys' := [(cI, .int)]) [0] rfl
        exact W.vret hx hb hr (fun tS htS hW => ⟨⟨g2, rfl, (by have he : i = 204 := Nat.le_antisymm hi ((nI_leI (by omega) (by omega)).mp c6); subst he; exact ⟨ha, hb2⟩), by rw [htS]; exact hP9, va_K.moved hW.alike hK9, hD9⟩, hS.F htS⟩) hS.2.2 dX2_fill_22
      · have hlt : i < 204 := Nat.lt_of_not_le (fun h => c6 ((nI_leI (by omega) (by omega)).mpr h))
        refine lv_aload_n hx hb dX2_fill_9 rfl (lv_at hl 0 rfl) ?_
        refine va_get (D := (dC, dI)) (ci := 2) (v := .ref q1) (C := RX2) (T := TX2) (N := 1) hx hb hts hinX2 hown hK hP 0 rfl rfl 0 (by decide) (hts (.fieldLink RX2 9 "NumberContents$Wide" "items" "[I") (by decide +kernel)) (fun _ h9 => h9) rfl dX2_fill_10 ?_
        refine lv_iload_n hx hb dX2_fill_13 rfl (lv_at hl 2 rfl) ?_
        refine lv_iload_n hx hb dX2_fill_14 rfl (lv_at hl 1 rfl) ?_
        refine va_iast hx hb hK hP hD hS 1 0 rfl rfl (vp_in_nI (by omega) (by omega)) dX2_fill_15 (fun H locs hP hD hS => ?_)
        have hP : va_P (dC, dI) vwCl [(h0, .inr (2, [.ref q1])), (q1, .inl (cI, 204, .inl (upd (fun j => nI (g2 j)) (nI i).toNatClampNeg (nI v))))] H := hP
        have hD : va_D A [(h0, .inr (2, [.ref q1])), (q1, .inl (cI, 204, .inl (upd (fun j => nI (g2 j)) (nI i).toNatClampNeg (nI v))))] := hD
        obtain ⟨f15, e15⟩ : ∃ zz9 : Nat → Int32, zz9 = upd (fun j => nI (g2 j)) (nI i).toNatClampNeg (nI v) := ⟨_, rfl⟩
        rw [← e15] at hP hD
        obtain rfl : f15 = fun j => nI (va_up g2 i v j) := e15.trans (upg (by omega))
        obtain ⟨x16, e16⟩ : ∃ zz9 : Int32, zz9 = (nI i) + 1 := ⟨_, rfl⟩
        refine lv_iinc (v := x16) (lv' := [(2, .int x16), (0, .ref h0), (1, .int (nI v))]) hx hb dX2_fill_16 hl (k := 2) rfl (by rw [e16]; rfl) (by decide) rfl (fun ls hl => ?_)
        obtain rfl : x16 = nI (i + 1) := e16.trans (nI_1 i)
        refine lv_goto (tgt := 2) hx hb dX2_fill_19 (by decide) ?_
        exact ih2 (i + 1) (va_up g2 i v) (by omega) (by omega) (fun j h => by by_cases e : j = i; rw [e, va_up_self]; rw [va_up_ne _ _ e]; exact ha j (by omega)) (fun j h => by rw [va_up_ne _ _ (by omega)]; exact hb2 j (by omega)) _ _ _ (hP.sub [0, 1] rfl) (hD.sub [0, 1] (by decide) rfl) hS (lv_sub hl [1, 2, 0] rfl)
  exact LP2 _ 0 g (Nat.lt_succ_self _) (by omega) (fun j h => absurd h (by omega)) (fun j h => rfl) _ _ _ (hP.sub [0, 1] rfl) (hD.sub [0, 1] (by decide) rfl) hS (lv_sub hl [1, 2, 0] rfl)

set_option maxHeartbeats 4000000 in
set_option maxRecDepth 100000 in
theorem c_X2_addAt (l : Launch) (dC : Nat → ClassId) (dI : Nat → Nat → Nat) (cI : ClassId) (h0 q1 : Nat) (g : Nat → Nat) (k : Nat) (y : Int32) (sz : Nat) (hg : ∀ j, g j < 256) (hk : k < 204) (hy : -70000 ≤ y.toInt ∧ y.toInt ≤ 70000) : Met l yX2_addAt wsX2_addAt ({ frames := 2, cells := 0, slots := 0, locals := 42 } : Room) (va_Pc [.ref h0, .int (nI k), .int y] (fun U => U.heap.size = sz ∧ va_P (dC, dI) vwCl [(h0, .inr (2, [.ref q1])), (q1, .inl (cI, 204, .inl (fun j => nI (g j))))] U.heap ∧ va_K (dC, dI) vwCl [(cI, .int)] U ∧ va_D (fun _ => True) [(h0, .inr (2, [.ref q1])), (q1, .inl (cI, 204, .inl (fun j => nI (g j))))])) (va_Qi (fun (r : Int32) (b : Nat) => b < 256 ∧ (g k : Int) + y.toInt = 256 * r.toInt + b) (fun (b : Nat) (tS : State) => va_P (dC, dI) vwCl [(h0, .inr (2, [.ref q1])), (q1, .inl (cI, 204, .inl (fun j => nI (va_up g k b j))))] tS.heap ∧ va_K (dC, dI) vwCl [(cI, .int)] tS ∧ va_D (va_A [(h0, .inr (2, [.ref q1])), (q1, .inl (cI, 204, .inl (fun j => nI (g j))))] sz) [(h0, .inr (2, [.ref q1])), (q1, .inl (cI, 204, .inl (fun j => nI (va_up g k b j))))]) (va_A [(h0, .inr (2, [.ref q1])), (q1, .inl (cI, 204, .inl (fun j => nI (g j))))] sz)) 0 0 (va_A [(h0, .inr (2, [.ref q1])), (q1, .inl (cI, 204, .inl (fun j => nI (g j))))] sz) := by
  refine Met.ofW (cc := cX2_addAt) (maxL := 4) (ret := (some .int)) (by decide) rfl ?_
  intro p e s m args below meth c s₁ B hml hv
  obtain ⟨rfl, hsz, hP, hK, hD0⟩ := hv
  have hx := B.exec
  have hb := B.bytes
  have hr := B.returns
  have hts := atoms_spec (ws := wsX2_addAt) B.pre
  have hown : s.vm.findClass RX2 = some m.cls := findClass_of_methodNamed B.named
  have hlocks := B.notSynchronized
  subst hsz
  have hD := hD0.self (sz := s.heap.size)
  generalize hAe : va_A [(h0, .inr (2, [.ref q1])), (q1, .inl (cI, 204, .inl (fun j => nI (g j))))] s.heap.size = A at hD ⊢
  have hA : ∀ q : Nat, s.heap.size ≤ q → A q := fun q h => by rw [← hAe]; exact Or.inr h
  have hS : va_S A s.heap s.heap [] := va_S.rf
  have hl := lv_entry ([.ref h0, .int (nI k), .int y]) (n := 4) (Nat.le_of_ble_eq_true rfl)
  rw [lg_entry_eq]
  generalize (lg_sl ([.ref h0, .int (nI k), .int y]) ++ List.replicate (4 - (lg_sl ([.ref h0, .int (nI k), .int y])).length) Slot.unset).toArray = ls at hl ⊢
  have hl : lv_has ls 4 [(0, .ref h0), (1, .int (nI k)), (2, .int y)] := hl
  refine lv_aload_n hx hb dX2_addAt_0 rfl (lv_at hl 0 rfl) ?_
  refine lv_iload_n hx hb dX2_addAt_1 rfl (lv_at hl 1 rfl) ?_
  have hPc := hP.sub (ws' := [(h0, .inr (2, [.ref q1])), (q1, .inl (cI, 204, .inl (fun j => nI (g j))))]) [0, 1] rfl
  have hKc := hK.sub (tys' := [(cI, .int)]) [0] rfl
  refine vp_callSi (W.runV (As := [.int (nI k)]) (rest := []) ⟨hx, hb, hml, hown, hts⟩ (c_X2_byteOf l dC dI cI h0 q1 g (nI k) ) (cwV 1 hts gX2_addAt_X2_byteOf rfl rfl rfl (by decide +kernel) ⟨Nat.le_of_ble_eq_true rfl, Nat.le_of_ble_eq_true rfl⟩) ⟨fun a U g mk q => by obtain ⟨q0, qP, qK⟩ := q; exact ⟨q0, qP, va_K.moved (u := U) (U := U.calling g mk a) (Vm.Alike.refl U.vm) qK⟩, va_recv hK hP (ci := 2) (q0 := 0) rfl rfl, fun U hU hW => ⟨rfl, by rw [hU]; exact hPc, va_K.moved hW.alike hKc⟩⟩ rfl rfl hl.1 rfl (lv_room (Nat.le_of_ble_eq_true rfl)) dX2_addAt_2 ⟨Nat.le_of_ble_eq_true rfl, Nat.le_of_ble_eq_true rfl⟩) (fun r2 h2 => ?_)
  obtain rfl : r2 = nI (g k) := bo_at hk h2
  refine lv_iload_n hx hb dX2_addAt_5 rfl (lv_at hl 2 rfl) ?_
  refine lv_iadd hx hb dX2_addAt_6 ?_
  refine lv_topi (fun x6 e6 => ?_)
  refine lv_istore_n (lv' := [(3, .int x6), (0, .ref h0), (1, .int (nI k)), (2, .int y)]) hx hb dX2_addAt_7 rfl hl (by decide) rfl (fun ls hl => ?_)
  refine lv_aload_n hx hb dX2_addAt_8 rfl (lv_at hl 1 rfl) ?_
  refine lv_iload_n hx hb dX2_addAt_9 rfl (lv_at hl 2 rfl) ?_
  refine lv_iload_n hx hb dX2_addAt_10 rfl (lv_at hl 0 rfl) ?_
  refine lv_sipush (v := 255) hx hb dX2_addAt_11 (by decide) ?_
  refine lv_iand hx hb dX2_addAt_14 ?_
  refine lv_topi (fun x14 e14 => ?_)
  obtain rfl : x14 = nI (x6.toBitVec.toNat % 2 ^ 8) := e14.trans (pk_and x6 8 (by decide))
  have hPc := hP.sub (ws' := [(h0, .inr (2, [.ref q1])), (q1, .inl (cI, 204, .inl (fun j => nI (g j))))]) [0, 1] rfl
  have hKc := hK.sub (tys' := [(cI, .int)]) [0] rfl
  have hDc := hD.sub (ws' := [(h0, .inr (2, [.ref q1])), (q1, .inl (cI, 204, .inl (fun j => nI (g j))))]) [0, 1] (by decide) rfl
  have hFc := va_free (wc := [(h0, .inr (2, [.ref q1])), (q1, .inl (cI, 204, .inl (fun j => nI (g j))))]) hD hS hA [0, 1] rfl
  refine va_callv (va_runV (As := [.int (nI k), .int (nI (x6.toBitVec.toNat % 2 ^ 8))]) (rest := []) ⟨hx, hb, hml, hown, hts⟩ (c_X2_setByte l dC dI cI h0 q1 g k (x6.toBitVec.toNat % 2 ^ 8) s.heap.size hk) (cwV 2 hts gX2_addAt_X2_setByte rfl rfl rfl (by decide +kernel) ⟨Nat.le_of_ble_eq_true rfl, Nat.le_of_ble_eq_true rfl⟩) ⟨fun a U g mk q => by obtain ⟨q0, q1, qP, qK, qD⟩ := q; exact ⟨q0, q1, qP, va_K.moved (u := U) (U := U.calling g mk a) (Vm.Alike.refl U.vm) qK, qD⟩, va_recv hKc hPc (ci := 2) (q0 := 0) rfl rfl, fun U hU hW => ⟨rfl, by rw [hU], by rw [hU]; exact hPc, va_K.moved hW.alike hKc, hDc.weaken (fun _ _ _ _ => trivial)⟩⟩ rfl rfl hl.1 rfl (lv_room (Nat.le_of_ble_eq_true rfl)) dX2_addAt_15 ⟨Nat.le_of_ble_eq_true rfl, Nat.le_of_ble_eq_true rfl⟩) hS (fun q _ h => hFc q h) hFc (fun uS tS H1 locs htS hvm h15 hB hzS hkS hS => ?_)
  obtain ⟨hP1, hK1, hD1⟩ := hB
  rw [htS] at hP1
  have hK1 := va_K.moved hvm.symm hK1
  try dsimp only at h15
  obtain ⟨hP, hD⟩ := va_join (wr := []) (w1 := [(h0, .inr (2, [.ref q1])), (q1, .inl (cI, 204, .inl (fun j => nI (va_up g k (x6.toBitVec.toNat % 2 ^ 8) j))))]) hP hD [0, 1] [] rfl rfl (by decide) (by decide) hkS hFc hP1 hD1
  generalize H1 = H at hP hS ⊢
  have hP : va_P (dC, dI) vwCl [(h0, .inr (2, [.ref q1])), (q1, .inl (cI, 204, .inl (fun j => nI (va_up g k (x6.toBitVec.toNat % 2 ^ 8) j))))] H := hP
  have hD : va_D A [(h0, .inr (2, [.ref q1])), (q1, .inl (cI, 204, .inl (fun j => nI (va_up g k (x6.toBitVec.toNat % 2 ^ 8) j))))] := hD
  refine lv_iload_n hx hb dX2_addAt_18 rfl (lv_at hl 0 rfl) ?_
  refine lv_bipush (v := 8) hx hb dX2_addAt_19 (by decide) ?_
  refine lv_ishr hx hb dX2_addAt_21 ?_
  refine lv_topi (fun x21 e21 => ?_)
  have hP9 := hP.sub (ws' := [(h0, .inr (2, [.ref q1])), (q1, .inl (cI, 204, .inl (fun j => nI (va_up g k (x6.toBitVec.toNat % 2 ^ 8) j))))]) [0, 1] rfl
  have hD9 := hD.sub (ws' := [(h0, .inr (2, [.ref q1])), (q1, .inl (cI, 204, .inl (fun j => nI (va_up g k (x6.toBitVec.toNat % 2 ^ 8) j))))]) [0, 1] (by decide) rfl
  have hK9 := hK.sub (tys' := [(cI, .int)]) [0] rfl
  exact W.iret (v := x21) hx hb hr (fun tS htS hW => ⟨⟨x21, (x6.toBitVec.toNat % 2 ^ 8), rfl, ⟨m8lt _, by have h1 := hg k; have q : x6.toInt = (g k : Int) + y.toInt := by { rw [e6, i_add (by rw [nI_toInt (by omega)]; omega) (by rw [nI_toInt (by omega)]; omega), nI_toInt (by omega)] }; rw [e21, ← q]; exact sh8 x6⟩, by rw [htS]; exact hP9, va_K.moved hW.alike hK9, hD9⟩, hS.F htS⟩) hS.2.2 dX2_addAt_22

set_option maxHeartbeats 4000000 in
set_option maxRecDepth 100000 in
theorem c_X2_multiplyAndAdd (l : Launch) (dC : Nat → ClassId) (dI : Nat → Nat → Nat) (cI : ClassId) (h0 q1 : Nat) (g : Nat → Nat) (v w : Int32) (sz : Nat) (hg : ∀ j, g j < 256) : Met l yX2_multiplyAndAdd wsX2_multiplyAndAdd ({ frames := 0, cells := 0, slots := 0, locals := 0 } : Room) (va_Pc [.ref h0, .int v, .int w] (fun U => U.heap.size = sz ∧ va_P (dC, dI) vwCl [(h0, .inr (2, [.ref q1])), (q1, .inl (cI, 204, .inl (fun j => nI (g j))))] U.heap ∧ va_K (dC, dI) vwCl [(cI, .int)] U ∧ va_D (fun _ => True) [(h0, .inr (2, [.ref q1])), (q1, .inl (cI, 204, .inl (fun j => nI (g j))))])) (va_Qv (fun (g3 : Nat → Nat) => (∀ j, g3 j < 256) ∧ (∀ j, 204 ≤ j → g3 j = g j) ∧ ∃ q : Int, (bv g3 204 : Int) + q * ((256 ^ 204 : Nat) : Int) = bv g 204 * v.toInt + w.toInt) (fun (g3 : Nat → Nat) (tS : State) => va_P (dC, dI) vwCl [(h0, .inr (2, [.ref q1])), (q1, .inl (cI, 204, .inl (fun j => nI (g3 j))))] tS.heap ∧ va_K (dC, dI) vwCl [(cI, .int)] tS ∧ va_D (va_A [(h0, .inr (2, [.ref q1])), (q1, .inl (cI, 204, .inl (fun j => nI (g j))))] sz) [(h0, .inr (2, [.ref q1])), (q1, .inl (cI, 204, .inl (fun j => nI (g3 j))))]) (va_A [(h0, .inr (2, [.ref q1])), (q1, .inl (cI, 204, .inl (fun j => nI (g j))))] sz)) 0 0 (va_A [(h0, .inr (2, [.ref q1])), (q1, .inl (cI, 204, .inl (fun j => nI (g j))))] sz) := by
  refine Met.ofW (cc := cX2_multiplyAndAdd) (maxL := 8) (ret := none) (by decide) rfl ?_
  intro p e s m args below meth c s₁ B hml hv
  obtain ⟨rfl, hsz, hP, hK, hD0⟩ := hv
  have hx := B.exec
  have hb := B.bytes
  have hr := B.returns
  have hts := atoms_spec (ws := wsX2_multiplyAndAdd) B.pre
  have hown : s.vm.findClass RX2 = some m.cls := findClass_of_methodNamed B.named
  have hlocks := B.notSynchronized
  subst hsz
  have hD := hD0.self (sz := s.heap.size)
  generalize hAe : va_A [(h0, .inr (2, [.ref q1])), (q1, .inl (cI, 204, .inl (fun j => nI (g j))))] s.heap.size = A at hD ⊢
  have hA : ∀ q : Nat, s.heap.size ≤ q → A q := fun q h => by rw [← hAe]; exact Or.inr h
  have hS : va_S A s.heap s.heap [] := va_S.rf
  have hinX2 : ∀ w ∈ wsX20, w ∈ wsX2_multiplyAndAdd := by decide +kernel
  have hl := lv_entry ([.ref h0, .int v, .int w]) (n := 8) (Nat.le_of_ble_eq_true rfl)
  rw [lg_entry_eq]
  generalize (lg_sl ([.ref h0, .int v, .int w]) ++ List.replicate (8 - (lg_sl ([.ref h0, .int v, .int w])).length) Slot.unset).toArray = ls at hl ⊢
  have hl : lv_has ls 8 [(0, .ref h0), (1, .int v), (2, .int w)] := hl
  refine lv_iload_n hx hb dX2_multiplyAndAdd_0 rfl (lv_at hl 2 rfl) ?_
  refine lv_i2l hx hb dX2_multiplyAndAdd_1 rfl ?_
  refine lv_topl (fun x1 e1 => ?_)
  refine lv_lstore_n (lv' := [(3, .long x1), (0, .ref h0), (1, .int v), (2, .int w)]) hx hb dX2_multiplyAndAdd_2 rfl hl (by decide) rfl (fun ls hl => ?_)
  refine lv_iconst (v := (nI 0)) hx hb dX2_multiplyAndAdd_3 (by decide) ?_
  refine lv_istore (lv' := [(5, .int (nI 0)), (3, .long x1), (0, .ref h0), (1, .int v), (2, .int w)]) hx hb dX2_multiplyAndAdd_4 hl (by decide) rfl (fun ls hl => ?_)
  have LP6 : ∀ (n9 : Nat) (i : Nat) (g2 : Nat → Nat) (cr : Int64) (hm : (204 - i) < n9) (hi : i ≤ 204) (hg2 : ∀ j, g2 j < 256) (hs : ∀ j, i ≤ j → g2 j = g j) (hc : -4294967296 ≤ cr.toInt ∧ cr.toInt ≤ 4294967296) (hv : (bv g2 i : Int) + cr.toInt * ((256 ^ i : Nat) : Int) = bv g i * v.toInt + w.toInt) (H : Heap) (locs : List Loc) (ls : Array Slot) (hP : va_P (dC, dI) vwCl [(h0, .inr (2, [.ref q1])), (q1, .inl (cI, 204, .inl (fun j => nI (g2 j))))] H) (hD : va_D A [(h0, .inr (2, [.ref q1])), (q1, .inl (cI, 204, .inl (fun j => nI (g2 j))))]) (hS : va_S A s.heap H locs) (hl : lv_has ls 8 [(0, .ref h0), (1, .int v), (2, .int w), (3, .long cr), (5, .int (nI i))]), W p l e (headSpec wsX2_multiplyAndAdd ({ frames := 0, cells := 0, slots := 0, locals := 0 } : Room)).room s m ([.ref h0, .int v, .int w]).toArray below meth c H locs 0 0 (MQ below (va_Qv (fun (g3 : Nat → Nat) => (∀ j, g3 j < 256) ∧ (∀ j, 204 ≤ j → g3 j = g j) ∧ ∃ q : Int, (bv g3 204 : Int) + q * ((256 ^ 204 : Nat) : Int) = bv g 204 * v.toInt + w.toInt) (fun (g3 : Nat → Nat) (tS : State) => va_P (dC, dI) vwCl [(h0, .inr (2, [.ref q1])), (q1, .inl (cI, 204, .inl (fun j => nI (g3 j))))] tS.heap ∧ va_K (dC, dI) vwCl [(cI, .int)] tS ∧ va_D A [(h0, .inr (2, [.ref q1])), (q1, .inl (cI, 204, .inl (fun j => nI (g3 j))))]) A) ([.ref h0, .int v, .int w]).toArray s 0 0 A) (F0 m 6 ls []) := by
    intro n9
    induction n9 with
    | zero => intro i g2 cr hm; exact absurd hm (Nat.not_lt_zero _)
    | succ n9 ih =>
      intro i g2 cr hm hi hg2 hs hc hv H locs ls hP hD hS hl
      have ih6 := ih
      refine lv_iload hx hb dX2_multiplyAndAdd_6 (lv_at hl 4 rfl) ?_
      refine lv_sipush (v := (nI 204)) hx hb dX2_multiplyAndAdd_8 (by decide) ?_
      refine lv_icmp_ge (tgt := 55) hx hb dX2_multiplyAndAdd_11 (by decide) (fun c11 => ?_) (fun c11 => ?_)
      · have hP9 := hP.sub (ws' := [(h0, .inr (2, [.ref q1])), (q1, .inl (cI, 204, .inl (fun j => nI (g2 j))))]) [0, 1] rfl
        have hD9 := hD.sub (ws' := [(h0, .inr (2, [.ref q1])), (q1, .inl (cI, 204, .inl (fun j => nI (g2 j))))]) [0, 1] (by decide) rfl
        have hK9 := hK.sub (tys' := [(cI, .int)]) [0] rfl
        exact W.vret hx hb hr (fun tS htS hW => ⟨⟨g2, rfl, (by have he : i = 204 := Nat.le_antisymm hi ((nI_leI (by omega) (by omega)).mp c11); subst he; exact ⟨hg2, hs, _, hv⟩), by rw [htS]; exact hP9, va_K.moved hW.alike hK9, hD9⟩, hS.F htS⟩) hS.2.2 dX2_multiplyAndAdd_55
      · have hlt : i < 204 := Nat.lt_of_not_le (fun h => c11 ((nI_leI (by omega) (by omega)).mpr h))
        refine lv_aload_n hx hb dX2_multiplyAndAdd_14 rfl (lv_at hl 0 rfl) ?_
        refine va_get (D := (dC, dI)) (ci := 2) (v := .ref q1) (C := RX2) (T := TX2) (N := 1) hx hb hts hinX2 hown hK hP 0 rfl rfl 0 (by decide) (hts (.fieldLink RX2 9 "NumberContents$Wide" "items" "[I") (by decide +kernel)) (fun _ h9 => h9) rfl dX2_multiplyAndAdd_15 ?_
        refine lv_iload hx hb dX2_multiplyAndAdd_18 (lv_at hl 4 rfl) ?_
        refine va_iald hx hb hK hP 1 0 rfl rfl (vp_in_nI (by omega) (by omega)) dX2_multiplyAndAdd_20 ?_
        refine lv_topi (fun x20 e20 => ?_)
        obtain rfl : x20 = nI (g2 i) := e20.trans (atg (by omega))
        refine lv_i2l hx hb dX2_multiplyAndAdd_21 rfl ?_
        refine lv_topl (fun x21 e21 => ?_)
        refine lv_iload_n hx hb dX2_multiplyAndAdd_22 rfl (lv_at hl 1 rfl) ?_
        refine lv_i2l hx hb dX2_multiplyAndAdd_23 rfl ?_
        refine lv_topl (fun x23 e23 => ?_)
        refine lv_lmul hx hb dX2_multiplyAndAdd_24 ?_
        refine lv_topl (fun x24 e24 => ?_)
        refine lv_lload_n hx hb dX2_multiplyAndAdd_25 rfl (lv_at hl 3 rfl) ?_
        refine lv_ladd hx hb dX2_multiplyAndAdd_26 ?_
        refine lv_topl (fun x26 e26 => ?_)
        refine lv_lstore (lv' := [(6, .long x26), (0, .ref h0), (1, .int v), (2, .int w), (3, .long cr), (5, .int (nI i))]) hx hb dX2_multiplyAndAdd_27 hl (by decide) rfl (fun ls hl => ?_)
        refine lv_aload_n hx hb dX2_multiplyAndAdd_29 rfl (lv_at hl 1 rfl) ?_
        refine va_get (D := (dC, dI)) (ci := 2) (v := .ref q1) (C := RX2) (T := TX2) (N := 1) hx hb hts hinX2 hown hK hP 0 rfl rfl 0 (by decide) (hts (.fieldLink RX2 9 "NumberContents$Wide" "items" "[I") (by decide +kernel)) (fun _ h9 => h9) rfl dX2_multiplyAndAdd_30 ?_
        refine lv_iload hx hb dX2_multiplyAndAdd_33 (lv_at hl 5 rfl) ?_
        refine lv_lload hx hb dX2_multiplyAndAdd_35 (lv_at hl 0 rfl) ?_
        refine lv_ldc2 (v := 255) hx hb hown (hts (.constantLong RX2 27 (255)) (by decide +kernel)) dX2_multiplyAndAdd_37 ?_
        refine lv_land hx hb dX2_multiplyAndAdd_40 ?_
        refine lv_topl (fun x40 e40 => ?_)
        refine lv_l2i hx hb dX2_multiplyAndAdd_41 rfl ?_
        refine lv_topi (fun x41 e41 => ?_)
        obtain rfl : x41 = nI (x26.toBitVec.toNat % 2 ^ 8) := e41.trans (by rw [e40]; exact l2i255 x26)
        refine va_iast hx hb hK hP hD hS 1 0 rfl rfl (vp_in_nI (by omega) (by omega)) dX2_multiplyAndAdd_42 (fun H locs hP hD hS => ?_)
        have hP : va_P (dC, dI) vwCl [(h0, .inr (2, [.ref q1])), (q1, .inl (cI, 204, .inl (upd (fun j => nI (g2 j)) (nI i).toNatClampNeg (nI (x26.toBitVec.toNat % 2 ^ 8)))))] H := hP
        have hD : va_D A [(h0, .inr (2, [.ref q1])), (q1, .inl (cI, 204, .inl (upd (fun j => nI (g2 j)) (nI i).toNatClampNeg (nI (x26.toBitVec.toNat % 2 ^ 8)))))] := hD
        obtain ⟨f42, e42⟩ : ∃ zz9 : Nat → Int32, zz9 = upd (fun j => nI (g2 j)) (nI i).toNatClampNeg (nI (x26.toBitVec.toNat % 2 ^ 8)) := ⟨_, rfl⟩
        rw [← e42] at hP hD
        obtain rfl : f42 = fun j => nI (va_up g2 i (x26.toBitVec.toNat % 2 ^ 8) j) := e42.trans (upg (by omega))
        refine lv_lload hx hb dX2_multiplyAndAdd_43 (lv_at hl 0 rfl) ?_
        refine lv_bipush (v := 8) hx hb dX2_multiplyAndAdd_45 (by decide) ?_
        refine lv_lshr hx hb dX2_multiplyAndAdd_47 rfl ?_
        refine lv_topl (fun x47 e47 => ?_)
        refine lv_lstore_n (lv' := [(3, .long x47), (6, .long x26), (0, .ref h0), (1, .int v), (2, .int w), (5, .int (nI i))]) hx hb dX2_multiplyAndAdd_48 rfl hl (by decide) rfl (fun ls hl => ?_)
        obtain ⟨x49, e49⟩ : ∃ zz9 : Int32, zz9 = (nI i) + 1 := ⟨_, rfl⟩
        refine lv_iinc (v := x49) (lv' := [(5, .int x49), (3, .long x47), (6, .long x26), (0, .ref h0), (1, .int v), (2, .int w)]) hx hb dX2_multiplyAndAdd_49 hl (k := 5) rfl (by rw [e49]; rfl) (by decide) rfl (fun ls hl => ?_)
        obtain rfl : x49 = nI (i + 1) := e49.trans (nI_1 i)
        refine lv_goto (tgt := 6) hx hb dX2_multiplyAndAdd_52 (by decide) ?_
        have ht := ma_tot (hg2 i) e21 e23 e24 e26 hc.1 hc.2
        have h8 := sh8l x26
        rw [← e47] at h8
        have hm := m8lt x26.toBitVec.toNat
        exact ih6 (i + 1) (va_up g2 i (x26.toBitVec.toNat % 2 ^ 8)) x47 (by omega) (by omega) (up_lt hg2 hm) (fun j h => by rw [va_up_ne _ _ (by omega)]; exact hs j (by omega)) (by omega) (ma_step hv (by rw [ht.1, hs i (Nat.le_refl i)]) h8) _ _ _ (hP.sub [0, 1] rfl) (hD.sub [0, 1] (by decide) rfl) hS (lv_sub hl [3, 4, 5, 1, 0] rfl)
  exact LP6 _ 0 g x1 (Nat.lt_succ_self _) (by omega) hg (fun j h => rfl) (by rw [e1, i_l]; have := i_rng w; omega) (by rw [e1, i_l]; simp [bv]) _ _ _ (hP.sub [0, 1] rfl) (hD.sub [0, 1] (by decide) rfl) hS (lv_sub hl [2, 3, 4, 1, 0] rfl)

theorem fb_ge {a : Nat} (h : a < 256) (c : ¬ nI a < nI 128) : 128 ≤ a := Nat.le_of_not_lt (fun z => c (nI_lt z (by omega)))
theorem fb_lt {a : Nat} (h : a < 256) (c : nI a < nI 128) : a < 128 := Nat.lt_of_not_le (fun z => nI_nlt z (by omega) c)
theorem nI_inj {a b : Nat} (ha : a < 256) (hb : b < 256) (h : nI a = nI b) : a = b := (nI_eq (by omega) (by omega)).mp h
theorem fl_lt {a fl : Nat} (hs : (fl = 255 ∧ 128 ≤ a) ∨ (fl = 0 ∧ a < 128)) : fl < 256 := by omega
theorem few_in {b fl a : Nat} (hb : b < 256) (hs : (fl = 255 ∧ 128 ≤ a) ∨ (fl = 0 ∧ a < 128)) (h : nI b &&& 128 = nI fl &&& 128) : (fl = 255 ∧ 128 ≤ b) ∨ (fl = 0 ∧ b < 128) := by
  rw [and128 b hb, and128 fl (fl_lt hs)] at h
  rcases hs with ⟨rfl, _⟩ | ⟨rfl, _⟩
  · refine Or.inl ⟨rfl, Nat.le_of_not_lt (fun z => ?_)⟩
    rw [if_neg (by omega), if_pos (by omega)] at h
    exact absurd h (by decide)
  · refine Or.inr ⟨rfl, Nat.lt_of_not_le (fun z => ?_)⟩
    rw [if_pos z, if_neg (by omega)] at h
    exact absurd h (by decide)
theorem few_out {b fl a : Nat} (hb : b < 256) (hs : (fl = 255 ∧ 128 ≤ a) ∨ (fl = 0 ∧ a < 128)) (h : ¬ nI b &&& 128 = nI fl &&& 128) : (fl = 255 ∧ b < 128) ∨ (fl = 0 ∧ 128 ≤ b) := by
  rw [and128 b hb, and128 fl (fl_lt hs)] at h
  rcases hs with ⟨rfl, _⟩ | ⟨rfl, _⟩
  · refine Or.inl ⟨rfl, Nat.lt_of_not_le (fun z => h ?_)⟩
    rw [if_pos z, if_pos (by omega)]
  · refine Or.inr ⟨rfl, Nat.le_of_not_lt (fun z => h ?_)⟩
    rw [if_neg (by omega), if_neg (by omega)]

set_option maxHeartbeats 4000000 in
set_option maxRecDepth 100000 in
theorem c_X2_fewestBytes (l : Launch) (dC : Nat → ClassId) (dI : Nat → Nat → Nat) (cI : ClassId) (h0 q1 : Nat) (g : Nat → Nat) (hg : ∀ j, g j < 256) : Met l yX2_fewestBytes wsX2_fewestBytes ({ frames := 0, cells := 0, slots := 0, locals := 0 } : Room) (va_Pc [.ref h0] (fun U => va_P (dC, dI) vwCl [(h0, .inr (2, [.ref q1])), (q1, .inl (cI, 204, .inl (fun j => nI (g j))))] U.heap ∧ va_K (dC, dI) vwCl [(cI, .int)] U)) (vp_Si (fun r : Int32 => ∃ k : Nat, r = nI k ∧ isz (sv g 204) k ∧ k ≤ 204 ∧ sv g k = sv g 204)) 0 0 (fun _ => False) := by
  refine Met.ofW (cc := cX2_fewestBytes) (maxL := 3) (ret := (some .int)) (by decide) rfl ?_
  intro p e s m args below meth c s₁ B hml hv
  obtain ⟨rfl, hP, hK⟩ := hv
  have hx := B.exec
  have hb := B.bytes
  have hr := B.returns
  have hts := atoms_spec (ws := wsX2_fewestBytes) B.pre
  have hown : s.vm.findClass RX2 = some m.cls := findClass_of_methodNamed B.named
  have hlocks := B.notSynchronized
  have hinX2 : ∀ w ∈ wsX20, w ∈ wsX2_fewestBytes := by decide +kernel
  have hl := lv_entry ([.ref h0]) (n := 3) (Nat.le_of_ble_eq_true rfl)
  rw [lg_entry_eq]
  generalize (lg_sl ([.ref h0]) ++ List.replicate (3 - (lg_sl ([.ref h0])).length) Slot.unset).toArray = ls at hl ⊢
  have hl : lv_has ls 3 [(0, .ref h0)] := hl
  refine lv_sipush (v := (nI 204)) hx hb dX2_fewestBytes_0 (by decide) ?_
  refine lv_istore_n (lv' := [(1, .int (nI 204)), (0, .ref h0)]) hx hb dX2_fewestBytes_3 rfl hl (by decide) rfl (fun ls hl => ?_)
  refine lv_aload_n hx hb dX2_fewestBytes_4 rfl (lv_at hl 1 rfl) ?_
  refine va_get (D := (dC, dI)) (ci := 2) (v := .ref q1) (C := RX2) (T := TX2) (N := 1) hx hb hts hinX2 hown hK hP 0 rfl rfl 0 (by decide) (hts (.fieldLink RX2 9 "NumberContents$Wide" "items" "[I") (by decide +kernel)) (fun _ h9 => h9) rfl dX2_fewestBytes_5 ?_
  refine lv_sipush (v := (nI 203)) hx hb dX2_fewestBytes_8 (by decide) ?_
  refine va_iald hx hb hK hP 1 0 rfl rfl (vp_in_nI (by omega) (by omega)) dX2_fewestBytes_11 ?_
  refine lv_topi (fun x11 e11 => ?_)
  obtain rfl : x11 = nI (g 203) := e11.trans (atg (by omega))
  refine lv_sipush (v := (nI 128)) hx hb dX2_fewestBytes_12 (by decide) ?_
  refine lv_icmp_lt (tgt := 24) hx hb dX2_fewestBytes_15 (by decide) (fun c15 => ?_) (fun c15 => ?_)
  · refine lv_iconst (v := (nI 0)) hx hb dX2_fewestBytes_24 (by decide) ?_
    refine lv_istore_n (lv' := [(2, .int (nI 0)), (1, .int (nI 204)), (0, .ref h0)]) hx hb dX2_fewestBytes_25 rfl hl (by decide) rfl (fun ls hl => ?_)
    have LP26 : ∀ (n9 : Nat) (n fl : Nat) (hm : n < n9) (hn1 : 1 ≤ n) (hn : n ≤ 204) (hs : (fl = 255 ∧ 128 ≤ g (n - 1)) ∨ (fl = 0 ∧ g (n - 1) < 128)) (hv : sv g n = sv g 204) (ls : Array Slot) (hl : lv_has ls 3 [(0, .ref h0), (1, .int (nI n)), (2, .int (nI fl))]), W p l e (headSpec wsX2_fewestBytes ({ frames := 0, cells := 0, slots := 0, locals := 0 } : Room)).room s m ([.ref h0]).toArray below meth c s.heap [] 0 0 (MQ below (vp_Si (fun r : Int32 => ∃ k : Nat, r = nI k ∧ isz (sv g 204) k ∧ k ≤ 204 ∧ sv g k = sv g 204)) ([.ref h0]).toArray s 0 0 (fun _ => False)) (F0 m 26 ls []) := by
      intro n9
      induction n9 with
      | zero => intro n fl hm; exact absurd hm (Nat.not_lt_zero _)
      | succ n9 ih =>
        intro n fl hm hn1 hn hs hv ls hl
        have ih26 := ih
        refine lv_iload_n hx hb dX2_fewestBytes_26 rfl (lv_at hl 1 rfl) ?_
        refine lv_iconst (v := 1) hx hb dX2_fewestBytes_27 (by decide) ?_
        refine lv_icmp_le (tgt := 69) hx hb dX2_fewestBytes_28 (by decide) (fun c28 => ?_) (fun c28 => ?_)
        · refine lv_iload_n hx hb dX2_fewestBytes_69 rfl (lv_at hl 1 rfl) ?_
          exact W.iret (v := (nI n)) hx hb hr (fun tS htS hW => ⟨(nI n), rfl, ⟨n, rfl, hv ▸ (by first | exact few_exit hg hn1 hs (Or.inr (Or.inr (few_out (hg _) hs (by rw [← e54, ← e59]; exact c60)))) | exact few_exit hg hn1 hs (Or.inr (Or.inl (fun z => c40 (by rw [z])))) | exact few_exit hg hn1 hs (Or.inl ((nI_le1 (by omega)).mp c28))), hn, hv⟩, htS⟩) t_nil dX2_fewestBytes_70
        · have hn2 : 2 ≤ n := Nat.lt_of_not_le (fun h => c28 ((nI_le1 (by omega)).mpr h))
          refine lv_aload_n hx hb dX2_fewestBytes_31 rfl (lv_at hl 0 rfl) ?_
          refine va_get (D := (dC, dI)) (ci := 2) (v := .ref q1) (C := RX2) (T := TX2) (N := 1) hx hb hts hinX2 hown hK hP 0 rfl rfl 0 (by decide) (hts (.fieldLink RX2 9 "NumberContents$Wide" "items" "[I") (by decide +kernel)) (fun _ h9 => h9) rfl dX2_fewestBytes_32 ?_
          refine lv_iload_n hx hb dX2_fewestBytes_35 rfl (lv_at hl 1 rfl) ?_
          refine lv_iconst (v := 1) hx hb dX2_fewestBytes_36 (by decide) ?_
          refine lv_isub hx hb dX2_fewestBytes_37 ?_
          refine lv_topi (fun x37 e37 => ?_)
          obtain rfl : x37 = nI (n - 1) := e37.trans (nI_m1 (by omega))
          refine va_iald hx hb hK hP 1 0 rfl rfl (vp_in_nI (by omega) (by omega)) dX2_fewestBytes_38 ?_
          refine lv_topi (fun x38 e38 => ?_)
          obtain rfl : x38 = nI (g (n - 1)) := e38.trans (atg (by omega))
          refine lv_iload_n hx hb dX2_fewestBytes_39 rfl (lv_at hl 2 rfl) ?_
          refine lv_icmp_ne (tgt := 69) hx hb dX2_fewestBytes_40 (by decide) (fun c40 => ?_) (fun c40 => ?_)
          · refine lv_iload_n hx hb dX2_fewestBytes_69 rfl (lv_at hl 1 rfl) ?_
            exact W.iret (v := (nI n)) hx hb hr (fun tS htS hW => ⟨(nI n), rfl, ⟨n, rfl, hv ▸ (by first | exact few_exit hg hn1 hs (Or.inr (Or.inr (few_out (hg _) hs (by rw [← e54, ← e59]; exact c60)))) | exact few_exit hg hn1 hs (Or.inr (Or.inl (fun z => c40 (by rw [z])))) | exact few_exit hg hn1 hs (Or.inl ((nI_le1 (by omega)).mp c28))), hn, hv⟩, htS⟩) t_nil dX2_fewestBytes_70
          · refine lv_aload_n hx hb dX2_fewestBytes_43 rfl (lv_at hl 0 rfl) ?_
            refine va_get (D := (dC, dI)) (ci := 2) (v := .ref q1) (C := RX2) (T := TX2) (N := 1) hx hb hts hinX2 hown hK hP 0 rfl rfl 0 (by decide) (hts (.fieldLink RX2 9 "NumberContents$Wide" "items" "[I") (by decide +kernel)) (fun _ h9 => h9) rfl dX2_fewestBytes_44 ?_
            refine lv_iload_n hx hb dX2_fewestBytes_47 rfl (lv_at hl 1 rfl) ?_
            refine lv_iconst (v := 2) hx hb dX2_fewestBytes_48 (by decide) ?_
            refine lv_isub hx hb dX2_fewestBytes_49 ?_
            refine lv_topi (fun x49 e49 => ?_)
            obtain rfl : x49 = nI (n - 2) := e49.trans (nI_m2 (by omega))
            refine va_iald hx hb hK hP 1 0 rfl rfl (vp_in_nI (by omega) (by omega)) dX2_fewestBytes_50 ?_
            refine lv_topi (fun x50 e50 => ?_)
            obtain rfl : x50 = nI (g (n - 2)) := e50.trans (atg (by omega))
            refine lv_sipush (v := 128) hx hb dX2_fewestBytes_51 (by decide) ?_
            refine lv_iand hx hb dX2_fewestBytes_54 ?_
            refine lv_topi (fun x54 e54 => ?_)
            refine lv_iload_n hx hb dX2_fewestBytes_55 rfl (lv_at hl 2 rfl) ?_
            refine lv_sipush (v := 128) hx hb dX2_fewestBytes_56 (by decide) ?_
            refine lv_iand hx hb dX2_fewestBytes_59 ?_
            refine lv_topi (fun x59 e59 => ?_)
            refine lv_icmp_ne (tgt := 69) hx hb dX2_fewestBytes_60 (by decide) (fun c60 => ?_) (fun c60 => ?_)
            · refine lv_iload_n hx hb dX2_fewestBytes_69 rfl (lv_at hl 1 rfl) ?_
              exact W.iret (v := (nI n)) hx hb hr (fun tS htS hW => ⟨(nI n), rfl, ⟨n, rfl, hv ▸ (by first | exact few_exit hg hn1 hs (Or.inr (Or.inr (few_out (hg _) hs (by rw [← e54, ← e59]; exact c60)))) | exact few_exit hg hn1 hs (Or.inr (Or.inl (fun z => c40 (by rw [z])))) | exact few_exit hg hn1 hs (Or.inl ((nI_le1 (by omega)).mp c28))), hn, hv⟩, htS⟩) t_nil dX2_fewestBytes_70
            · obtain ⟨x63, e63⟩ : ∃ zz9 : Int32, zz9 = (nI n) + (-1) := ⟨_, rfl⟩
              refine lv_iinc (v := x63) (lv' := [(1, .int x63), (0, .ref h0), (2, .int (nI fl))]) hx hb dX2_fewestBytes_63 hl (k := 1) rfl (by rw [e63]; rfl) (by decide) rfl (fun ls hl => ?_)
              obtain rfl : x63 = nI (n - 1) := e63.trans (sb_m1 (by omega))
              refine lv_goto (tgt := 26) hx hb dX2_fewestBytes_66 (by decide) ?_
              have hq := few_in (hg (n - 2)) hs (by rw [← e54, ← e59]; exact c60)
              exact ih26 (n - 1) fl (by omega) (by omega) (by omega) hq ((sv_step hn2 hq (nI_inj (hg _) (by omega) c40)).trans hv) _ (lv_sub hl [1, 0, 2] rfl)
    exact LP26 _ 204 0 (Nat.lt_succ_self _) (by omega) (by omega) (Or.inr ⟨rfl, fb_lt (hg 203) c15⟩) rfl _ (lv_sub hl [2, 1, 0] rfl)
  · refine lv_sipush (v := (nI 255)) hx hb dX2_fewestBytes_18 (by decide) ?_
    refine lv_goto (tgt := 25) hx hb dX2_fewestBytes_21 (by decide) ?_
    refine lv_istore_n (lv' := [(2, .int (nI 255)), (1, .int (nI 204)), (0, .ref h0)]) hx hb dX2_fewestBytes_25 rfl hl (by decide) rfl (fun ls hl => ?_)
    have LP26 : ∀ (n9 : Nat) (n fl : Nat) (hm : n < n9) (hn1 : 1 ≤ n) (hn : n ≤ 204) (hs : (fl = 255 ∧ 128 ≤ g (n - 1)) ∨ (fl = 0 ∧ g (n - 1) < 128)) (hv : sv g n = sv g 204) (ls : Array Slot) (hl : lv_has ls 3 [(0, .ref h0), (1, .int (nI n)), (2, .int (nI fl))]), W p l e (headSpec wsX2_fewestBytes ({ frames := 0, cells := 0, slots := 0, locals := 0 } : Room)).room s m ([.ref h0]).toArray below meth c s.heap [] 0 0 (MQ below (vp_Si (fun r : Int32 => ∃ k : Nat, r = nI k ∧ isz (sv g 204) k ∧ k ≤ 204 ∧ sv g k = sv g 204)) ([.ref h0]).toArray s 0 0 (fun _ => False)) (F0 m 26 ls []) := by
      intro n9
      induction n9 with
      | zero => intro n fl hm; exact absurd hm (Nat.not_lt_zero _)
      | succ n9 ih =>
        intro n fl hm hn1 hn hs hv ls hl
        have ih26 := ih
        refine lv_iload_n hx hb dX2_fewestBytes_26 rfl (lv_at hl 1 rfl) ?_
        refine lv_iconst (v := 1) hx hb dX2_fewestBytes_27 (by decide) ?_
        refine lv_icmp_le (tgt := 69) hx hb dX2_fewestBytes_28 (by decide) (fun c28 => ?_) (fun c28 => ?_)
        · refine lv_iload_n hx hb dX2_fewestBytes_69 rfl (lv_at hl 1 rfl) ?_
          exact W.iret (v := (nI n)) hx hb hr (fun tS htS hW => ⟨(nI n), rfl, ⟨n, rfl, hv ▸ (by first | exact few_exit hg hn1 hs (Or.inr (Or.inr (few_out (hg _) hs (by rw [← e54, ← e59]; exact c60)))) | exact few_exit hg hn1 hs (Or.inr (Or.inl (fun z => c40 (by rw [z])))) | exact few_exit hg hn1 hs (Or.inl ((nI_le1 (by omega)).mp c28))), hn, hv⟩, htS⟩) t_nil dX2_fewestBytes_70
        · have hn2 : 2 ≤ n := Nat.lt_of_not_le (fun h => c28 ((nI_le1 (by omega)).mpr h))
          refine lv_aload_n hx hb dX2_fewestBytes_31 rfl (lv_at hl 0 rfl) ?_
          refine va_get (D := (dC, dI)) (ci := 2) (v := .ref q1) (C := RX2) (T := TX2) (N := 1) hx hb hts hinX2 hown hK hP 0 rfl rfl 0 (by decide) (hts (.fieldLink RX2 9 "NumberContents$Wide" "items" "[I") (by decide +kernel)) (fun _ h9 => h9) rfl dX2_fewestBytes_32 ?_
          refine lv_iload_n hx hb dX2_fewestBytes_35 rfl (lv_at hl 1 rfl) ?_
          refine lv_iconst (v := 1) hx hb dX2_fewestBytes_36 (by decide) ?_
          refine lv_isub hx hb dX2_fewestBytes_37 ?_
          refine lv_topi (fun x37 e37 => ?_)
          obtain rfl : x37 = nI (n - 1) := e37.trans (nI_m1 (by omega))
          refine va_iald hx hb hK hP 1 0 rfl rfl (vp_in_nI (by omega) (by omega)) dX2_fewestBytes_38 ?_
          refine lv_topi (fun x38 e38 => ?_)
          obtain rfl : x38 = nI (g (n - 1)) := e38.trans (atg (by omega))
          refine lv_iload_n hx hb dX2_fewestBytes_39 rfl (lv_at hl 2 rfl) ?_
          refine lv_icmp_ne (tgt := 69) hx hb dX2_fewestBytes_40 (by decide) (fun c40 => ?_) (fun c40 => ?_)
          · refine lv_iload_n hx hb dX2_fewestBytes_69 rfl (lv_at hl 1 rfl) ?_
            exact W.iret (v := (nI n)) hx hb hr (fun tS htS hW => ⟨(nI n), rfl, ⟨n, rfl, hv ▸ (by first | exact few_exit hg hn1 hs (Or.inr (Or.inr (few_out (hg _) hs (by rw [← e54, ← e59]; exact c60)))) | exact few_exit hg hn1 hs (Or.inr (Or.inl (fun z => c40 (by rw [z])))) | exact few_exit hg hn1 hs (Or.inl ((nI_le1 (by omega)).mp c28))), hn, hv⟩, htS⟩) t_nil dX2_fewestBytes_70
          · refine lv_aload_n hx hb dX2_fewestBytes_43 rfl (lv_at hl 0 rfl) ?_
            refine va_get (D := (dC, dI)) (ci := 2) (v := .ref q1) (C := RX2) (T := TX2) (N := 1) hx hb hts hinX2 hown hK hP 0 rfl rfl 0 (by decide) (hts (.fieldLink RX2 9 "NumberContents$Wide" "items" "[I") (by decide +kernel)) (fun _ h9 => h9) rfl dX2_fewestBytes_44 ?_
            refine lv_iload_n hx hb dX2_fewestBytes_47 rfl (lv_at hl 1 rfl) ?_
            refine lv_iconst (v := 2) hx hb dX2_fewestBytes_48 (by decide) ?_
            refine lv_isub hx hb dX2_fewestBytes_49 ?_
            refine lv_topi (fun x49 e49 => ?_)
            obtain rfl : x49 = nI (n - 2) := e49.trans (nI_m2 (by omega))
            refine va_iald hx hb hK hP 1 0 rfl rfl (vp_in_nI (by omega) (by omega)) dX2_fewestBytes_50 ?_
            refine lv_topi (fun x50 e50 => ?_)
            obtain rfl : x50 = nI (g (n - 2)) := e50.trans (atg (by omega))
            refine lv_sipush (v := 128) hx hb dX2_fewestBytes_51 (by decide) ?_
            refine lv_iand hx hb dX2_fewestBytes_54 ?_
            refine lv_topi (fun x54 e54 => ?_)
            refine lv_iload_n hx hb dX2_fewestBytes_55 rfl (lv_at hl 2 rfl) ?_
            refine lv_sipush (v := 128) hx hb dX2_fewestBytes_56 (by decide) ?_
            refine lv_iand hx hb dX2_fewestBytes_59 ?_
            refine lv_topi (fun x59 e59 => ?_)
            refine lv_icmp_ne (tgt := 69) hx hb dX2_fewestBytes_60 (by decide) (fun c60 => ?_) (fun c60 => ?_)
            · refine lv_iload_n hx hb dX2_fewestBytes_69 rfl (lv_at hl 1 rfl) ?_
              exact W.iret (v := (nI n)) hx hb hr (fun tS htS hW => ⟨(nI n), rfl, ⟨n, rfl, hv ▸ (by first | exact few_exit hg hn1 hs (Or.inr (Or.inr (few_out (hg _) hs (by rw [← e54, ← e59]; exact c60)))) | exact few_exit hg hn1 hs (Or.inr (Or.inl (fun z => c40 (by rw [z])))) | exact few_exit hg hn1 hs (Or.inl ((nI_le1 (by omega)).mp c28))), hn, hv⟩, htS⟩) t_nil dX2_fewestBytes_70
            · obtain ⟨x63, e63⟩ : ∃ zz9 : Int32, zz9 = (nI n) + (-1) := ⟨_, rfl⟩
              refine lv_iinc (v := x63) (lv' := [(1, .int x63), (0, .ref h0), (2, .int (nI fl))]) hx hb dX2_fewestBytes_63 hl (k := 1) rfl (by rw [e63]; rfl) (by decide) rfl (fun ls hl => ?_)
              obtain rfl : x63 = nI (n - 1) := e63.trans (sb_m1 (by omega))
              refine lv_goto (tgt := 26) hx hb dX2_fewestBytes_66 (by decide) ?_
              have hq := few_in (hg (n - 2)) hs (by rw [← e54, ← e59]; exact c60)
              exact ih26 (n - 1) fl (by omega) (by omega) (by omega) hq ((sv_step hn2 hq (nI_inj (hg _) (by omega) c40)).trans hv) _ (lv_sub hl [1, 0, 2] rfl)
    exact LP26 _ 204 255 (Nat.lt_succ_self _) (by omega) (by omega) (Or.inl ⟨rfl, fb_ge (hg 203) c15⟩) rfl _ (lv_sub hl [2, 1, 0] rfl)

theorem nI_le0 {k : Nat} (hk : k < 2 ^ 31) : nI k ≤ 0 ↔ k ≤ 0 := nI_leI (b := 0) hk (by decide)

set_option maxHeartbeats 4000000 in
set_option maxRecDepth 100000 in
theorem c_X2_bytesUsed (l : Launch) (dC : Nat → ClassId) (dI : Nat → Nat → Nat) (cI : ClassId) (h0 q1 : Nat) (g : Nat → Nat) (n : Nat) (hg : ∀ j, g j < 256) (hn : n ≤ 204) : Met l yX2_bytesUsed wsX2_bytesUsed ({ frames := 1, cells := 0, slots := 0, locals := 16 } : Room) (va_Pc [.ref h0, .int (nI n)] (fun U => va_P (dC, dI) vwCl [(h0, .inr (2, [.ref q1])), (q1, .inl (cI, 204, .inl (fun j => nI (g j))))] U.heap ∧ va_K (dC, dI) vwCl [(cI, .int)] U)) (vp_Si (fun r : Int32 => ∃ k : Nat, r = nI k ∧ k ≤ n ∧ (∀ j, k ≤ j → j < n → g j = 0) ∧ (k = 0 ∨ g (k - 1) ≠ 0))) 0 0 (fun _ => False) := by
  refine Met.ofW (cc := cX2_bytesUsed) (maxL := 3) (ret := (some .int)) (by decide) rfl ?_
  intro p e s m args below meth c s₁ B hml hv
  obtain ⟨rfl, hP, hK⟩ := hv
  have hx := B.exec
  have hb := B.bytes
  have hr := B.returns
  have hts := atoms_spec (ws := wsX2_bytesUsed) B.pre
  have hown : s.vm.findClass RX2 = some m.cls := findClass_of_methodNamed B.named
  have hlocks := B.notSynchronized
  have hinX2 : ∀ w ∈ wsX20, w ∈ wsX2_bytesUsed := by decide +kernel
  have hl := lv_entry ([.ref h0, .int (nI n)]) (n := 3) (Nat.le_of_ble_eq_true rfl)
  rw [lg_entry_eq]
  generalize (lg_sl ([.ref h0, .int (nI n)]) ++ List.replicate (3 - (lg_sl ([.ref h0, .int (nI n)])).length) Slot.unset).toArray = ls at hl ⊢
  have hl : lv_has ls 3 [(0, .ref h0), (1, .int (nI n))] := hl
  refine lv_iload_n hx hb dX2_bytesUsed_0 rfl (lv_at hl 1 rfl) ?_
  refine lv_sipush (v := (nI 204)) hx hb dX2_bytesUsed_1 (by decide) ?_
  refine va_mmin hx hb (hml.trans hl.1.symm) hown (hts (.methodLink RX2 29 Lib.Math.min.name) (by decide +kernel)) (hts (.static Lib.Math.min.name) (by decide +kernel)) (hts (.initialized "java/lang/Math") (by decide +kernel)) (hts (.code Lib.Math.min.name Lib.Math.min.code 2 (some .int)) (by decide +kernel)) (Nat.le_of_ble_eq_true rfl) (Nat.le_of_ble_eq_true rfl) (Nat.le_of_ble_eq_true rfl) (Nat.le_of_ble_eq_true rfl) dX2_bytesUsed_4 ?_
  refine lv_topi (fun x4 e4 => ?_)
  obtain rfl : x4 = nI n := e4.trans (if_neg (nI_nlt (by omega) (by omega)))
  refine lv_istore_n (lv' := [(2, .int (nI n)), (0, .ref h0), (1, .int (nI n))]) hx hb dX2_bytesUsed_7 rfl hl (by decide) rfl (fun ls hl => ?_)
  have LP8 : ∀ (n9 : Nat) (k : Nat) (hm : k < n9) (hk : k ≤ n) (ha : ∀ j, k ≤ j → j < n → g j = 0) (ls : Array Slot) (hl : lv_has ls 3 [(0, .ref h0), (1, .int (nI n)), (2, .int (nI k))]), W p l e (headSpec wsX2_bytesUsed ({ frames := 1, cells := 0, slots := 0, locals := 16 } : Room)).room s m ([.ref h0, .int (nI n)]).toArray below meth c s.heap [] 0 0 (MQ below (vp_Si (fun r : Int32 => ∃ k : Nat, r = nI k ∧ k ≤ n ∧ (∀ j, k ≤ j → j < n → g j = 0) ∧ (k = 0 ∨ g (k - 1) ≠ 0))) ([.ref h0, .int (nI n)]).toArray s 0 0 (fun _ => False)) (F0 m 8 ls []) := by
    intro n9
    induction n9 with
    | zero => intro k hm; exact absurd hm (Nat.not_lt_zero _)
    | succ n9 ih =>
      intro k hm hk ha ls hl
      have ih8 := ih
      refine lv_iload_n hx hb dX2_bytesUsed_8 rfl (lv_at hl 2 rfl) ?_
      refine lv_if_le (tgt := 29) hx hb dX2_bytesUsed_9 (by decide) (fun c9 => ?_) (fun c9 => ?_)
      · refine lv_iload_n hx hb dX2_bytesUsed_29 rfl (lv_at hl 2 rfl) ?_
        exact W.iret (v := (nI k)) hx hb hr (fun tS htS hW => ⟨(nI k), rfl, ⟨k, rfl, hk, ha, (by first | exact Or.inr (fun z => c20 (by rw [z]; rfl)) | exact Or.inl (by have := (nI_le0 (by omega)).mp c9; omega))⟩, htS⟩) t_nil dX2_bytesUsed_30
      · have hk1 : 1 ≤ k := Nat.lt_of_not_le (fun h => c9 ((nI_le0 (by omega)).mpr h))
        refine lv_aload_n hx hb dX2_bytesUsed_12 rfl (lv_at hl 0 rfl) ?_
        refine va_get (D := (dC, dI)) (ci := 2) (v := .ref q1) (C := RX2) (T := TX2) (N := 1) hx hb hts hinX2 hown hK hP 0 rfl rfl 0 (by decide) (hts (.fieldLink RX2 9 "NumberContents$Wide" "items" "[I") (by decide +kernel)) (fun _ h9 => h9) rfl dX2_bytesUsed_13 ?_
        refine lv_iload_n hx hb dX2_bytesUsed_16 rfl (lv_at hl 2 rfl) ?_
        refine lv_iconst (v := 1) hx hb dX2_bytesUsed_17 (by decide) ?_
        refine lv_isub hx hb dX2_bytesUsed_18 ?_
        refine lv_topi (fun x18 e18 => ?_)
        obtain rfl : x18 = nI (k - 1) := e18.trans (nI_m1 (by omega))
        refine va_iald hx hb hK hP 1 0 rfl rfl (vp_in_nI (by omega) (by omega)) dX2_bytesUsed_19 ?_
        refine lv_topi (fun x19 e19 => ?_)
        obtain rfl : x19 = nI (g (k - 1)) := e19.trans (atg (by omega))
        refine lv_if_ne (tgt := 29) hx hb dX2_bytesUsed_20 (by decide) (fun c20 => ?_) (fun c20 => ?_)
        · refine lv_iload_n hx hb dX2_bytesUsed_29 rfl (lv_at hl 2 rfl) ?_
          exact W.iret (v := (nI k)) hx hb hr (fun tS htS hW => ⟨(nI k), rfl, ⟨k, rfl, hk, ha, (by first | exact Or.inr (fun z => c20 (by rw [z]; rfl)) | exact Or.inl (by have := (nI_le0 (by omega)).mp c9; omega))⟩, htS⟩) t_nil dX2_bytesUsed_30
        · obtain ⟨x23, e23⟩ : ∃ zz9 : Int32, zz9 = (nI k) + (-1) := ⟨_, rfl⟩
          refine lv_iinc (v := x23) (lv' := [(2, .int x23), (0, .ref h0), (1, .int (nI n))]) hx hb dX2_bytesUsed_23 hl (k := 2) rfl (by rw [e23]; rfl) (by decide) rfl (fun ls hl => ?_)
          obtain rfl : x23 = nI (k - 1) := e23.trans (sb_m1 (by omega))
          refine lv_goto (tgt := 8) hx hb dX2_bytesUsed_26 (by decide) ?_
          exact ih8 (k - 1) (by omega) (by omega) (fun j h1 h2 => by rcases Nat.lt_or_ge j k with h | h; exact (show j = k - 1 by omega) ▸ (nI_inj (hg _) (by omega) c20); exact ha j h h2) _ (lv_sub hl [1, 2, 0] rfl)
  exact LP8 _ n (Nat.lt_succ_self _) (by omega) (fun j h1 h2 => absurd h2 (by omega)) _ (lv_sub hl [1, 2, 0] rfl)

theorem bv_cons (g : Nat → Nat) (n : Nat) : bv g (n + 1) = g 0 + 256 * bv (fun j => g (j + 1)) n := by
  induction n with
  | zero => show 0 + g 0 * 256 ^ 0 = _; simp [bv]
  | succ n ih =>
    rw [bv_s, ih, bv_s (fun j => g (j + 1)) n, pw_s]
    generalize 256 ^ n = P
    grind
theorem dv_step {g g2 : Nat → Nat} {i n rs : Nat} (hi1 : 1 ≤ i) (hi : i ≤ n) (hlo : ∀ j, j < i → g2 j = g j) (hv : bv (fun j => g (i + j)) (n - i) = 1000000000 * bv (fun j => g2 (i + j)) (n - i) + rs) :
    bv (fun j => g (i - 1 + j)) (n - (i - 1)) = 1000000000 * bv (fun j => va_up g2 (i - 1) ((rs * 256 + g2 (i - 1)) / 1000000000) (i - 1 + j)) (n - (i - 1)) + (rs * 256 + g2 (i - 1)) % 1000000000 := by
  obtain ⟨k, rfl⟩ : ∃ k, i = k + 1 := ⟨i - 1, by omega⟩
  obtain ⟨d, rfl⟩ : ∃ d, n = k + 1 + d := ⟨n - (k + 1), by omega⟩
  rw [show k + 1 + d - (k + 1) = d from by omega] at hv
  rw [Nat.add_sub_cancel, show k + 1 + d - k = d + 1 from by omega, bv_cons, bv_cons, Nat.add_zero, va_up_self]
  have e1 : bv (fun j => g (k + (j + 1))) d = bv (fun j => g (k + 1 + j)) d := bv_congr (fun j _ => by rw [show k + (j + 1) = k + 1 + j from by omega])
  have e2 : bv (fun j => va_up g2 k ((rs * 256 + g2 k) / 1000000000) (k + (j + 1))) d = bv (fun j => g2 (k + 1 + j)) d := bv_congr (fun j _ => by rw [va_up_ne _ _ (by omega), show k + (j + 1) = k + 1 + j from by omega])
  rw [e1, e2, hv, hlo k (by omega)]
  have := Nat.div_add_mod (rs * 256 + g k) 1000000000
  generalize bv (fun j => g2 (k + 1 + j)) d = Q at *
  omega

theorem dc_out {x : Int32} {i : Nat} (h : x = nI i - 1) (hi : i < 2 ^ 31) (hx : x < 0) : i = 0 := by
  rcases Nat.eq_zero_or_pos i with h0 | h0
  · exact h0
  · rw [h, nI_m1 h0] at hx
    exact absurd hx (nI_pos (by omega))

set_option maxHeartbeats 4000000 in
set_option maxRecDepth 100000 in
theorem c_X2_divideByChunk (l : Launch) (dC : Nat → ClassId) (dI : Nat → Nat → Nat) (cI : ClassId) (h0 q1 : Nat) (g : Nat → Nat) (n : Nat) (sz : Nat) (hg : ∀ j, g j < 256) (hn : n ≤ 204) : Met l yX2_divideByChunk wsX2_divideByChunk ({ frames := 1, cells := 0, slots := 0, locals := 16 } : Room) (va_Pc [.ref h0, .int (nI n)] (fun U => U.heap.size = sz ∧ va_P (dC, dI) vwCl [(h0, .inr (2, [.ref q1])), (q1, .inl (cI, 204, .inl (fun j => nI (g j))))] U.heap ∧ va_K (dC, dI) vwCl [(cI, .int)] U ∧ va_D (fun _ => True) [(h0, .inr (2, [.ref q1])), (q1, .inl (cI, 204, .inl (fun j => nI (g j))))])) (va_Qi (fun (r : Int32) (g3 : Nat → Nat) => ∃ rs : Nat, r = nI rs ∧ rs < 1000000000 ∧ bv g n = 1000000000 * bv g3 n + rs ∧ (∀ j, g3 j < 256) ∧ (∀ j, n ≤ j → g3 j = g j)) (fun (g3 : Nat → Nat) (tS : State) => va_P (dC, dI) vwCl [(h0, .inr (2, [.ref q1])), (q1, .inl (cI, 204, .inl (fun j => nI (g3 j))))] tS.heap ∧ va_K (dC, dI) vwCl [(cI, .int)] tS ∧ va_D (va_A [(h0, .inr (2, [.ref q1])), (q1, .inl (cI, 204, .inl (fun j => nI (g j))))] sz) [(h0, .inr (2, [.ref q1])), (q1, .inl (cI, 204, .inl (fun j => nI (g3 j))))]) (va_A [(h0, .inr (2, [.ref q1])), (q1, .inl (cI, 204, .inl (fun j => nI (g j))))] sz)) 0 0 (va_A [(h0, .inr (2, [.ref q1])), (q1, .inl (cI, 204, .inl (fun j => nI (g j))))] sz) := by
  refine Met.ofW (cc := cX2_divideByChunk) (maxL := 7) (ret := (some .int)) (by decide) rfl ?_
  intro p e s m args below meth c s₁ B hml hv
  obtain ⟨rfl, hsz, hP, hK, hD0⟩ := hv
  have hx := B.exec
  have hb := B.bytes
  have hr := B.returns
  have hts := atoms_spec (ws := wsX2_divideByChunk) B.pre
  have hown : s.vm.findClass RX2 = some m.cls := findClass_of_methodNamed B.named
  have hlocks := B.notSynchronized
  subst hsz
  have hD := hD0.self (sz := s.heap.size)
  generalize hAe : va_A [(h0, .inr (2, [.ref q1])), (q1, .inl (cI, 204, .inl (fun j => nI (g j))))] s.heap.size = A at hD ⊢
  have hA : ∀ q : Nat, s.heap.size ≤ q → A q := fun q h => by rw [← hAe]; exact Or.inr h
  have hS : va_S A s.heap s.heap [] := va_S.rf
  have hinX2 : ∀ w ∈ wsX20, w ∈ wsX2_divideByChunk := by decide +kernel
  have hl := lv_entry ([.ref h0, .int (nI n)]) (n := 7) (Nat.le_of_ble_eq_true rfl)
  rw [lg_entry_eq]
  generalize (lg_sl ([.ref h0, .int (nI n)]) ++ List.replicate (7 - (lg_sl ([.ref h0, .int (nI n)])).length) Slot.unset).toArray = ls at hl ⊢
  have hl : lv_has ls 7 [(0, .ref h0), (1, .int (nI n))] := hl
  refine lv_lconst (v := (lN 0)) hx hb dX2_divideByChunk_0 (by decide) ?_
  refine lv_lstore_n (lv' := [(2, .long (lN 0)), (0, .ref h0), (1, .int (nI n))]) hx hb dX2_divideByChunk_1 rfl hl (by decide) rfl (fun ls hl => ?_)
  refine lv_iload_n hx hb dX2_divideByChunk_2 rfl (lv_at hl 2 rfl) ?_
  refine lv_sipush (v := (nI 204)) hx hb dX2_divideByChunk_3 (by decide) ?_
  refine va_mmin hx hb (hml.trans hl.1.symm) hown (hts (.methodLink RX2 29 Lib.Math.min.name) (by decide +kernel)) (hts (.static Lib.Math.min.name) (by decide +kernel)) (hts (.initialized "java/lang/Math") (by decide +kernel)) (hts (.code Lib.Math.min.name Lib.Math.min.code 2 (some .int)) (by decide +kernel)) (Nat.le_of_ble_eq_true rfl) (Nat.le_of_ble_eq_true rfl) (Nat.le_of_ble_eq_true rfl) (Nat.le_of_ble_eq_true rfl) dX2_divideByChunk_6 ?_
  refine lv_topi (fun x6 e6 => ?_)
  obtain rfl : x6 = nI n := e6.trans (if_neg (nI_nlt (by omega) (by omega)))
  refine lv_iconst (v := 1) hx hb dX2_divideByChunk_9 (by decide) ?_
  refine lv_isub hx hb dX2_divideByChunk_10 ?_
  refine lv_topi (fun x10 e10 => ?_)
  refine lv_istore (lv' := [(4, .int x10), (2, .long (lN 0)), (0, .ref h0), (1, .int (nI n))]) hx hb dX2_divideByChunk_11 hl (by decide) rfl (fun ls hl => ?_)
  have LP13 : ∀ (n9 : Nat) (i : Nat) (x : Int32) (g2 : Nat → Nat) (rs : Nat) (hm : i < n9) (hi : i ≤ n) (hxi : x = nI i - 1) (hr2 : rs < 1000000000) (hg2 : ∀ j, g2 j < 256) (hlo : ∀ j, j < i → g2 j = g j) (hhi : ∀ j, n ≤ j → g2 j = g j) (hv : bv (fun j => g (i + j)) (n - i) = 1000000000 * bv (fun j => g2 (i + j)) (n - i) + rs) (H : Heap) (locs : List Loc) (ls : Array Slot) (hP : va_P (dC, dI) vwCl [(h0, .inr (2, [.ref q1])), (q1, .inl (cI, 204, .inl (fun j => nI (g2 j))))] H) (hD : va_D A [(h0, .inr (2, [.ref q1])), (q1, .inl (cI, 204, .inl (fun j => nI (g2 j))))]) (hS : va_S A s.heap H locs) (hl : lv_has ls 7 [(0, .ref h0), (1, .int (nI n)), (2, .long (lN rs)), (4, .int x)]), W p l e (headSpec wsX2_divideByChunk ({ frames := 1, cells := 0, slots := 0, locals := 16 } : Room)).room s m ([.ref h0, .int (nI n)]).toArray below meth c H locs 0 0 (MQ below (va_Qi (fun (r : Int32) (g3 : Nat → Nat) => ∃ rs : Nat, r = nI rs ∧ rs < 1000000000 ∧ bv g n = 1000000000 * bv g3 n + rs ∧ (∀ j, g3 j < 256) ∧ (∀ j, n ≤ j → g3 j = g j)) (fun (g3 : Nat → Nat) (tS : State) => va_P (dC, dI) vwCl [(h0, .inr (2, [.ref q1])), (q1, .inl (cI, 204, .inl (fun j => nI (g3 j))))] tS.heap ∧ va_K (dC, dI) vwCl [(cI, .int)] tS ∧ va_D A [(h0, .inr (2, [.ref q1])), (q1, .inl (cI, 204, .inl (fun j => nI (g3 j))))]) A) ([.ref h0, .int (nI n)]).toArray s 0 0 A) (F0 m 13 ls []) := by
    intro n9
    induction n9 with
    | zero => intro i x g2 rs hm; exact absurd hm (Nat.not_lt_zero _)
    | succ n9 ih =>
      intro i x g2 rs hm hi hxi hr2 hg2 hlo hhi hv H locs ls hP hD hS hl
      have ih13 := ih
      refine lv_iload hx hb dX2_divideByChunk_13 (lv_at hl 3 rfl) ?_
      refine lv_if_lt (tgt := 61) hx hb dX2_divideByChunk_15 (by decide) (fun c15 => ?_) (fun c15 => ?_)
      · refine lv_lload_n hx hb dX2_divideByChunk_61 rfl (lv_at hl 2 rfl) ?_
        refine lv_l2i hx hb dX2_divideByChunk_62 rfl ?_
        refine lv_topi (fun x62 e62 => ?_)
        obtain rfl : x62 = nI rs := e62.trans (lN_i _)
        have hP9 := hP.sub (ws' := [(h0, .inr (2, [.ref q1])), (q1, .inl (cI, 204, .inl (fun j => nI (g2 j))))]) [0, 1] rfl
        have hD9 := hD.sub (ws' := [(h0, .inr (2, [.ref q1])), (q1, .inl (cI, 204, .inl (fun j => nI (g2 j))))]) [0, 1] (by decide) rfl
        have hK9 := hK.sub (tys' := [(cI, .int)]) [0] rfl
        exact W.iret (v := (nI rs)) hx hb hr (fun tS htS hW => ⟨⟨(nI rs), g2, rfl, (by have he : i = 0 := dc_out hxi (by omega) c15; subst he; simp only [Nat.zero_add, Nat.sub_zero] at hv; exact ⟨rs, rfl, hr2, hv, hg2, hhi⟩), by rw [htS]; exact hP9, va_K.moved hW.alike hK9, hD9⟩, hS.F htS⟩) hS.2.2 dX2_divideByChunk_63
      · have hi1 : 1 ≤ i := by rcases Nat.eq_zero_or_pos i with h | h; subst h; exact absurd (by rw [hxi]; decide) c15; exact h
        obtain rfl : x = nI (i - 1) := hxi.trans (nI_m1 hi1)
        refine lv_lload_n hx hb dX2_divideByChunk_18 rfl (lv_at hl 2 rfl) ?_
        refine lv_ldc2 (v := 256) hx hb hown (hts (.constantLong RX2 35 (256)) (by decide +kernel)) dX2_divideByChunk_19 ?_
        refine lv_lmul hx hb dX2_divideByChunk_22 ?_
        refine lv_topl (fun x22 e22 => ?_)
        obtain rfl : x22 = lN (rs * 256) := e22.trans (lN_mul rs 256)
        refine lv_aload_n hx hb dX2_divideByChunk_23 rfl (lv_at hl 0 rfl) ?_
        refine va_get (D := (dC, dI)) (ci := 2) (v := .ref q1) (C := RX2) (T := TX2) (N := 1) hx hb hts hinX2 hown hK hP 0 rfl rfl 0 (by decide) (hts (.fieldLink RX2 9 "NumberContents$Wide" "items" "[I") (by decide +kernel)) (fun _ h9 => h9) rfl dX2_divideByChunk_24 ?_
        refine lv_iload hx hb dX2_divideByChunk_27 (lv_at hl 3 rfl) ?_
        refine va_iald hx hb hK hP 1 0 rfl rfl (vp_in_nI (by omega) (by omega)) dX2_divideByChunk_29 ?_
        refine lv_topi (fun x29 e29 => ?_)
        obtain rfl : x29 = nI (g2 (i - 1)) := e29.trans (atg (by omega))
        refine lv_i2l hx hb dX2_divideByChunk_30 rfl ?_
        refine lv_topl (fun x30 e30 => ?_)
        obtain rfl : x30 = lN (g2 (i - 1)) := e30.trans (nI_l (by have := hg2 (i - 1); omega))
        refine lv_ladd hx hb dX2_divideByChunk_31 ?_
        refine lv_topl (fun x31 e31 => ?_)
        obtain rfl : x31 = lN (rs * 256 + g2 (i - 1)) := e31.trans (lN_add _ _)
        refine lv_lstore (lv' := [(5, .long (lN (rs * 256 + g2 (i - 1)))), (0, .ref h0), (1, .int (nI n)), (2, .long (lN rs)), (4, .int (nI (i - 1)))]) hx hb dX2_divideByChunk_32 hl (by decide) rfl (fun ls hl => ?_)
        refine lv_aload_n hx hb dX2_divideByChunk_34 rfl (lv_at hl 1 rfl) ?_
        refine va_get (D := (dC, dI)) (ci := 2) (v := .ref q1) (C := RX2) (T := TX2) (N := 1) hx hb hts hinX2 hown hK hP 0 rfl rfl 0 (by decide) (hts (.fieldLink RX2 9 "NumberContents$Wide" "items" "[I") (by decide +kernel)) (fun _ h9 => h9) rfl dX2_divideByChunk_35 ?_
        refine lv_iload hx hb dX2_divideByChunk_38 (lv_at hl 4 rfl) ?_
        refine lv_lload hx hb dX2_divideByChunk_40 (lv_at hl 0 rfl) ?_
        refine lv_ldc2 (v := 1000000000) hx hb hown (hts (.constantLong RX2 37 (1000000000)) (by decide +kernel)) dX2_divideByChunk_42 ?_
        refine lv_ldiv hx hb dX2_divideByChunk_45 (by decide) ?_
        refine lv_topl (fun x45 e45 => ?_)
        obtain rfl : x45 = lN ((rs * 256 + g2 (i - 1)) / 1000000000) := e45.trans (pk_lDiv (b := 1000000000) (by have := hg2 (i - 1); omega) (by decide) (by decide))
        refine lv_l2i hx hb dX2_divideByChunk_46 rfl ?_
        refine lv_topi (fun x46 e46 => ?_)
        obtain rfl : x46 = nI ((rs * 256 + g2 (i - 1)) / 1000000000) := e46.trans (lN_i _)
        refine va_iast hx hb hK hP hD hS 1 0 rfl rfl (vp_in_nI (by omega) (by omega)) dX2_divideByChunk_47 (fun H locs hP hD hS => ?_)
        have hP : va_P (dC, dI) vwCl [(h0, .inr (2, [.ref q1])), (q1, .inl (cI, 204, .inl (upd (fun j => nI (g2 j)) (nI (i - 1)).toNatClampNeg (nI ((rs * 256 + g2 (i - 1)) / 1000000000)))))] H := hP
        have hD : va_D A [(h0, .inr (2, [.ref q1])), (q1, .inl (cI, 204, .inl (upd (fun j => nI (g2 j)) (nI (i - 1)).toNatClampNeg (nI ((rs * 256 + g2 (i - 1)) / 1000000000)))))] := hD
        obtain ⟨f47, e47⟩ : ∃ zz9 : Nat → Int32, zz9 = upd (fun j => nI (g2 j)) (nI (i - 1)).toNatClampNeg (nI ((rs * 256 + g2 (i - 1)) / 1000000000)) := ⟨_, rfl⟩
        rw [← e47] at hP hD
        obtain rfl : f47 = fun j => nI (va_up g2 (i - 1) ((rs * 256 + g2 (i - 1)) / 1000000000) j) := e47.trans (upg (by omega))
        refine lv_lload hx hb dX2_divideByChunk_48 (lv_at hl 0 rfl) ?_
        refine lv_ldc2 (v := 1000000000) hx hb hown (hts (.constantLong RX2 37 (1000000000)) (by decide +kernel)) dX2_divideByChunk_50 ?_
        refine lv_lrem hx hb dX2_divideByChunk_53 (by decide) ?_
        refine lv_topl (fun x53 e53 => ?_)
        obtain rfl : x53 = lN ((rs * 256 + g2 (i - 1)) % 1000000000) := e53.trans (pk_lRem (b := 1000000000) (by have := hg2 (i - 1); omega) (by decide) (by decide))
        refine lv_lstore_n (lv' := [(2, .long (lN ((rs * 256 + g2 (i - 1)) % 1000000000))), (5, .long (lN (rs * 256 + g2 (i - 1)))), (0, .ref h0), (1, .int (nI n)), (4, .int (nI (i - 1)))]) hx hb dX2_divideByChunk_54 rfl hl (by decide) rfl (fun ls hl => ?_)
        obtain ⟨x55, e55⟩ : ∃ zz9 : Int32, zz9 = (nI (i - 1)) + (-1) := ⟨_, rfl⟩
        refine lv_iinc (v := x55) (lv' := [(4, .int x55), (2, .long (lN ((rs * 256 + g2 (i - 1)) % 1000000000))), (5, .long (lN (rs * 256 + g2 (i - 1)))), (0, .ref h0), (1, .int (nI n))]) hx hb dX2_divideByChunk_55 hl (k := 4) rfl (by rw [e55]; rfl) (by decide) rfl (fun ls hl => ?_)
        refine lv_goto (tgt := 13) hx hb dX2_divideByChunk_58 (by decide) ?_
        have hb := hg2 (i - 1)
        exact ih13 (i - 1) x55 (va_up g2 (i - 1) ((rs * 256 + g2 (i - 1)) / 1000000000)) ((rs * 256 + g2 (i - 1)) % 1000000000) (by omega) (by omega) (e55.trans (Int32.sub_eq_add_neg _ _).symm) (Nat.mod_lt _ (by decide)) (up_lt hg2 (by omega)) (fun j h => by rw [va_up_ne _ _ (by omega)]; exact hlo j (by omega)) (fun j h => by rw [va_up_ne _ _ (by omega)]; exact hhi j h) (dv_step hi1 hi hlo hv) _ _ _ (hP.sub [0, 1] rfl) (hD.sub [0, 1] (by decide) rfl) hS (lv_sub hl [3, 4, 1, 0] rfl)
  exact LP13 _ n x10 g 0 (Nat.lt_succ_self _) (by omega) e10 (by omega) hg (fun j h => rfl) (fun j h => rfl) (by rw [Nat.sub_self]; rfl) _ _ _ (hP.sub [0, 1] rfl) (hD.sub [0, 1] (by decide) rfl) hS (lv_sub hl [2, 3, 1, 0] rfl)

theorem s_l : ∀ n, n < 32 → ((nI n &&& 31).toBitVec.smod 32).toNat = n := by decide +kernel
theorem or_add {a b k : Nat} (ha : a < 2 ^ k) (h : a + b * 2 ^ k < 2 ^ 31) : nI a ||| nI (b * 2 ^ k) = nI (a + b * 2 ^ k) := by
  apply Int32.toBitVec_inj.mp
  apply BitVec.eq_of_toNat_eq
  rw [Int32.toBitVec_or, BitVec.toNat_or, pk_tn (by omega), pk_tn (by omega), pk_tn (by omega), Nat.or_comm, Nat.mul_comm b, ← Nat.two_pow_add_eq_or_of_lt ha, Nat.add_comm]

set_option maxHeartbeats 4000000 in
set_option maxRecDepth 100000 in
theorem c_X2_sevenBits (l : Launch) (dC : Nat → ClassId) (dI : Nat → Nat → Nat) (cI : ClassId) (h0 q1 : Nat) (g : Nat → Nat) (k : Nat) (hg : ∀ j, g j < 256) (hk : k < 230) : Met l yX2_sevenBits wsX2_sevenBits ({ frames := 2, cells := 0, slots := 0, locals := 42 } : Room) (va_Pc [.ref h0, .int (nI k)] (fun U => va_P (dC, dI) vwCl [(h0, .inr (2, [.ref q1])), (q1, .inl (cI, 204, .inl (fun j => nI (g j))))] U.heap ∧ va_K (dC, dI) vwCl [(cI, .int)] U)) (vp_Si (fun r : Int32 => r = nI ((g (7 * k / 8) + g (7 * k / 8 + 1) * 2 ^ 8) / 2 ^ (7 * k % 8) % 2 ^ 7))) 0 0 (fun _ => False) := by
  refine Met.ofW (cc := cX2_sevenBits) (maxL := 4) (ret := (some .int)) (by decide) rfl ?_
  intro p e s m args below meth c s₁ B hml hv
  obtain ⟨rfl, hP, hK⟩ := hv
  have hx := B.exec
  have hb := B.bytes
  have hr := B.returns
  have hts := atoms_spec (ws := wsX2_sevenBits) B.pre
  have hown : s.vm.findClass RX2 = some m.cls := findClass_of_methodNamed B.named
  have hlocks := B.notSynchronized
  have hl := lv_entry ([.ref h0, .int (nI k)]) (n := 4) (Nat.le_of_ble_eq_true rfl)
  rw [lg_entry_eq]
  generalize (lg_sl ([.ref h0, .int (nI k)]) ++ List.replicate (4 - (lg_sl ([.ref h0, .int (nI k)])).length) Slot.unset).toArray = ls at hl ⊢
  have hl : lv_has ls 4 [(0, .ref h0), (1, .int (nI k))] := hl
  refine lv_bipush (v := (nI 7)) hx hb dX2_sevenBits_0 (by decide) ?_
  refine lv_iload_n hx hb dX2_sevenBits_2 rfl (lv_at hl 1 rfl) ?_
  refine lv_imul hx hb dX2_sevenBits_3 ?_
  refine lv_topi (fun x3 e3 => ?_)
  obtain rfl : x3 = nI (7 * k) := e3.trans (pk_mul 7 k)
  refine lv_bipush (v := (nI 8)) hx hb dX2_sevenBits_4 (by decide) ?_
  refine lv_idiv hx hb dX2_sevenBits_6 (by decide) ?_
  refine lv_topi (fun x6 e6 => ?_)
  obtain rfl : x6 = nI (7 * k / 8) := e6.trans (pk_div (by omega) (by decide) (by decide))
  refine lv_istore_n (lv' := [(2, .int (nI (7 * k / 8))), (0, .ref h0), (1, .int (nI k))]) hx hb dX2_sevenBits_7 rfl hl (by decide) rfl (fun ls hl => ?_)
  refine lv_bipush (v := (nI 7)) hx hb dX2_sevenBits_8 (by decide) ?_
  refine lv_iload_n hx hb dX2_sevenBits_10 rfl (lv_at hl 2 rfl) ?_
  refine lv_imul hx hb dX2_sevenBits_11 ?_
  refine lv_topi (fun x11 e11 => ?_)
  obtain rfl : x11 = nI (7 * k) := e11.trans (pk_mul 7 k)
  refine lv_bipush (v := (nI 8)) hx hb dX2_sevenBits_12 (by decide) ?_
  refine lv_irem hx hb dX2_sevenBits_14 (by decide) ?_
  refine lv_topi (fun x14 e14 => ?_)
  obtain rfl : x14 = nI (7 * k % 8) := e14.trans (pk_rem (by omega) (by decide) (by decide))
  refine lv_istore_n (lv' := [(3, .int (nI (7 * k % 8))), (2, .int (nI (7 * k / 8))), (0, .ref h0), (1, .int (nI k))]) hx hb dX2_sevenBits_15 rfl hl (by decide) rfl (fun ls hl => ?_)
  refine lv_aload_n hx hb dX2_sevenBits_16 rfl (lv_at hl 2 rfl) ?_
  refine lv_iload_n hx hb dX2_sevenBits_17 rfl (lv_at hl 1 rfl) ?_
  have hPc := hP.sub (ws' := [(h0, .inr (2, [.ref q1])), (q1, .inl (cI, 204, .inl (fun j => nI (g j))))]) [0, 1] rfl
  have hKc := hK.sub (tys' := [(cI, .int)]) [0] rfl
  refine vp_callSi (W.runV (As := [.int (nI (7 * k / 8))]) (rest := []) ⟨hx, hb, hml, hown, hts⟩ (c_X2_byteOf l dC dI cI h0 q1 g (nI (7 * k / 8)) ) (cwV 1 hts gX2_sevenBits_X2_byteOf rfl rfl rfl (by decide +kernel) ⟨Nat.le_of_ble_eq_true rfl, Nat.le_of_ble_eq_true rfl⟩) ⟨fun a U g mk q => by obtain ⟨q0, qP, qK⟩ := q; exact ⟨q0, qP, va_K.moved (u := U) (U := U.calling g mk a) (Vm.Alike.refl U.vm) qK⟩, va_recv hK hP (ci := 2) (q0 := 0) rfl rfl, fun U hU hW => ⟨rfl, by rw [hU]; exact hPc, va_K.moved hW.alike hKc⟩⟩ rfl rfl hl.1 rfl (lv_room (Nat.le_of_ble_eq_true rfl)) dX2_sevenBits_18 ⟨Nat.le_of_ble_eq_true rfl, Nat.le_of_ble_eq_true rfl⟩) (fun r18 h18 => ?_)
  obtain rfl : r18 = nI (g (7 * k / 8)) := bo_at (by omega) h18
  refine lv_aload_n hx hb dX2_sevenBits_21 rfl (lv_at hl 2 rfl) ?_
  refine lv_iload_n hx hb dX2_sevenBits_22 rfl (lv_at hl 1 rfl) ?_
  refine lv_iconst (v := 1) hx hb dX2_sevenBits_23 (by decide) ?_
  refine lv_iadd hx hb dX2_sevenBits_24 ?_
  refine lv_topi (fun x24 e24 => ?_)
  obtain rfl : x24 = nI (7 * k / 8 + 1) := e24.trans (nI_1 _)
  have hPc := hP.sub (ws' := [(h0, .inr (2, [.ref q1])), (q1, .inl (cI, 204, .inl (fun j => nI (g j))))]) [0, 1] rfl
  have hKc := hK.sub (tys' := [(cI, .int)]) [0] rfl
  refine vp_callSi (W.runV (As := [.int (nI (7 * k / 8 + 1))]) (rest := [.int (nI (g (7 * k / 8)))]) ⟨hx, hb, hml, hown, hts⟩ (c_X2_byteOf l dC dI cI h0 q1 g (nI (7 * k / 8 + 1)) ) (cwV 1 hts gX2_sevenBits_X2_byteOf rfl rfl rfl (by decide +kernel) ⟨Nat.le_of_ble_eq_true rfl, Nat.le_of_ble_eq_true rfl⟩) ⟨fun a U g mk q => by obtain ⟨q0, qP, qK⟩ := q; exact ⟨q0, qP, va_K.moved (u := U) (U := U.calling g mk a) (Vm.Alike.refl U.vm) qK⟩, va_recv hK hP (ci := 2) (q0 := 0) rfl rfl, fun U hU hW => ⟨rfl, by rw [hU]; exact hPc, va_K.moved hW.alike hKc⟩⟩ rfl rfl hl.1 rfl (lv_room (Nat.le_of_ble_eq_true rfl)) dX2_sevenBits_25 ⟨Nat.le_of_ble_eq_true rfl, Nat.le_of_ble_eq_true rfl⟩) (fun r25 h25 => ?_)
  obtain rfl : r25 = nI (g (7 * k / 8 + 1)) := bo_at (by omega) h25
  refine lv_bipush (v := 8) hx hb dX2_sevenBits_28 (by decide) ?_
  refine lv_ishl hx hb dX2_sevenBits_30 ?_
  refine lv_topi (fun x30 e30 => ?_)
  obtain rfl : x30 = nI (g (7 * k / 8 + 1) * 2 ^ 8) := e30.trans (pk_shlN _ 8 (by decide) (by have := hg (7 * k / 8 + 1); omega))
  refine lv_ior hx hb dX2_sevenBits_31 ?_
  refine lv_topi (fun x31 e31 => ?_)
  obtain rfl : x31 = nI (g (7 * k / 8) + g (7 * k / 8 + 1) * 2 ^ 8) := e31.trans (or_add (hg _) (by have := hg (7 * k / 8); have := hg (7 * k / 8 + 1); omega))
  refine lv_iload_n hx hb dX2_sevenBits_32 rfl (lv_at hl 0 rfl) ?_
  refine lv_ishr hx hb dX2_sevenBits_33 ?_
  refine lv_topi (fun x33 e33 => ?_)
  obtain rfl : x33 = nI ((g (7 * k / 8) + g (7 * k / 8 + 1) * 2 ^ 8) / 2 ^ (7 * k % 8)) := e33.trans (pk_shrN (by have := hg (7 * k / 8); have := hg (7 * k / 8 + 1); omega) _ _ (s_l _ (by omega)))
  refine lv_bipush (v := 127) hx hb dX2_sevenBits_34 (by decide) ?_
  refine lv_iand hx hb dX2_sevenBits_36 ?_
  refine lv_topi (fun x36 e36 => ?_)
  obtain rfl : x36 = nI ((g (7 * k / 8) + g (7 * k / 8 + 1) * 2 ^ 8) / 2 ^ (7 * k % 8) % 2 ^ 7) := e36.trans (pk_andN (Nat.lt_of_le_of_lt (Nat.div_le_self _ _) (by have := hg (7 * k / 8); have := hg (7 * k / 8 + 1); omega)) 7 (by decide))
  exact W.iret (v := (nI ((g (7 * k / 8) + g (7 * k / 8 + 1) * 2 ^ 8) / 2 ^ (7 * k % 8) % 2 ^ 7))) hx hb hr (fun tS htS hW => ⟨(nI ((g (7 * k / 8) + g (7 * k / 8 + 1) * 2 ^ 8) / 2 ^ (7 * k % 8) % 2 ^ 7)), rfl, rfl, htS⟩) t_nil dX2_sevenBits_37

theorem p2_lt {s : Nat} (h : s < 8) : 2 ^ s ≤ 128 := by
  have := Nat.pow_le_pow_right (n := 2) (by decide) (show s ≤ 7 by omega)
  exact this
theorem sb_lt {b s : Nat} (hb : b < 128) (h : s < 8) : b * 2 ^ s ≤ 16256 := Nat.le_trans (Nat.mul_le_mul (show b ≤ 127 by omega) (p2_lt h)) (by decide)
theorem sb_or {a b s : Nat} (ha : a < 2 ^ s) (hb : b < 128) (hs : s < 8) : nI a ||| nI (b * 2 ^ s % 2 ^ 8) = nI (a + b * 2 ^ s % 2 ^ 8) := by
  have e : b * 2 ^ s % 2 ^ 8 = (b % 2 ^ (8 - s)) * 2 ^ s := by
    rw [show (2 : Nat) ^ 8 = 2 ^ (8 - s) * 2 ^ s from by rw [← Nat.pow_add]; congr 1; omega, Nat.mul_mod_mul_right]
  have h1 : b * 2 ^ s % 2 ^ 8 < 256 := Nat.mod_lt _ (by decide)
  have h2 := p2_lt hs
  rw [e] at h1 ⊢
  exact or_add ha (by omega)

set_option maxHeartbeats 4000000 in
set_option maxRecDepth 100000 in
theorem c_X2_setSevenBits (l : Launch) (dC : Nat → ClassId) (dI : Nat → Nat → Nat) (cI : ClassId) (h0 q1 : Nat) (g : Nat → Nat) (k b : Nat) (sz : Nat) (hg : ∀ j, g j < 256) (hk : k < 230) (hb9 : b < 128) (hlo : g (7 * k / 8) < 2 ^ (7 * k % 8)) (hz : g (7 * k / 8 + 1) = 0) : Met l yX2_setSevenBits wsX2_setSevenBits ({ frames := 2, cells := 0, slots := 0, locals := 42 } : Room) (va_Pc [.ref h0, .int (nI k), .int (nI b)] (fun U => U.heap.size = sz ∧ va_P (dC, dI) vwCl [(h0, .inr (2, [.ref q1])), (q1, .inl (cI, 204, .inl (fun j => nI (g j))))] U.heap ∧ va_K (dC, dI) vwCl [(cI, .int)] U ∧ va_D (fun _ => True) [(h0, .inr (2, [.ref q1])), (q1, .inl (cI, 204, .inl (fun j => nI (g j))))])) (va_Qv (fun (_ : Unit) => True) (fun (_ : Unit) (tS : State) => va_P (dC, dI) vwCl [(h0, .inr (2, [.ref q1])), (q1, .inl (cI, 204, .inl (fun j => nI (va_up (va_up g (7 * k / 8) (g (7 * k / 8) + b * 2 ^ (7 * k % 8) % 2 ^ 8)) (7 * k / 8 + 1) (b * 2 ^ (7 * k % 8) / 2 ^ 8) j))))] tS.heap ∧ va_K (dC, dI) vwCl [(cI, .int)] tS ∧ va_D (va_A [(h0, .inr (2, [.ref q1])), (q1, .inl (cI, 204, .inl (fun j => nI (g j))))] sz) [(h0, .inr (2, [.ref q1])), (q1, .inl (cI, 204, .inl (fun j => nI (va_up (va_up g (7 * k / 8) (g (7 * k / 8) + b * 2 ^ (7 * k % 8) % 2 ^ 8)) (7 * k / 8 + 1) (b * 2 ^ (7 * k % 8) / 2 ^ 8) j))))]) (va_A [(h0, .inr (2, [.ref q1])), (q1, .inl (cI, 204, .inl (fun j => nI (g j))))] sz)) 0 0 (va_A [(h0, .inr (2, [.ref q1])), (q1, .inl (cI, 204, .inl (fun j => nI (g j))))] sz) := by
  refine Met.ofW (cc := cX2_setSevenBits) (maxL := 5) (ret := none) (by decide) rfl ?_
  intro p e s m args below meth c s₁ B hml hv
  obtain ⟨rfl, hsz, hP, hK, hD0⟩ := hv
  have hx := B.exec
  have hb := B.bytes
  have hr := B.returns
  have hts := atoms_spec (ws := wsX2_setSevenBits) B.pre
  have hown : s.vm.findClass RX2 = some m.cls := findClass_of_methodNamed B.named
  have hlocks := B.notSynchronized
  subst hsz
  have hD := hD0.self (sz := s.heap.size)
  generalize hAe : va_A [(h0, .inr (2, [.ref q1])), (q1, .inl (cI, 204, .inl (fun j => nI (g j))))] s.heap.size = A at hD ⊢
  have hA : ∀ q : Nat, s.heap.size ≤ q → A q := fun q h => by rw [← hAe]; exact Or.inr h
  have hS : va_S A s.heap s.heap [] := va_S.rf
  have hl := lv_entry ([.ref h0, .int (nI k), .int (nI b)]) (n := 5) (Nat.le_of_ble_eq_true rfl)
  rw [lg_entry_eq]
  generalize (lg_sl ([.ref h0, .int (nI k), .int (nI b)]) ++ List.replicate (5 - (lg_sl ([.ref h0, .int (nI k), .int (nI b)])).length) Slot.unset).toArray = ls at hl ⊢
  have hl : lv_has ls 5 [(0, .ref h0), (1, .int (nI k)), (2, .int (nI b))] := hl
  have hsl := sb_lt hb9 (show 7 * k % 8 < 8 by omega)
  refine lv_bipush (v := (nI 7)) hx hb dX2_setSevenBits_0 (by decide) ?_
  refine lv_iload_n hx hb dX2_setSevenBits_2 rfl (lv_at hl 1 rfl) ?_
  refine lv_imul hx hb dX2_setSevenBits_3 ?_
  refine lv_topi (fun x3 e3 => ?_)
  obtain rfl : x3 = nI (7 * k) := e3.trans (pk_mul 7 k)
  refine lv_bipush (v := (nI 8)) hx hb dX2_setSevenBits_4 (by decide) ?_
  refine lv_idiv hx hb dX2_setSevenBits_6 (by decide) ?_
  refine lv_topi (fun x6 e6 => ?_)
  obtain rfl : x6 = nI (7 * k / 8) := e6.trans (pk_div (by omega) (by decide) (by decide))
  refine lv_istore_n (lv' := [(3, .int (nI (7 * k / 8))), (0, .ref h0), (1, .int (nI k)), (2, .int (nI b))]) hx hb dX2_setSevenBits_7 rfl hl (by decide) rfl (fun ls hl => ?_)
  refine lv_iload_n hx hb dX2_setSevenBits_8 rfl (lv_at hl 3 rfl) ?_
  refine lv_bipush (v := (nI 7)) hx hb dX2_setSevenBits_9 (by decide) ?_
  refine lv_iload_n hx hb dX2_setSevenBits_11 rfl (lv_at hl 2 rfl) ?_
  refine lv_imul hx hb dX2_setSevenBits_12 ?_
  refine lv_topi (fun x12 e12 => ?_)
  obtain rfl : x12 = nI (7 * k) := e12.trans (pk_mul 7 k)
  refine lv_bipush (v := (nI 8)) hx hb dX2_setSevenBits_13 (by decide) ?_
  refine lv_irem hx hb dX2_setSevenBits_15 (by decide) ?_
  refine lv_topi (fun x15 e15 => ?_)
  obtain rfl : x15 = nI (7 * k % 8) := e15.trans (pk_rem (by omega) (by decide) (by decide))
  refine lv_ishl hx hb dX2_setSevenBits_16 ?_
  refine lv_topi (fun x16 e16 => ?_)
  obtain rfl : x16 = nI (b * 2 ^ (7 * k % 8)) := e16.trans (pk_shlN _ _ (s_l _ (by omega)) (by omega))
  refine lv_istore (lv' := [(4, .int (nI (b * 2 ^ (7 * k % 8)))), (3, .int (nI (7 * k / 8))), (0, .ref h0), (1, .int (nI k)), (2, .int (nI b))]) hx hb dX2_setSevenBits_17 hl (by decide) rfl (fun ls hl => ?_)
  refine lv_aload_n hx hb dX2_setSevenBits_19 rfl (lv_at hl 2 rfl) ?_
  refine lv_iload_n hx hb dX2_setSevenBits_20 rfl (lv_at hl 1 rfl) ?_
  refine lv_aload_n hx hb dX2_setSevenBits_21 rfl (lv_at hl 2 rfl) ?_
  refine lv_iload_n hx hb dX2_setSevenBits_22 rfl (lv_at hl 1 rfl) ?_
  have hPc := hP.sub (ws' := [(h0, .inr (2, [.ref q1])), (q1, .inl (cI, 204, .inl (fun j => nI (g j))))]) [0, 1] rfl
  have hKc := hK.sub (tys' := [(cI, .int)]) [0] rfl
  refine vp_callSi (W.runV (As := [.int (nI (7 * k / 8))]) (rest := [.int (nI (7 * k / 8)), .ref h0]) ⟨hx, hb, hml, hown, hts⟩ (c_X2_byteOf l dC dI cI h0 q1 g (nI (7 * k / 8)) ) (cwV 1 hts gX2_setSevenBits_X2_byteOf rfl rfl rfl (by decide +kernel) ⟨Nat.le_of_ble_eq_true rfl, Nat.le_of_ble_eq_true rfl⟩) ⟨fun a U g mk q => by obtain ⟨q0, qP, qK⟩ := q; exact ⟨q0, qP, va_K.moved (u := U) (U := U.calling g mk a) (Vm.Alike.refl U.vm) qK⟩, va_recv hK hP (ci := 2) (q0 := 0) rfl rfl, fun U hU hW => ⟨rfl, by rw [hU]; exact hPc, va_K.moved hW.alike hKc⟩⟩ rfl rfl hl.1 rfl (lv_room (Nat.le_of_ble_eq_true rfl)) dX2_setSevenBits_23 ⟨Nat.le_of_ble_eq_true rfl, Nat.le_of_ble_eq_true rfl⟩) (fun r23 h23 => ?_)
  obtain rfl : r23 = nI (g (7 * k / 8)) := bo_at (by omega) h23
  refine lv_iload hx hb dX2_setSevenBits_26 (lv_at hl 0 rfl) ?_
  refine lv_sipush (v := 255) hx hb dX2_setSevenBits_28 (by decide) ?_
  refine lv_iand hx hb dX2_setSevenBits_31 ?_
  refine lv_topi (fun x31 e31 => ?_)
  obtain rfl : x31 = nI (b * 2 ^ (7 * k % 8) % 2 ^ 8) := e31.trans (pk_andN (by omega) 8 (by decide))
  refine lv_ior hx hb dX2_setSevenBits_32 ?_
  refine lv_topi (fun x32 e32 => ?_)
  obtain rfl : x32 = nI (g (7 * k / 8) + b * 2 ^ (7 * k % 8) % 2 ^ 8) := e32.trans (sb_or hlo hb9 (by omega))
  have hPc := hP.sub (ws' := [(h0, .inr (2, [.ref q1])), (q1, .inl (cI, 204, .inl (fun j => nI (g j))))]) [0, 1] rfl
  have hKc := hK.sub (tys' := [(cI, .int)]) [0] rfl
  have hDc := hD.sub (ws' := [(h0, .inr (2, [.ref q1])), (q1, .inl (cI, 204, .inl (fun j => nI (g j))))]) [0, 1] (by decide) rfl
  have hFc := va_free (wc := [(h0, .inr (2, [.ref q1])), (q1, .inl (cI, 204, .inl (fun j => nI (g j))))]) hD hS hA [0, 1] rfl
  refine va_callv (va_runV (As := [.int (nI (7 * k / 8)), .int (nI (g (7 * k / 8) + b * 2 ^ (7 * k % 8) % 2 ^ 8))]) (rest := []) ⟨hx, hb, hml, hown, hts⟩ (c_X2_setByte l dC dI cI h0 q1 g (7 * k / 8) (g (7 * k / 8) + b * 2 ^ (7 * k % 8) % 2 ^ 8) s.heap.size (by omega)) (cwV 2 hts gX2_setSevenBits_X2_setByte rfl rfl rfl (by decide +kernel) ⟨Nat.le_of_ble_eq_true rfl, Nat.le_of_ble_eq_true rfl⟩) ⟨fun a U g mk q => by obtain ⟨q0, q1, qP, qK, qD⟩ := q; exact ⟨q0, q1, qP, va_K.moved (u := U) (U := U.calling g mk a) (Vm.Alike.refl U.vm) qK, qD⟩, va_recv hKc hPc (ci := 2) (q0 := 0) rfl rfl, fun U hU hW => ⟨rfl, by rw [hU], by rw [hU]; exact hPc, va_K.moved hW.alike hKc, hDc.weaken (fun _ _ _ _ => trivial)⟩⟩ rfl rfl hl.1 rfl (lv_room (Nat.le_of_ble_eq_true rfl)) dX2_setSevenBits_33 ⟨Nat.le_of_ble_eq_true rfl, Nat.le_of_ble_eq_true rfl⟩) hS (fun q _ h => hFc q h) hFc (fun uS tS H1 locs htS hvm h33 hB hzS hkS hS => ?_)
  obtain ⟨hP1, hK1, hD1⟩ := hB
  rw [htS] at hP1
  have hK1 := va_K.moved hvm.symm hK1
  try dsimp only at h33
  obtain ⟨hP, hD⟩ := va_join (wr := []) (w1 := [(h0, .inr (2, [.ref q1])), (q1, .inl (cI, 204, .inl (fun j => nI (va_up g (7 * k / 8) (g (7 * k / 8) + b * 2 ^ (7 * k % 8) % 2 ^ 8) j))))]) hP hD [0, 1] [] rfl rfl (by decide) (by decide) hkS hFc hP1 hD1
  generalize H1 = H at hP hS ⊢
  have hP : va_P (dC, dI) vwCl [(h0, .inr (2, [.ref q1])), (q1, .inl (cI, 204, .inl (fun j => nI (va_up g (7 * k / 8) (g (7 * k / 8) + b * 2 ^ (7 * k % 8) % 2 ^ 8) j))))] H := hP
  have hD : va_D A [(h0, .inr (2, [.ref q1])), (q1, .inl (cI, 204, .inl (fun j => nI (va_up g (7 * k / 8) (g (7 * k / 8) + b * 2 ^ (7 * k % 8) % 2 ^ 8) j))))] := hD
  refine lv_aload_n hx hb dX2_setSevenBits_36 rfl (lv_at hl 2 rfl) ?_
  refine lv_iload_n hx hb dX2_setSevenBits_37 rfl (lv_at hl 1 rfl) ?_
  refine lv_iconst (v := 1) hx hb dX2_setSevenBits_38 (by decide) ?_
  refine lv_iadd hx hb dX2_setSevenBits_39 ?_
  refine lv_topi (fun x39 e39 => ?_)
  obtain rfl : x39 = nI (7 * k / 8 + 1) := e39.trans (nI_1 _)
  refine lv_aload_n hx hb dX2_setSevenBits_40 rfl (lv_at hl 2 rfl) ?_
  refine lv_iload_n hx hb dX2_setSevenBits_41 rfl (lv_at hl 1 rfl) ?_
  refine lv_iconst (v := 1) hx hb dX2_setSevenBits_42 (by decide) ?_
  refine lv_iadd hx hb dX2_setSevenBits_43 ?_
  refine lv_topi (fun x43 e43 => ?_)
  obtain rfl : x43 = nI (7 * k / 8 + 1) := e43.trans (nI_1 _)
  have hPc := hP.sub (ws' := [(h0, .inr (2, [.ref q1])), (q1, .inl (cI, 204, .inl (fun j => nI ((va_up g (7 * k / 8) (g (7 * k / 8) + b * 2 ^ (7 * k % 8) % 2 ^ 8)) j))))]) [0, 1] rfl
  have hKc := hK.sub (tys' := [(cI, .int)]) [0] rfl
  refine vp_callSi (W.runV (As := [.int (nI (7 * k / 8 + 1))]) (rest := [.int (nI (7 * k / 8 + 1)), .ref h0]) ⟨hx, hb, hml, hown, hts⟩ (c_X2_byteOf l dC dI cI h0 q1 (va_up g (7 * k / 8) (g (7 * k / 8) + b * 2 ^ (7 * k % 8) % 2 ^ 8)) (nI (7 * k / 8 + 1)) ) (cwV 1 hts gX2_setSevenBits_X2_byteOf rfl rfl rfl (by decide +kernel) ⟨Nat.le_of_ble_eq_true rfl, Nat.le_of_ble_eq_true rfl⟩) ⟨fun a U g mk q => by obtain ⟨q0, qP, qK⟩ := q; exact ⟨q0, qP, va_K.moved (u := U) (U := U.calling g mk a) (Vm.Alike.refl U.vm) qK⟩, va_recv hK hP (ci := 2) (q0 := 0) rfl rfl, fun U hU hW => ⟨rfl, by rw [hU]; exact hPc, va_K.moved hW.alike hKc⟩⟩ rfl rfl hl.1 rfl (lv_room (Nat.le_of_ble_eq_true rfl)) dX2_setSevenBits_44 ⟨Nat.le_of_ble_eq_true rfl, Nat.le_of_ble_eq_true rfl⟩) (fun r44 h44 => ?_)
  obtain rfl : r44 = nI 0 := (bo_at (by omega) h44).trans (by rw [va_up_ne _ _ (by omega), hz])
  refine lv_iload hx hb dX2_setSevenBits_47 (lv_at hl 0 rfl) ?_
  refine lv_bipush (v := 8) hx hb dX2_setSevenBits_49 (by decide) ?_
  refine lv_ishr hx hb dX2_setSevenBits_51 ?_
  refine lv_topi (fun x51 e51 => ?_)
  obtain rfl : x51 = nI (b * 2 ^ (7 * k % 8) / 2 ^ 8) := e51.trans (pk_shrN (by omega) _ 8 (by decide))
  refine lv_ior hx hb dX2_setSevenBits_52 ?_
  refine lv_topi (fun x52 e52 => ?_)
  obtain rfl : x52 = nI (b * 2 ^ (7 * k % 8) / 2 ^ 8) := e52.trans (Int32.zero_or)
  have hPc := hP.sub (ws' := [(h0, .inr (2, [.ref q1])), (q1, .inl (cI, 204, .inl (fun j => nI ((va_up g (7 * k / 8) (g (7 * k / 8) + b * 2 ^ (7 * k % 8) % 2 ^ 8)) j))))]) [0, 1] rfl
  have hKc := hK.sub (tys' := [(cI, .int)]) [0] rfl
  have hDc := hD.sub (ws' := [(h0, .inr (2, [.ref q1])), (q1, .inl (cI, 204, .inl (fun j => nI ((va_up g (7 * k / 8) (g (7 * k / 8) + b * 2 ^ (7 * k % 8) % 2 ^ 8)) j))))]) [0, 1] (by decide) rfl
  have hFc := va_free (wc := [(h0, .inr (2, [.ref q1])), (q1, .inl (cI, 204, .inl (fun j => nI ((va_up g (7 * k / 8) (g (7 * k / 8) + b * 2 ^ (7 * k % 8) % 2 ^ 8)) j))))]) hD hS hA [0, 1] rfl
  refine va_callv (va_runV (As := [.int (nI (7 * k / 8 + 1)), .int (nI (b * 2 ^ (7 * k % 8) / 2 ^ 8))]) (rest := []) ⟨hx, hb, hml, hown, hts⟩ (c_X2_setByte l dC dI cI h0 q1 (va_up g (7 * k / 8) (g (7 * k / 8) + b * 2 ^ (7 * k % 8) % 2 ^ 8)) (7 * k / 8 + 1) (b * 2 ^ (7 * k % 8) / 2 ^ 8) H.size (by omega)) (cwV 2 hts gX2_setSevenBits_X2_setByte rfl rfl rfl (by decide +kernel) ⟨Nat.le_of_ble_eq_true rfl, Nat.le_of_ble_eq_true rfl⟩) ⟨fun a U g mk q => by obtain ⟨q0, q1, qP, qK, qD⟩ := q; exact ⟨q0, q1, qP, va_K.moved (u := U) (U := U.calling g mk a) (Vm.Alike.refl U.vm) qK, qD⟩, va_recv hKc hPc (ci := 2) (q0 := 0) rfl rfl, fun U hU hW => ⟨rfl, by rw [hU], by rw [hU]; exact hPc, va_K.moved hW.alike hKc, hDc.weaken (fun _ _ _ _ => trivial)⟩⟩ rfl rfl hl.1 rfl (lv_room (Nat.le_of_ble_eq_true rfl)) dX2_setSevenBits_53 ⟨Nat.le_of_ble_eq_true rfl, Nat.le_of_ble_eq_true rfl⟩) hS (fun q _ h => hFc q h) hFc (fun uS tS H1 locs htS hvm h53 hB hzS hkS hS => ?_)
  obtain ⟨hP1, hK1, hD1⟩ := hB
  rw [htS] at hP1
  have hK1 := va_K.moved hvm.symm hK1
  try dsimp only at h53
  obtain ⟨hP, hD⟩ := va_join (wr := []) (w1 := [(h0, .inr (2, [.ref q1])), (q1, .inl (cI, 204, .inl (fun j => nI (va_up (va_up g (7 * k / 8) (g (7 * k / 8) + b * 2 ^ (7 * k % 8) % 2 ^ 8)) (7 * k / 8 + 1) (b * 2 ^ (7 * k % 8) / 2 ^ 8) j))))]) hP hD [0, 1] [] rfl rfl (by decide) (by decide) hkS hFc hP1 hD1
  generalize H1 = H at hP hS ⊢
  have hP : va_P (dC, dI) vwCl [(h0, .inr (2, [.ref q1])), (q1, .inl (cI, 204, .inl (fun j => nI (va_up (va_up g (7 * k / 8) (g (7 * k / 8) + b * 2 ^ (7 * k % 8) % 2 ^ 8)) (7 * k / 8 + 1) (b * 2 ^ (7 * k % 8) / 2 ^ 8) j))))] H := hP
  have hD : va_D A [(h0, .inr (2, [.ref q1])), (q1, .inl (cI, 204, .inl (fun j => nI (va_up (va_up g (7 * k / 8) (g (7 * k / 8) + b * 2 ^ (7 * k % 8) % 2 ^ 8)) (7 * k / 8 + 1) (b * 2 ^ (7 * k % 8) / 2 ^ 8) j))))] := hD
  have hP9 := hP.sub (ws' := [(h0, .inr (2, [.ref q1])), (q1, .inl (cI, 204, .inl (fun j => nI (va_up (va_up g (7 * k / 8) (g (7 * k / 8) + b * 2 ^ (7 * k % 8) % 2 ^ 8)) (7 * k / 8 + 1) (b * 2 ^ (7 * k % 8) / 2 ^ 8) j))))]) [0, 1] rfl
  have hD9 := hD.sub (ws' := [(h0, .inr (2, [.ref q1])), (q1, .inl (cI, 204, .inl (fun j => nI (va_up (va_up g (7 * k / 8) (g (7 * k / 8) + b * 2 ^ (7 * k % 8) % 2 ^ 8)) (7 * k / 8 + 1) (b * 2 ^ (7 * k % 8) / 2 ^ 8) j))))]) [0, 1] (by decide) rfl
  have hK9 := hK.sub (tys' := [(cI, .int)]) [0] rfl
  exact W.vret hx hb hr (fun tS htS hW => ⟨⟨(), rfl, trivial, by rw [htS]; exact hP9, va_K.moved hW.alike hK9, hD9⟩, hS.F htS⟩) hS.2.2 dX2_setSevenBits_56

