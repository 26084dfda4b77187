set_option maxHeartbeats 4000000 in
set_option maxRecDepth 100000 in
theorem c_X4_thrown (l : Launch) (dC : Nat → ClassId) (dI : Nat → Nat → Nat) (cI : ClassId) (mx m5 m6 m7 m8 m9 m10 m11 n dn bn wn : Nat) (th : Int32)  : Met l yX4_thrown wsX4_thrown ({ frames := 0, cells := 0, slots := 0, locals := 0 } : Room) (va_Pc [.ref mx] (fun U => va_P (dC, dI) vwCl [(mx, .inr (4, [.int th, .int (nI n), .int (nI dn), .int (nI bn), .int (nI wn), .ref m5, .ref m6, .ref m7, .ref m8, .ref m9, .ref m10, .ref m11]))] U.heap ∧ va_K (dC, dI) vwCl [] U)) (vp_Si (fun r : Int32 => r = th)) 0 0 (fun _ => False) := by
  refine Met.ofW (cc := cX4_thrown) (maxL := 1) (ret := (some .int)) (by decide) rfl ?_
  intro p e s m args below meth c s₁ B hml hv
  obtain ⟨rfl, hP, hK⟩ := hv
  have hx := B.exec
  have hb := B.bytes
  have hr := B.returns
  have hts := atoms_spec (ws := wsX4_thrown) B.pre
  have hown : s.vm.findClass RX4 = some m.cls := findClass_of_methodNamed B.named
  have hlocks := B.notSynchronized
  have hinX4 : ∀ w ∈ wsX40, w ∈ wsX4_thrown := by decide +kernel
  have hl := lv_entry ([.ref mx]) (n := 1) (Nat.le_of_ble_eq_true rfl)
  rw [lg_entry_eq]
  generalize (lg_sl ([.ref mx]) ++ List.replicate (1 - (lg_sl ([.ref mx])).length) Slot.unset).toArray = ls at hl ⊢
  have hl : lv_has ls 1 [(0, .ref mx)] := hl
  refine lv_aload_n hx hb dX4_thrown_0 rfl (lv_at hl 0 rfl) ?_
  refine va_get (D := (dC, dI)) (ci := 4) (v := .int th) (C := RX4) (T := TX4) (N := 12) hx hb hts hinX4 hown hK hP 0 rfl rfl 0 (by decide) (hts (.fieldLink RX4 32 "NumberContentsModel" "thrown" "I") (by decide +kernel)) (fun _ h9 => h9) rfl dX4_thrown_1 ?_
  exact W.iret (v := th) hx hb hr (fun tS htS hW => ⟨th, rfl, rfl, htS⟩) t_nil dX4_thrown_4

set_option maxHeartbeats 4000000 in
set_option maxRecDepth 100000 in
theorem c_X4_isBelow (l : Launch) (dC : Nat → ClassId) (dI : Nat → Nat → Nat) (cI : ClassId) (mx m5 m6 m7 m8 m9 m10 m11 n dn bn wn : Nat) (th : Int32) (rw : Nat → Nat) (hrw : ∀ j, rw j < 256) : Met l yX4_isBelow wsX4_isBelow ({ frames := 0, cells := 0, slots := 0, locals := 0 } : Room) (va_Pc [.ref mx, .ref m6] (fun U => va_P (dC, dI) vwCl [(mx, .inr (4, [.int th, .int (nI n), .int (nI dn), .int (nI bn), .int (nI wn), .ref m5, .ref m6, .ref m7, .ref m8, .ref m9, .ref m10, .ref m11])), (m6, .inl (cI, 210, .inl (fun j => nI (rw j))))] U.heap ∧ va_K (dC, dI) vwCl [(cI, .int)] U)) (vp_Si (fun r : Int32 => (r = 1 ∧ 128 ≤ rw 209) ∨ (r = 0 ∧ ¬ 128 ≤ rw 209))) 0 0 (fun _ => False) := by
  refine Met.ofW (cc := cX4_isBelow) (maxL := 2) (ret := (some .boolean)) (by decide) rfl ?_
  intro p e s m args below meth c s₁ B hml hv
  obtain ⟨rfl, hP, hK⟩ := hv
  have hx := B.exec
  have hb := B.bytes
  have hr := B.returns
  have hts := atoms_spec (ws := wsX4_isBelow) B.pre
  have hown : s.vm.findClass RX4 = some m.cls := findClass_of_methodNamed B.named
  have hlocks := B.notSynchronized
  have hl := lv_entry ([.ref mx, .ref m6]) (n := 2) (Nat.le_of_ble_eq_true rfl)
  rw [lg_entry_eq]
  generalize (lg_sl ([.ref mx, .ref m6]) ++ List.replicate (2 - (lg_sl ([.ref mx, .ref m6])).length) Slot.unset).toArray = ls at hl ⊢
  have hl : lv_has ls 2 [(0, .ref mx), (1, .ref m6)] := hl
  refine lv_aload_n hx hb dX4_isBelow_0 rfl (lv_at hl 1 rfl) ?_
  refine lv_sipush (v := (nI 209)) hx hb dX4_isBelow_1 (by decide) ?_
  refine va_iald hx hb hK hP 1 0 rfl rfl (vp_in_nI (by omega) (by omega)) dX4_isBelow_4 ?_
  refine lv_topi (fun x4 e4 => ?_)
  obtain rfl : x4 = nI (rw 209) := e4.trans (atg (by omega))
  refine lv_bipush (v := (nI 127)) hx hb dX4_isBelow_5 (by decide) ?_
  refine lv_icmp_le (tgt := 14) hx hb dX4_isBelow_7 (by decide) (fun c7 => ?_) (fun c7 => ?_)
  · refine lv_iconst (v := 0) hx hb dX4_isBelow_14 (by decide) ?_
    exact W.zret (v := 0) hx hb hr rfl (fun tS htS hW => ⟨0, rfl, (by have h9 := hrw 209; first | exact Or.inr ⟨rfl, (by have := (nI_leI (by omega) (by omega)).mp c7; omega)⟩ | exact Or.inl ⟨rfl, Nat.lt_of_not_le (fun y => c7 (nI_le y (by omega)))⟩), htS⟩) t_nil dX4_isBelow_15
  · refine lv_iconst (v := 1) hx hb dX4_isBelow_10 (by decide) ?_
    refine lv_goto (tgt := 15) hx hb dX4_isBelow_11 (by decide) ?_
    exact W.zret (v := 1) hx hb hr rfl (fun tS htS hW => ⟨1, rfl, (by have h9 := hrw 209; first | exact Or.inr ⟨rfl, (by have := (nI_leI (by omega) (by omega)).mp c7; omega)⟩ | exact Or.inl ⟨rfl, Nat.lt_of_not_le (fun y => c7 (nI_le y (by omega)))⟩), htS⟩) t_nil dX4_isBelow_15

set_option maxHeartbeats 4000000 in
set_option maxRecDepth 100000 in
theorem c_X4_times (l : Launch) (dC : Nat → ClassId) (dI : Nat → Nat → Nat) (cI : ClassId) (mx m5 m6 m7 m8 m9 m10 m11 n dn bn wn : Nat) (th : Int32) (rw : Nat → Nat) (v w : Int32) (sz : Nat) (hrw : ∀ j, rw j < 256) : Met l yX4_times wsX4_times ({ frames := 0, cells := 0, slots := 0, locals := 0 } : Room) (va_Pc [.ref mx, .int v, .int w] (fun U => U.heap.size = sz ∧ va_P (dC, dI) vwCl [(mx, .inr (4, [.int th, .int (nI n), .int (nI dn), .int (nI bn), .int (nI wn), .ref m5, .ref m6, .ref m7, .ref m8, .ref m9, .ref m10, .ref m11])), (m6, .inl (cI, 210, .inl (fun j => nI (rw j))))] U.heap ∧ va_K (dC, dI) vwCl [(cI, .int)] U ∧ va_D (fun _ => True) [(mx, .inr (4, [.int th, .int (nI n), .int (nI dn), .int (nI bn), .int (nI wn), .ref m5, .ref m6, .ref m7, .ref m8, .ref m9, .ref m10, .ref m11])), (m6, .inl (cI, 210, .inl (fun j => nI (rw j))))])) (va_Qv (fun (g3 : Nat → Nat) => (∀ j, g3 j < 256) ∧ ∃ q : Int, (bv g3 210 : Int) + q * ((256 ^ 210 : Nat) : Int) = bv rw 210 * v.toInt + w.toInt) (fun (g3 : Nat → Nat) (tS : State) => va_P (dC, dI) vwCl [(mx, .inr (4, [.int th, .int (nI n), .int (nI dn), .int (nI bn), .int (nI wn), .ref m5, .ref m6, .ref m7, .ref m8, .ref m9, .ref m10, .ref m11])), (m6, .inl (cI, 210, .inl (fun j => nI (g3 j))))] tS.heap ∧ va_K (dC, dI) vwCl [(cI, .int)] tS ∧ va_D (va_A [(mx, .inr (4, [.int th, .int (nI n), .int (nI dn), .int (nI bn), .int (nI wn), .ref m5, .ref m6, .ref m7, .ref m8, .ref m9, .ref m10, .ref m11])), (m6, .inl (cI, 210, .inl (fun j => nI (rw j))))] sz) [(mx, .inr (4, [.int th, .int (nI n), .int (nI dn), .int (nI bn), .int (nI wn), .ref m5, .ref m6, .ref m7, .ref m8, .ref m9, .ref m10, .ref m11])), (m6, .inl (cI, 210, .inl (fun j => nI (g3 j))))]) (va_A [(mx, .inr (4, [.int th, .int (nI n), .int (nI dn), .int (nI bn), .int (nI wn), .ref m5, .ref m6, .ref m7, .ref m8, .ref m9, .ref m10, .ref m11])), (m6, .inl (cI, 210, .inl (fun j => nI (rw j))))] sz)) 0 0 (va_A [(mx, .inr (4, [.int th, .int (nI n), .int (nI dn), .int (nI bn), .int (nI wn), .ref m5, .ref m6, .ref m7, .ref m8, .ref m9, .ref m10, .ref m11])), (m6, .inl (cI, 210, .inl (fun j => nI (rw j))))] sz) := by
  refine Met.ofW (cc := cX4_times) (maxL := 6) (ret := none) (by decide) rfl ?_
  intro p e s m args below meth c s₁ B hml hv
  obtain ⟨rfl, hsz, hP, hK, hD0⟩ := hv
  have hx := B.exec
  have hb := B.bytes
  have hr := B.returns
  have hts := atoms_spec (ws := wsX4_times) B.pre
  have hown : s.vm.findClass RX4 = some m.cls := findClass_of_methodNamed B.named
  have hlocks := B.notSynchronized
  subst hsz
  have hD := hD0.self (sz := s.heap.size)
  generalize hAe : va_A [(mx, .inr (4, [.int th, .int (nI n), .int (nI dn), .int (nI bn), .int (nI wn), .ref m5, .ref m6, .ref m7, .ref m8, .ref m9, .ref m10, .ref m11])), (m6, .inl (cI, 210, .inl (fun j => nI (rw j))))] s.heap.size = A at hD ⊢
  have hA : ∀ q : Nat, s.heap.size ≤ q → A q := fun q h => by rw [← hAe]; exact Or.inr h
  have hS : va_S A s.heap s.heap [] := va_S.rf
  have hinX4 : ∀ w ∈ wsX40, w ∈ wsX4_times := by decide +kernel
  have hl := lv_entry ([.ref mx, .int v, .int w]) (n := 6) (Nat.le_of_ble_eq_true rfl)
  rw [lg_entry_eq]
  generalize (lg_sl ([.ref mx, .int v, .int w]) ++ List.replicate (6 - (lg_sl ([.ref mx, .int v, .int w])).length) Slot.unset).toArray = ls at hl ⊢
  have hl : lv_has ls 6 [(0, .ref mx), (1, .int v), (2, .int w)] := hl
  refine lv_iload_n hx hb dX4_times_0 rfl (lv_at hl 2 rfl) ?_
  refine lv_i2l hx hb dX4_times_1 rfl ?_
  refine lv_topl (fun x1 e1 => ?_)
  refine lv_lstore_n (lv' := [(3, .long x1), (0, .ref mx), (1, .int v), (2, .int w)]) hx hb dX4_times_2 rfl hl (by decide) rfl (fun ls hl => ?_)
  refine lv_iconst (v := (nI 0)) hx hb dX4_times_3 (by decide) ?_
  refine lv_istore (lv' := [(5, .int (nI 0)), (3, .long x1), (0, .ref mx), (1, .int v), (2, .int w)]) hx hb dX4_times_4 hl (by decide) rfl (fun ls hl => ?_)
  have LP6 : ∀ (n9 : Nat) (i : Nat) (g2 : Nat → Nat) (cr : Int64) (hm : (210 - i) < n9) (hi : i ≤ 210) (hg2 : ∀ j, g2 j < 256) (hs : ∀ j, i ≤ j → g2 j = rw j) (hc : -4294967296 ≤ cr.toInt ∧ cr.toInt ≤ 4294967296) (hv : (bv g2 i : Int) + cr.toInt * ((256 ^ i : Nat) : Int) = bv rw i * v.toInt + w.toInt) (H : Heap) (locs : List Loc) (ls : Array Slot) (hP : va_P (dC, dI) vwCl [(mx, .inr (4, [.int th, .int (nI n), .int (nI dn), .int (nI bn), .int (nI wn), .ref m5, .ref m6, .ref m7, .ref m8, .ref m9, .ref m10, .ref m11])), (m6, .inl (cI, 210, .inl (fun j => nI (g2 j))))] H) (hD : va_D A [(mx, .inr (4, [.int th, .int (nI n), .int (nI dn), .int (nI bn), .int (nI wn), .ref m5, .ref m6, .ref m7, .ref m8, .ref m9, .ref m10, .ref m11])), (m6, .inl (cI, 210, .inl (fun j => nI (g2 j))))]) (hS : va_S A s.heap H locs) (hl : lv_has ls 6 [(0, .ref mx), (1, .int v), (2, .int w), (3, .long cr), (5, .int (nI i))]), W p l e (headSpec wsX4_times ({ frames := 0, cells := 0, slots := 0, locals := 0 } : Room)).room s m ([.ref mx, .int v, .int w]).toArray below meth c H locs 0 0 (MQ below (va_Qv (fun (g3 : Nat → Nat) => (∀ j, g3 j < 256) ∧ ∃ q : Int, (bv g3 210 : Int) + q * ((256 ^ 210 : Nat) : Int) = bv rw 210 * v.toInt + w.toInt) (fun (g3 : Nat → Nat) (tS : State) => va_P (dC, dI) vwCl [(mx, .inr (4, [.int th, .int (nI n), .int (nI dn), .int (nI bn), .int (nI wn), .ref m5, .ref m6, .ref m7, .ref m8, .ref m9, .ref m10, .ref m11])), (m6, .inl (cI, 210, .inl (fun j => nI (g3 j))))] tS.heap ∧ va_K (dC, dI) vwCl [(cI, .int)] tS ∧ va_D A [(mx, .inr (4, [.int th, .int (nI n), .int (nI dn), .int (nI bn), .int (nI wn), .ref m5, .ref m6, .ref m7, .ref m8, .ref m9, .ref m10, .ref m11])), (m6, .inl (cI, 210, .inl (fun j => nI (g3 j))))]) A) ([.ref mx, .int v, .int w]).toArray s 0 0 A) (F0 m 6 ls []) := by
    intro n9
    induction n9 with
    | zero => intro i g2 cr hm; exact absurd hm (Nat.not_lt_zero _)
    | succ n9 ih =>
      intro i g2 cr hm hi hg2 hs hc hv H locs ls hP hD hS hl
      have ih6 := ih
      refine lv_iload hx hb dX4_times_6 (lv_at hl 4 rfl) ?_
      refine lv_sipush (v := (nI 210)) hx hb dX4_times_8 (by decide) ?_
      refine lv_icmp_ge (tgt := 52) hx hb dX4_times_11 (by decide) (fun c11 => ?_) (fun c11 => ?_)
      · have hP9 := hP.sub (ws' := [(mx, .inr (4, [.int th, .int (nI n), .int (nI dn), .int (nI bn), .int (nI wn), .ref m5, .ref m6, .ref m7, .ref m8, .ref m9, .ref m10, .ref m11])), (m6, .inl (cI, 210, .inl (fun j => nI (g2 j))))]) [0, 1] rfl
        have hD9 := hD.sub (ws' := [(mx, .inr (4, [.int th, .int (nI n), .int (nI dn), .int (nI bn), .int (nI wn), .ref m5, .ref m6, .ref m7, .ref m8, .ref m9, .ref m10, .ref m11])), (m6, .inl (cI, 210, .inl (fun j => nI (g2 j))))]) [0, 1] (by decide) rfl
        have hK9 := hK.sub (tys' := [(cI, .int)]) [0] rfl
        exact W.vret hx hb hr (fun tS htS hW => ⟨⟨g2, rfl, (by have he : i = 210 := Nat.le_antisymm hi ((nI_leI (by omega) (by omega)).mp c11); subst he; exact ⟨hg2, _, hv⟩), by rw [htS]; exact hP9, va_K.moved hW.alike hK9, hD9⟩, hS.F htS⟩) hS.2.2 dX4_times_52
      · have hlt : i < 210 := Nat.lt_of_not_le (fun h => c11 ((nI_leI (by omega) (by omega)).mpr h))
        refine lv_lload_n hx hb dX4_times_14 rfl (lv_at hl 3 rfl) ?_
        refine lv_aload_n hx hb dX4_times_15 rfl (lv_at hl 0 rfl) ?_
        refine va_get (D := (dC, dI)) (ci := 4) (v := .ref m6) (C := RX4) (T := TX4) (N := 12) hx hb hts hinX4 hown hK hP 0 rfl rfl 6 (by decide) (hts (.fieldLink RX4 13 "NumberContentsModel" "row" "[I") (by decide +kernel)) (fun _ h9 => h9) rfl dX4_times_16 ?_
        refine lv_iload hx hb dX4_times_19 (lv_at hl 4 rfl) ?_
        refine va_iald hx hb hK hP 1 0 rfl rfl (vp_in_nI (by omega) (by omega)) dX4_times_21 ?_
        refine lv_topi (fun x21 e21 => ?_)
        obtain rfl : x21 = nI (g2 i) := e21.trans (atg (by omega))
        refine lv_i2l hx hb dX4_times_22 rfl ?_
        refine lv_topl (fun x22 e22 => ?_)
        refine lv_iload_n hx hb dX4_times_23 rfl (lv_at hl 1 rfl) ?_
        refine lv_i2l hx hb dX4_times_24 rfl ?_
        refine lv_topl (fun x24 e24 => ?_)
        refine lv_lmul hx hb dX4_times_25 ?_
        refine lv_topl (fun x25 e25 => ?_)
        refine lv_ladd hx hb dX4_times_26 ?_
        refine lv_topl (fun x26 e26 => ?_)
        refine lv_lstore_n (lv' := [(3, .long x26), (0, .ref mx), (1, .int v), (2, .int w), (5, .int (nI i))]) hx hb dX4_times_27 rfl hl (by decide) rfl (fun ls hl => ?_)
        refine lv_aload_n hx hb dX4_times_28 rfl (lv_at hl 1 rfl) ?_
        refine va_get (D := (dC, dI)) (ci := 4) (v := .ref m6) (C := RX4) (T := TX4) (N := 12) hx hb hts hinX4 hown hK hP 0 rfl rfl 6 (by decide) (hts (.fieldLink RX4 13 "NumberContentsModel" "row" "[I") (by decide +kernel)) (fun _ h9 => h9) rfl dX4_times_29 ?_
        refine lv_iload hx hb dX4_times_32 (lv_at hl 4 rfl) ?_
        refine lv_lload_n hx hb dX4_times_34 rfl (lv_at hl 0 rfl) ?_
        refine lv_ldc2 (v := 255) hx hb hown (hts (.constantLong RX4 42 (255)) (by decide +kernel)) dX4_times_35 ?_
        refine lv_land hx hb dX4_times_38 ?_
        refine lv_topl (fun x38 e38 => ?_)
        refine lv_l2i hx hb dX4_times_39 rfl ?_
        refine lv_topi (fun x39 e39 => ?_)
        obtain rfl : x39 = nI (x26.toBitVec.toNat % 2 ^ 8) := e39.trans (by rw [e38]; exact l2i255 x26)
        refine va_iast hx hb hK hP hD hS 1 0 rfl rfl (vp_in_nI (by omega) (by omega)) dX4_times_40 (fun H locs hP hD hS => ?_)
        have hP : va_P (dC, dI) vwCl [(mx, .inr (4, [.int th, .int (nI n), .int (nI dn), .int (nI bn), .int (nI wn), .ref m5, .ref m6, .ref m7, .ref m8, .ref m9, .ref m10, .ref m11])), (m6, .inl (cI, 210, .inl (upd (fun j => nI (g2 j)) (nI i).toNatClampNeg (nI (x26.toBitVec.toNat % 2 ^ 8)))))] H := hP
        have hD : va_D A [(mx, .inr (4, [.int th, .int (nI n), .int (nI dn), .int (nI bn), .int (nI wn), .ref m5, .ref m6, .ref m7, .ref m8, .ref m9, .ref m10, .ref m11])), (m6, .inl (cI, 210, .inl (upd (fun j => nI (g2 j)) (nI i).toNatClampNeg (nI (x26.toBitVec.toNat % 2 ^ 8)))))] := hD
        obtain ⟨f40, e40⟩ : ∃ zz9 : Nat → Int32, zz9 = upd (fun j => nI (g2 j)) (nI i).toNatClampNeg (nI (x26.toBitVec.toNat % 2 ^ 8)) := ⟨_, rfl⟩
        rw [← e40] at hP hD
        obtain rfl : f40 = fun j => nI (va_up g2 i (x26.toBitVec.toNat % 2 ^ 8) j) := e40.trans (upg (by omega))
        refine lv_lload_n hx hb dX4_times_41 rfl (lv_at hl 0 rfl) ?_
        refine lv_bipush (v := 8) hx hb dX4_times_42 (by decide) ?_
        refine lv_lshr hx hb dX4_times_44 rfl ?_
        refine lv_topl (fun x44 e44 => ?_)
        refine lv_lstore_n (lv' := [(3, .long x44), (0, .ref mx), (1, .int v), (2, .int w), (5, .int (nI i))]) hx hb dX4_times_45 rfl hl (by decide) rfl (fun ls hl => ?_)
        obtain ⟨x46, e46⟩ : ∃ zz9 : Int32, zz9 = (nI i) + 1 := ⟨_, rfl⟩
        refine lv_iinc (v := x46) (lv' := [(5, .int x46), (3, .long x44), (0, .ref mx), (1, .int v), (2, .int w)]) hx hb dX4_times_46 hl (k := 4) rfl (by rw [e46]; rfl) (by decide) rfl (fun ls hl => ?_)
        obtain rfl : x46 = nI (i + 1) := e46.trans (nI_1 i)
        refine lv_goto (tgt := 6) hx hb dX4_times_49 (by decide) ?_
        have ht := ma_tot (hg2 i) e22 e24 e25 (e26.trans (Int64.add_comm _ _)) hc.1 hc.2
        have h8 := sh8l x26
        rw [← e44] at h8
        have hm8 := m8lt x26.toBitVec.toNat
        exact ih6 (i + 1) (va_up g2 i (x26.toBitVec.toNat % 2 ^ 8)) x44 (by omega) (by omega) (up_lt hg2 hm8) (fun j h => by rw [va_up_ne _ _ (by omega)]; exact hs j (by omega)) (by omega) (ma_step hv (by rw [ht.1, hs i (Nat.le_refl i)]) h8) _ _ _ (hP.sub [0, 1] rfl) (hD.sub [0, 1] (by decide) rfl) hS (lv_sub hl [2, 3, 4, 1, 0] rfl)
  exact LP6 _ 0 rw x1 (Nat.lt_succ_self _) (by omega) hrw (fun j h => rfl) (by rw [e1, i_l]; have := i_rng w; omega) (by rw [e1, i_l]; simp [bv]) _ _ _ (hP.sub [0, 1] rfl) (hD.sub [0, 1] (by decide) rfl) hS (lv_sub hl [2, 3, 4, 1, 0] rfl)

theorem fl_lo {f2 g : Nat → Nat} {i za b : Nat} (hlt : i < za) (h : ∀ j, j < i → j < za → f2 j = g (b + (za - 1 - j))) : ∀ j, j < i + 1 → j < za → va_up f2 i (g (b + za - 1 - i)) j = g (b + (za - 1 - j)) := by
  intro j h1 h2
  by_cases e : j = i
  · rw [e, va_up_self, show b + za - 1 - i = b + (za - 1 - i) from by omega]
  · rw [va_up_ne _ _ e]; exact h j (by omega) h2
theorem fl_lo2 {f2 g : Nat → Nat} {i za b v : Nat} (hge : za ≤ i) (h : ∀ j, j < i → j < za → f2 j = g (b + (za - 1 - j))) : ∀ j, j < i + 1 → j < za → va_up f2 i v j = g (b + (za - 1 - j)) := by
  intro j h1 h2
  rw [va_up_ne _ _ (by omega)]; exact h j (by omega) h2
theorem fl_hi {f2 : Nat → Nat} {i za v fl : Nat} (hlt : i < za) (h : ∀ j, j < i → za ≤ j → f2 j = fl) : ∀ j, j < i + 1 → za ≤ j → va_up f2 i v j = fl := by
  intro j h1 h2
  exact absurd h2 (by omega)
theorem fl_hi2 {f2 : Nat → Nat} {i za fl : Nat} (h : ∀ j, j < i → za ≤ j → f2 j = fl) : ∀ j, j < i + 1 → za ≤ j → va_up f2 i fl j = fl := by
  intro j h1 h2
  by_cases e : j = i
  · rw [e, va_up_self]
  · rw [va_up_ne _ _ e]; exact h j (by omega) h2

set_option maxHeartbeats 4000000 in
set_option maxRecDepth 100000 in
theorem c_X4_fill (l : Launch) (dC : Nat → ClassId) (dI : Nat → Nat → Nat) (cI cB : ClassId) (mx m5 m6 m7 m8 m9 m10 m11 n dn bn wn : Nat) (th : Int32) (g z f : Nat → Nat) (mr a : Nat) (sz : Nat) (hI : XM n g z) (ha : a < n) (hf : ∀ j, f j < 256) : Met l yX4_fill wsX4_fill ({ frames := 0, cells := 0, slots := 0, locals := 0 } : Room) (va_Pc [.ref mx, .ref mr, .int (nI a)] (fun U => U.heap.size = sz ∧ va_P (dC, dI) vwCl [(mx, .inr (4, [.int th, .int (nI n), .int (nI dn), .int (nI bn), .int (nI wn), .ref m5, .ref m6, .ref m7, .ref m8, .ref m9, .ref m10, .ref m11])), (m5, .inl (cI, 40, .inl (fun j => nI (z j)))), (m9, .inl (cB, 8000, .inl (fun j => sb_b (g j)))), (mr, .inl (cI, 210, .inl (fun j => nI (f j))))] U.heap ∧ va_K (dC, dI) vwCl [(cI, .int), (cB, .byte)] U ∧ va_D (fun _ => True) [(mx, .inr (4, [.int th, .int (nI n), .int (nI dn), .int (nI bn), .int (nI wn), .ref m5, .ref m6, .ref m7, .ref m8, .ref m9, .ref m10, .ref m11])), (m5, .inl (cI, 40, .inl (fun j => nI (z j)))), (m9, .inl (cB, 8000, .inl (fun j => sb_b (g j)))), (mr, .inl (cI, 210, .inl (fun j => nI (f j))))])) (va_Qv (fun (f3 : Nat → Nat) => (∀ j, f3 j < 256) ∧ sv f3 210 = mval g z a) (fun (f3 : Nat → Nat) (tS : State) => va_P (dC, dI) vwCl [(mx, .inr (4, [.int th, .int (nI n), .int (nI dn), .int (nI bn), .int (nI wn), .ref m5, .ref m6, .ref m7, .ref m8, .ref m9, .ref m10, .ref m11])), (m5, .inl (cI, 40, .inl (fun j => nI (z j)))), (m9, .inl (cB, 8000, .inl (fun j => sb_b (g j)))), (mr, .inl (cI, 210, .inl (fun j => nI (f3 j))))] tS.heap ∧ va_K (dC, dI) vwCl [(cI, .int), (cB, .byte)] tS ∧ va_D (va_A [(mx, .inr (4, [.int th, .int (nI n), .int (nI dn), .int (nI bn), .int (nI wn), .ref m5, .ref m6, .ref m7, .ref m8, .ref m9, .ref m10, .ref m11])), (m5, .inl (cI, 40, .inl (fun j => nI (z j)))), (m9, .inl (cB, 8000, .inl (fun j => sb_b (g j)))), (mr, .inl (cI, 210, .inl (fun j => nI (f j))))] sz) [(mx, .inr (4, [.int th, .int (nI n), .int (nI dn), .int (nI bn), .int (nI wn), .ref m5, .ref m6, .ref m7, .ref m8, .ref m9, .ref m10, .ref m11])), (m5, .inl (cI, 40, .inl (fun j => nI (z j)))), (m9, .inl (cB, 8000, .inl (fun j => sb_b (g j)))), (mr, .inl (cI, 210, .inl (fun j => nI (f3 j))))]) (va_A [(mx, .inr (4, [.int th, .int (nI n), .int (nI dn), .int (nI bn), .int (nI wn), .ref m5, .ref m6, .ref m7, .ref m8, .ref m9, .ref m10, .ref m11])), (m5, .inl (cI, 40, .inl (fun j => nI (z j)))), (m9, .inl (cB, 8000, .inl (fun j => sb_b (g j)))), (mr, .inl (cI, 210, .inl (fun j => nI (f j))))] sz)) 0 0 (va_A [(mx, .inr (4, [.int th, .int (nI n), .int (nI dn), .int (nI bn), .int (nI wn), .ref m5, .ref m6, .ref m7, .ref m8, .ref m9, .ref m10, .ref m11])), (m5, .inl (cI, 40, .inl (fun j => nI (z j)))), (m9, .inl (cB, 8000, .inl (fun j => sb_b (g j)))), (mr, .inl (cI, 210, .inl (fun j => nI (f j))))] sz) := by
  refine Met.ofW (cc := cX4_fill) (maxL := 5) (ret := none) (by decide) rfl ?_
  intro p e s m args below meth c s₁ B hml hv
  obtain ⟨rfl, hsz, hP, hK, hD0⟩ := hv
  have hx := B.exec
  have hb := B.bytes
  have hr := B.returns
  have hts := atoms_spec (ws := wsX4_fill) B.pre
  have hown : s.vm.findClass RX4 = some m.cls := findClass_of_methodNamed B.named
  have hlocks := B.notSynchronized
  subst hsz
  have hD := hD0.self (sz := s.heap.size)
  generalize hAe : va_A [(mx, .inr (4, [.int th, .int (nI n), .int (nI dn), .int (nI bn), .int (nI wn), .ref m5, .ref m6, .ref m7, .ref m8, .ref m9, .ref m10, .ref m11])), (m5, .inl (cI, 40, .inl (fun j => nI (z j)))), (m9, .inl (cB, 8000, .inl (fun j => sb_b (g j)))), (mr, .inl (cI, 210, .inl (fun j => nI (f j))))] s.heap.size = A at hD ⊢
  have hA : ∀ q : Nat, s.heap.size ≤ q → A q := fun q h => by rw [← hAe]; exact Or.inr h
  have hS : va_S A s.heap s.heap [] := va_S.rf
  have hinX4 : ∀ w ∈ wsX40, w ∈ wsX4_fill := by decide +kernel
  have hl := lv_entry ([.ref mx, .ref mr, .int (nI a)]) (n := 5) (Nat.le_of_ble_eq_true rfl)
  rw [lg_entry_eq]
  generalize (lg_sl ([.ref mx, .ref mr, .int (nI a)]) ++ List.replicate (5 - (lg_sl ([.ref mx, .ref mr, .int (nI a)])).length) Slot.unset).toArray = ls at hl ⊢
  have hl : lv_has ls 5 [(0, .ref mx), (1, .ref mr), (2, .int (nI a))] := hl
  obtain ⟨hg, hn, hz, hq⟩ := id hI
  have hza := hz a ha
  refine lv_aload_n hx hb dX4_fill_0 rfl (lv_at hl 0 rfl) ?_
  refine va_get (D := (dC, dI)) (ci := 4) (v := .ref m9) (C := RX4) (T := TX4) (N := 12) hx hb hts hinX4 hown hK hP 0 rfl rfl 9 (by decide) (hts (.fieldLink RX4 22 "NumberContentsModel" "kept" "[B") (by decide +kernel)) (fun _ h9 => h9) rfl dX4_fill_1 ?_
  refine lv_sipush (v := (nI 200)) hx hb dX4_fill_4 (by decide) ?_
  refine lv_iload_n hx hb dX4_fill_7 rfl (lv_at hl 2 rfl) ?_
  refine lv_imul hx hb dX4_fill_8 ?_
  refine lv_topi (fun x8 e8 => ?_)
  obtain rfl : x8 = nI (200 * a) := e8.trans (pk_mul 200 a)
  refine va_bald hx hb hK hP 2 1 rfl rfl (vp_in_nI (by omega) (by omega)) dX4_fill_9 ?_
  refine lv_topi (fun x9 e9 => ?_)
  obtain rfl : x9 = sb_b (g (200 * a)) := e9.trans (atsb (by omega))
  refine lv_if_ge (tgt := 19) hx hb dX4_fill_10 (by decide) (fun c10 => ?_) (fun c10 => ?_)
  · refine lv_iconst (v := (nI 0)) hx hb dX4_fill_19 (by decide) ?_
    refine lv_istore_n (lv' := [(3, .int (nI 0)), (0, .ref mx), (1, .ref mr), (2, .int (nI a))]) hx hb dX4_fill_20 rfl hl (by decide) rfl (fun ls hl => ?_)
    refine lv_iconst (v := (nI 0)) hx hb dX4_fill_21 (by decide) ?_
    refine lv_istore (lv' := [(4, .int (nI 0)), (3, .int (nI 0)), (0, .ref mx), (1, .ref mr), (2, .int (nI a))]) hx hb dX4_fill_22 hl (by decide) rfl (fun ls hl => ?_)
    have LP24 : ∀ (n9 : Nat) (i fl : Nat) (f2 : Nat → Nat) (hm : (210 - i) < n9) (hi : i ≤ 210) (hs : (fl = 255 ∧ 128 ≤ g (200 * a)) ∨ (fl = 0 ∧ g (200 * a) < 128)) (hf2 : ∀ j, f2 j < 256) (hlo : ∀ j, j < i → j < z a → f2 j = g (200 * a + (z a - 1 - j))) (hhi : ∀ j, j < i → z a ≤ j → f2 j = fl) (H : Heap) (locs : List Loc) (ls : Array Slot) (hP : va_P (dC, dI) vwCl [(mx, .inr (4, [.int th, .int (nI n), .int (nI dn), .int (nI bn), .int (nI wn), .ref m5, .ref m6, .ref m7, .ref m8, .ref m9, .ref m10, .ref m11])), (m5, .inl (cI, 40, .inl (fun j => nI (z j)))), (m9, .inl (cB, 8000, .inl (fun j => sb_b (g j)))), (mr, .inl (cI, 210, .inl (fun j => nI (f2 j))))] H) (hD : va_D A [(mx, .inr (4, [.int th, .int (nI n), .int (nI dn), .int (nI bn), .int (nI wn), .ref m5, .ref m6, .ref m7, .ref m8, .ref m9, .ref m10, .ref m11])), (m5, .inl (cI, 40, .inl (fun j => nI (z j)))), (m9, .inl (cB, 8000, .inl (fun j => sb_b (g j)))), (mr, .inl (cI, 210, .inl (fun j => nI (f2 j))))]) (hS : va_S A s.heap H locs) (hl : lv_has ls 5 [(0, .ref mx), (1, .ref mr), (2, .int (nI a)), (3, .int (nI fl)), (4, .int (nI i))]), W p l e (headSpec wsX4_fill ({ frames := 0, cells := 0, slots := 0, locals := 0 } : Room)).room s m ([.ref mx, .ref mr, .int (nI a)]).toArray below meth c H locs 0 0 (MQ below (va_Qv (fun (f3 : Nat → Nat) => (∀ j, f3 j < 256) ∧ sv f3 210 = mval g z a) (fun (f3 : Nat → Nat) (tS : State) => va_P (dC, dI) vwCl [(mx, .inr (4, [.int th, .int (nI n), .int (nI dn), .int (nI bn), .int (nI wn), .ref m5, .ref m6, .ref m7, .ref m8, .ref m9, .ref m10, .ref m11])), (m5, .inl (cI, 40, .inl (fun j => nI (z j)))), (m9, .inl (cB, 8000, .inl (fun j => sb_b (g j)))), (mr, .inl (cI, 210, .inl (fun j => nI (f3 j))))] tS.heap ∧ va_K (dC, dI) vwCl [(cI, .int), (cB, .byte)] tS ∧ va_D A [(mx, .inr (4, [.int th, .int (nI n), .int (nI dn), .int (nI bn), .int (nI wn), .ref m5, .ref m6, .ref m7, .ref m8, .ref m9, .ref m10, .ref m11])), (m5, .inl (cI, 40, .inl (fun j => nI (z j)))), (m9, .inl (cB, 8000, .inl (fun j => sb_b (g j)))), (mr, .inl (cI, 210, .inl (fun j => nI (f3 j))))]) A) ([.ref mx, .ref mr, .int (nI a)]).toArray s 0 0 A) (F0 m 24 ls []) := by
      intro n9
      induction n9 with
      | zero => intro i fl f2 hm; exact absurd hm (Nat.not_lt_zero _)
      | succ n9 ih =>
        intro i fl f2 hm hi hs hf2 hlo hhi H locs ls hP hD hS hl
        have ih24 := ih
        refine lv_iload hx hb dX4_fill_24 (lv_at hl 4 rfl) ?_
        refine lv_sipush (v := (nI 210)) hx hb dX4_fill_26 (by decide) ?_
        refine lv_icmp_ge (tgt := 83) hx hb dX4_fill_29 (by decide) (fun c29 => ?_) (fun c29 => ?_)
        · have hP9 := hP.sub (ws' := [(mx, .inr (4, [.int th, .int (nI n), .int (nI dn), .int (nI bn), .int (nI wn), .ref m5, .ref m6, .ref m7, .ref m8, .ref m9, .ref m10, .ref m11])), (m5, .inl (cI, 40, .inl (fun j => nI (z j)))), (m9, .inl (cB, 8000, .inl (fun j => sb_b (g j)))), (mr, .inl (cI, 210, .inl (fun j => nI (f2 j))))]) [0, 1, 2, 3] rfl
          have hD9 := hD.sub (ws' := [(mx, .inr (4, [.int th, .int (nI n), .int (nI dn), .int (nI bn), .int (nI wn), .ref m5, .ref m6, .ref m7, .ref m8, .ref m9, .ref m10, .ref m11])), (m5, .inl (cI, 40, .inl (fun j => nI (z j)))), (m9, .inl (cB, 8000, .inl (fun j => sb_b (g j)))), (mr, .inl (cI, 210, .inl (fun j => nI (f2 j))))]) [0, 1, 2, 3] (by decide) rfl
          have hK9 := hK.sub (tys' := [(cI, .int), (cB, .byte)]) [0, 1] rfl
          exact W.vret hx hb hr (fun tS htS hW => ⟨⟨f2, rfl, (by have he : i = 210 := Nat.le_antisymm hi ((nI_leI (by omega) (by omega)).mp c29); subst he; exact ⟨hf2, ext_sv (r := fun j => g (200 * a + (z a - 1 - j))) hza.1 (by omega) (by show (fl = 255 ∧ 128 ≤ g (200 * a + (z a - 1 - (z a - 1)))) ∨ (fl = 0 ∧ g (200 * a + (z a - 1 - (z a - 1))) < 128); rw [show z a - 1 - (z a - 1) = 0 from by omega, Nat.add_zero]; exact hs) (fun j hj => hlo j (by omega) hj) (fun j h1 h2 => hhi j h2 h1)⟩), by rw [htS]; exact hP9, va_K.moved hW.alike hK9, hD9⟩, hS.F htS⟩) hS.2.2 dX4_fill_83
        · have hlt : i < 210 := Nat.lt_of_not_le (fun h => c29 (nI_le h (by omega)))
          refine lv_aload_n hx hb dX4_fill_32 rfl (lv_at hl 1 rfl) ?_
          refine lv_iload hx hb dX4_fill_33 (lv_at hl 4 rfl) ?_
          refine lv_iload hx hb dX4_fill_35 (lv_at hl 4 rfl) ?_
          refine lv_aload_n hx hb dX4_fill_37 rfl (lv_at hl 0 rfl) ?_
          refine va_get (D := (dC, dI)) (ci := 4) (v := .ref m5) (C := RX4) (T := TX4) (N := 12) hx hb hts hinX4 hown hK hP 0 rfl rfl 5 (by decide) (hts (.fieldLink RX4 7 "NumberContentsModel" "sizes" "[I") (by decide +kernel)) (fun _ h9 => h9) rfl dX4_fill_38 ?_
          refine lv_iload_n hx hb dX4_fill_41 rfl (lv_at hl 2 rfl) ?_
          refine va_iald hx hb hK hP 1 0 rfl rfl (vp_in_nI (by omega) (by omega)) dX4_fill_42 ?_
          refine lv_topi (fun x42 e42 => ?_)
          obtain rfl : x42 = nI (z a) := e42.trans (atg (by omega))
          refine lv_icmp_ge (tgt := 75) hx hb dX4_fill_43 (by decide) (fun c43 => ?_) (fun c43 => ?_)
          · refine lv_iload_n hx hb dX4_fill_75 rfl (lv_at hl 3 rfl) ?_
            refine va_iast hx hb hK hP hD hS 3 0 rfl rfl (vp_in_nI (by omega) (by omega)) dX4_fill_76 (fun H locs hP hD hS => ?_)
            have hP : va_P (dC, dI) vwCl [(mx, .inr (4, [.int th, .int (nI n), .int (nI dn), .int (nI bn), .int (nI wn), .ref m5, .ref m6, .ref m7, .ref m8, .ref m9, .ref m10, .ref m11])), (m5, .inl (cI, 40, .inl (fun j => nI (z j)))), (m9, .inl (cB, 8000, .inl (fun j => sb_b (g j)))), (mr, .inl (cI, 210, .inl (upd (fun j => nI (f2 j)) (nI i).toNatClampNeg (nI fl))))] H := hP
            have hD : va_D A [(mx, .inr (4, [.int th, .int (nI n), .int (nI dn), .int (nI bn), .int (nI wn), .ref m5, .ref m6, .ref m7, .ref m8, .ref m9, .ref m10, .ref m11])), (m5, .inl (cI, 40, .inl (fun j => nI (z j)))), (m9, .inl (cB, 8000, .inl (fun j => sb_b (g j)))), (mr, .inl (cI, 210, .inl (upd (fun j => nI (f2 j)) (nI i).toNatClampNeg (nI fl))))] := hD
            obtain ⟨f76, e76⟩ : ∃ zz9 : Nat → Int32, zz9 = upd (fun j => nI (f2 j)) (nI i).toNatClampNeg (nI fl) := ⟨_, rfl⟩
            rw [← e76] at hP hD
            obtain rfl : f76 = fun j => nI (va_up f2 i fl j) := e76.trans (upg (by omega))
            obtain ⟨x77, e77⟩ : ∃ zz9 : Int32, zz9 = (nI i) + 1 := ⟨_, rfl⟩
            refine lv_iinc (v := x77) (lv' := [(4, .int x77), (0, .ref mx), (1, .ref mr), (2, .int (nI a)), (3, .int (nI fl))]) hx hb dX4_fill_77 hl (k := 4) rfl (by rw [e77]; rfl) (by decide) rfl (fun ls hl => ?_)
            obtain rfl : x77 = nI (i + 1) := e77.trans (nI_1 i)
            refine lv_goto (tgt := 24) hx hb dX4_fill_80 (by decide) ?_
            have hge43 : z a ≤ i := (nI_leI (by omega) (by omega)).mp c43
            exact ih24 (i + 1) fl (va_up f2 i fl) (by omega) (by omega) hs (up_lt hf2 (fl_lt hs)) (fl_lo2 hge43 hlo) (fl_hi2 hhi) _ _ _ (hP.sub [0, 1, 2, 3] rfl) (hD.sub [0, 1, 2, 3] (by decide) rfl) hS (lv_sub hl [1, 2, 3, 4, 0] rfl)
          · have hlt4 : i < z a := Nat.lt_of_not_le (fun h => c43 (nI_le h (by omega)))
            refine lv_aload_n hx hb dX4_fill_46 rfl (lv_at hl 0 rfl) ?_
            refine va_get (D := (dC, dI)) (ci := 4) (v := .ref m9) (C := RX4) (T := TX4) (N := 12) hx hb hts hinX4 hown hK hP 0 rfl rfl 9 (by decide) (hts (.fieldLink RX4 22 "NumberContentsModel" "kept" "[B") (by decide +kernel)) (fun _ h9 => h9) rfl dX4_fill_47 ?_
            refine lv_sipush (v := (nI 200)) hx hb dX4_fill_50 (by decide) ?_
            refine lv_iload_n hx hb dX4_fill_53 rfl (lv_at hl 2 rfl) ?_
            refine lv_imul hx hb dX4_fill_54 ?_
            refine lv_topi (fun x54 e54 => ?_)
            obtain rfl : x54 = nI (200 * a) := e54.trans (pk_mul 200 a)
            refine lv_aload_n hx hb dX4_fill_55 rfl (lv_at hl 0 rfl) ?_
            refine va_get (D := (dC, dI)) (ci := 4) (v := .ref m5) (C := RX4) (T := TX4) (N := 12) hx hb hts hinX4 hown hK hP 0 rfl rfl 5 (by decide) (hts (.fieldLink RX4 7 "NumberContentsModel" "sizes" "[I") (by decide +kernel)) (fun _ h9 => h9) rfl dX4_fill_56 ?_
            refine lv_iload_n hx hb dX4_fill_59 rfl (lv_at hl 2 rfl) ?_
            refine va_iald hx hb hK hP 1 0 rfl rfl (vp_in_nI (by omega) (by omega)) dX4_fill_60 ?_
            refine lv_topi (fun x60 e60 => ?_)
            obtain rfl : x60 = nI (z a) := e60.trans (atg (by omega))
            refine lv_iadd hx hb dX4_fill_61 ?_
            refine lv_topi (fun x61 e61 => ?_)
            obtain rfl : x61 = nI (200 * a + z a) := e61.trans (nI_add _ _)
            refine lv_iconst (v := 1) hx hb dX4_fill_62 (by decide) ?_
            refine lv_isub hx hb dX4_fill_63 ?_
            refine lv_topi (fun x63 e63 => ?_)
            obtain rfl : x63 = nI (200 * a + z a - 1) := e63.trans (nI_m1 (by omega))
            refine lv_iload hx hb dX4_fill_64 (lv_at hl 4 rfl) ?_
            refine lv_isub hx hb dX4_fill_66 ?_
            refine lv_topi (fun x66 e66 => ?_)
            obtain rfl : x66 = nI (200 * a + z a - 1 - i) := e66.trans (pk_sub (by omega))
            refine va_bald hx hb hK hP 2 1 rfl rfl (vp_in_nI (by omega) (by omega)) dX4_fill_67 ?_
            refine lv_topi (fun x67 e67 => ?_)
            obtain rfl : x67 = sb_b (g (200 * a + z a - 1 - i)) := e67.trans (atsb (by omega))
            refine lv_sipush (v := 255) hx hb dX4_fill_68 (by decide) ?_
            refine lv_iand hx hb dX4_fill_71 ?_
            refine lv_topi (fun x71 e71 => ?_)
            obtain rfl : x71 = nI (g (200 * a + z a - 1 - i)) := e71.trans (sb_and (hg _))
            refine lv_goto (tgt := 76) hx hb dX4_fill_72 (by decide) ?_
            refine va_iast hx hb hK hP hD hS 3 0 rfl rfl (vp_in_nI (by omega) (by omega)) dX4_fill_76 (fun H locs hP hD hS => ?_)
            have hP : va_P (dC, dI) vwCl [(mx, .inr (4, [.int th, .int (nI n), .int (nI dn), .int (nI bn), .int (nI wn), .ref m5, .ref m6, .ref m7, .ref m8, .ref m9, .ref m10, .ref m11])), (m5, .inl (cI, 40, .inl (fun j => nI (z j)))), (m9, .inl (cB, 8000, .inl (fun j => sb_b (g j)))), (mr, .inl (cI, 210, .inl (upd (fun j => nI (f2 j)) (nI i).toNatClampNeg (nI (g (200 * a + z a - 1 - i))))))] H := hP
            have hD : va_D A [(mx, .inr (4, [.int th, .int (nI n), .int (nI dn), .int (nI bn), .int (nI wn), .ref m5, .ref m6, .ref m7, .ref m8, .ref m9, .ref m10, .ref m11])), (m5, .inl (cI, 40, .inl (fun j => nI (z j)))), (m9, .inl (cB, 8000, .inl (fun j => sb_b (g j)))), (mr, .inl (cI, 210, .inl (upd (fun j => nI (f2 j)) (nI i).toNatClampNeg (nI (g (200 * a + z a - 1 - i))))))] := hD
            obtain ⟨f76, e76⟩ : ∃ zz9 : Nat → Int32, zz9 = upd (fun j => nI (f2 j)) (nI i).toNatClampNeg (nI (g (200 * a + z a - 1 - i))) := ⟨_, rfl⟩
            rw [← e76] at hP hD
            obtain rfl : f76 = fun j => nI (va_up f2 i (g (200 * a + z a - 1 - i)) j) := e76.trans (upg (by omega))
            obtain ⟨x77, e77⟩ : ∃ zz9 : Int32, zz9 = (nI i) + 1 := ⟨_, rfl⟩
            refine lv_iinc (v := x77) (lv' := [(4, .int x77), (0, .ref mx), (1, .ref mr), (2, .int (nI a)), (3, .int (nI fl))]) hx hb dX4_fill_77 hl (k := 4) rfl (by rw [e77]; rfl) (by decide) rfl (fun ls hl => ?_)
            obtain rfl : x77 = nI (i + 1) := e77.trans (nI_1 i)
            refine lv_goto (tgt := 24) hx hb dX4_fill_80 (by decide) ?_
            have hlt43 : i < z a := Nat.lt_of_not_le (fun h => c43 (nI_le h (by omega)))
            exact ih24 (i + 1) fl (va_up f2 i (g (200 * a + z a - 1 - i))) (by omega) (by omega) hs (up_lt hf2 (hg _)) (fl_lo hlt43 hlo) (fl_hi hlt43 hhi) _ _ _ (hP.sub [0, 1, 2, 3] rfl) (hD.sub [0, 1, 2, 3] (by decide) rfl) hS (lv_sub hl [1, 2, 3, 4, 0] rfl)
    exact LP24 _ 0 0 f (Nat.lt_succ_self _) (by omega) (Or.inr ⟨rfl, (sb_ge _ (hg _)).mp c10⟩) hf (fun j h => absurd h (by omega)) (fun j h => absurd h (by omega)) _ _ _ (hP.sub [0, 1, 2, 3] rfl) (hD.sub [0, 1, 2, 3] (by decide) rfl) hS (lv_sub hl [2, 3, 4, 1, 0] rfl)
  · refine lv_sipush (v := (nI 255)) hx hb dX4_fill_13 (by decide) ?_
    refine lv_goto (tgt := 20) hx hb dX4_fill_16 (by decide) ?_
    refine lv_istore_n (lv' := [(3, .int (nI 255)), (0, .ref mx), (1, .ref mr), (2, .int (nI a))]) hx hb dX4_fill_20 rfl hl (by decide) rfl (fun ls hl => ?_)
    refine lv_iconst (v := (nI 0)) hx hb dX4_fill_21 (by decide) ?_
    refine lv_istore (lv' := [(4, .int (nI 0)), (3, .int (nI 255)), (0, .ref mx), (1, .ref mr), (2, .int (nI a))]) hx hb dX4_fill_22 hl (by decide) rfl (fun ls hl => ?_)
    have LP24 : ∀ (n9 : Nat) (i fl : Nat) (f2 : Nat → Nat) (hm : (210 - i) < n9) (hi : i ≤ 210) (hs : (fl = 255 ∧ 128 ≤ g (200 * a)) ∨ (fl = 0 ∧ g (200 * a) < 128)) (hf2 : ∀ j, f2 j < 256) (hlo : ∀ j, j < i → j < z a → f2 j = g (200 * a + (z a - 1 - j))) (hhi : ∀ j, j < i → z a ≤ j → f2 j = fl) (H : Heap) (locs : List Loc) (ls : Array Slot) (hP : va_P (dC, dI) vwCl [(mx, .inr (4, [.int th, .int (nI n), .int (nI dn), .int (nI bn), .int (nI wn), .ref m5, .ref m6, .ref m7, .ref m8, .ref m9, .ref m10, .ref m11])), (m5, .inl (cI, 40, .inl (fun j => nI (z j)))), (m9, .inl (cB, 8000, .inl (fun j => sb_b (g j)))), (mr, .inl (cI, 210, .inl (fun j => nI (f2 j))))] H) (hD : va_D A [(mx, .inr (4, [.int th, .int (nI n), .int (nI dn), .int (nI bn), .int (nI wn), .ref m5, .ref m6, .ref m7, .ref m8, .ref m9, .ref m10, .ref m11])), (m5, .inl (cI, 40, .inl (fun j => nI (z j)))), (m9, .inl (cB, 8000, .inl (fun j => sb_b (g j)))), (mr, .inl (cI, 210, .inl (fun j => nI (f2 j))))]) (hS : va_S A s.heap H locs) (hl : lv_has ls 5 [(0, .ref mx), (1, .ref mr), (2, .int (nI a)), (3, .int (nI fl)), (4, .int (nI i))]), W p l e (headSpec wsX4_fill ({ frames := 0, cells := 0, slots := 0, locals := 0 } : Room)).room s m ([.ref mx, .ref mr, .int (nI a)]).toArray below meth c H locs 0 0 (MQ below (va_Qv (fun (f3 : Nat → Nat) => (∀ j, f3 j < 256) ∧ sv f3 210 = mval g z a) (fun (f3 : Nat → Nat) (tS : State) => va_P (dC, dI) vwCl [(mx, .inr (4, [.int th, .int (nI n), .int (nI dn), .int (nI bn), .int (nI wn), .ref m5, .ref m6, .ref m7, .ref m8, .ref m9, .ref m10, .ref m11])), (m5, .inl (cI, 40, .inl (fun j => nI (z j)))), (m9, .inl (cB, 8000, .inl (fun j => sb_b (g j)))), (mr, .inl (cI, 210, .inl (fun j => nI (f3 j))))] tS.heap ∧ va_K (dC, dI) vwCl [(cI, .int), (cB, .byte)] tS ∧ va_D A [(mx, .inr (4, [.int th, .int (nI n), .int (nI dn), .int (nI bn), .int (nI wn), .ref m5, .ref m6, .ref m7, .ref m8, .ref m9, .ref m10, .ref m11])), (m5, .inl (cI, 40, .inl (fun j => nI (z j)))), (m9, .inl (cB, 8000, .inl (fun j => sb_b (g j)))), (mr, .inl (cI, 210, .inl (fun j => nI (f3 j))))]) A) ([.ref mx, .ref mr, .int (nI a)]).toArray s 0 0 A) (F0 m 24 ls []) := by
      intro n9
      induction n9 with
      | zero => intro i fl f2 hm; exact absurd hm (Nat.not_lt_zero _)
      | succ n9 ih =>
        intro i fl f2 hm hi hs hf2 hlo hhi H locs ls hP hD hS hl
        have ih24 := ih
        refine lv_iload hx hb dX4_fill_24 (lv_at hl 4 rfl) ?_
        refine lv_sipush (v := (nI 210)) hx hb dX4_fill_26 (by decide) ?_
        refine lv_icmp_ge (tgt := 83) hx hb dX4_fill_29 (by decide) (fun c29 => ?_) (fun c29 => ?_)
        · have hP9 := hP.sub (ws' := [(mx, .inr (4, [.int th, .int (nI n), .int (nI dn), .int (nI bn), .int (nI wn), .ref m5, .ref m6, .ref m7, .ref m8, .ref m9, .ref m10, .ref m11])), (m5, .inl (cI, 40, .inl (fun j => nI (z j)))), (m9, .inl (cB, 8000, .inl (fun j => sb_b (g j)))), (mr, .inl (cI, 210, .inl (fun j => nI (f2 j))))]) [0, 1, 2, 3] rfl
          have hD9 := hD.sub (ws' := [(mx, .inr (4, [.int th, .int (nI n), .int (nI dn), .int (nI bn), .int (nI wn), .ref m5, .ref m6, .ref m7, .ref m8, .ref m9, .ref m10, .ref m11])), (m5, .inl (cI, 40, .inl (fun j => nI (z j)))), (m9, .inl (cB, 8000, .inl (fun j => sb_b (g j)))), (mr, .inl (cI, 210, .inl (fun j => nI (f2 j))))]) [0, 1, 2, 3] (by decide) rfl
          have hK9 := hK.sub (tys' := [(cI, .int), (cB, .byte)]) [0, 1] rfl
          exact W.vret hx hb hr (fun tS htS hW => ⟨⟨f2, rfl, (by have he : i = 210 := Nat.le_antisymm hi ((nI_leI (by omega) (by omega)).mp c29); subst he; exact ⟨hf2, ext_sv (r := fun j => g (200 * a + (z a - 1 - j))) hza.1 (by omega) (by show (fl = 255 ∧ 128 ≤ g (200 * a + (z a - 1 - (z a - 1)))) ∨ (fl = 0 ∧ g (200 * a + (z a - 1 - (z a - 1))) < 128); rw [show z a - 1 - (z a - 1) = 0 from by omega, Nat.add_zero]; exact hs) (fun j hj => hlo j (by omega) hj) (fun j h1 h2 => hhi j h2 h1)⟩), by rw [htS]; exact hP9, va_K.moved hW.alike hK9, hD9⟩, hS.F htS⟩) hS.2.2 dX4_fill_83
        · have hlt : i < 210 := Nat.lt_of_not_le (fun h => c29 (nI_le h (by omega)))
          refine lv_aload_n hx hb dX4_fill_32 rfl (lv_at hl 1 rfl) ?_
          refine lv_iload hx hb dX4_fill_33 (lv_at hl 4 rfl) ?_
          refine lv_iload hx hb dX4_fill_35 (lv_at hl 4 rfl) ?_
          refine lv_aload_n hx hb dX4_fill_37 rfl (lv_at hl 0 rfl) ?_
          refine va_get (D := (dC, dI)) (ci := 4) (v := .ref m5) (C := RX4) (T := TX4) (N := 12) hx hb hts hinX4 hown hK hP 0 rfl rfl 5 (by decide) (hts (.fieldLink RX4 7 "NumberContentsModel" "sizes" "[I") (by decide +kernel)) (fun _ h9 => h9) rfl dX4_fill_38 ?_
          refine lv_iload_n hx hb dX4_fill_41 rfl (lv_at hl 2 rfl) ?_
          refine va_iald hx hb hK hP 1 0 rfl rfl (vp_in_nI (by omega) (by omega)) dX4_fill_42 ?_
          refine lv_topi (fun x42 e42 => ?_)
          obtain rfl : x42 = nI (z a) := e42.trans (atg (by omega))
          refine lv_icmp_ge (tgt := 75) hx hb dX4_fill_43 (by decide) (fun c43 => ?_) (fun c43 => ?_)
          · refine lv_iload_n hx hb dX4_fill_75 rfl (lv_at hl 3 rfl) ?_
            refine va_iast hx hb hK hP hD hS 3 0 rfl rfl (vp_in_nI (by omega) (by omega)) dX4_fill_76 (fun H locs hP hD hS => ?_)
            have hP : va_P (dC, dI) vwCl [(mx, .inr (4, [.int th, .int (nI n), .int (nI dn), .int (nI bn), .int (nI wn), .ref m5, .ref m6, .ref m7, .ref m8, .ref m9, .ref m10, .ref m11])), (m5, .inl (cI, 40, .inl (fun j => nI (z j)))), (m9, .inl (cB, 8000, .inl (fun j => sb_b (g j)))), (mr, .inl (cI, 210, .inl (upd (fun j => nI (f2 j)) (nI i).toNatClampNeg (nI fl))))] H := hP
            have hD : va_D A [(mx, .inr (4, [.int th, .int (nI n), .int (nI dn), .int (nI bn), .int (nI wn), .ref m5, .ref m6, .ref m7, .ref m8, .ref m9, .ref m10, .ref m11])), (m5, .inl (cI, 40, .inl (fun j => nI (z j)))), (m9, .inl (cB, 8000, .inl (fun j => sb_b (g j)))), (mr, .inl (cI, 210, .inl (upd (fun j => nI (f2 j)) (nI i).toNatClampNeg (nI fl))))] := hD
            obtain ⟨f76, e76⟩ : ∃ zz9 : Nat → Int32, zz9 = upd (fun j => nI (f2 j)) (nI i).toNatClampNeg (nI fl) := ⟨_, rfl⟩
            rw [← e76] at hP hD
            obtain rfl : f76 = fun j => nI (va_up f2 i fl j) := e76.trans (upg (by omega))
            obtain ⟨x77, e77⟩ : ∃ zz9 : Int32, zz9 = (nI i) + 1 := ⟨_, rfl⟩
            refine lv_iinc (v := x77) (lv' := [(4, .int x77), (0, .ref mx), (1, .ref mr), (2, .int (nI a)), (3, .int (nI fl))]) hx hb dX4_fill_77 hl (k := 4) rfl (by rw [e77]; rfl) (by decide) rfl (fun ls hl => ?_)
            obtain rfl : x77 = nI (i + 1) := e77.trans (nI_1 i)
            refine lv_goto (tgt := 24) hx hb dX4_fill_80 (by decide) ?_
            have hge43 : z a ≤ i := (nI_leI (by omega) (by omega)).mp c43
            exact ih24 (i + 1) fl (va_up f2 i fl) (by omega) (by omega) hs (up_lt hf2 (fl_lt hs)) (fl_lo2 hge43 hlo) (fl_hi2 hhi) _ _ _ (hP.sub [0, 1, 2, 3] rfl) (hD.sub [0, 1, 2, 3] (by decide) rfl) hS (lv_sub hl [1, 2, 3, 4, 0] rfl)
          · have hlt4 : i < z a := Nat.lt_of_not_le (fun h => c43 (nI_le h (by omega)))
            refine lv_aload_n hx hb dX4_fill_46 rfl (lv_at hl 0 rfl) ?_
            refine va_get (D := (dC, dI)) (ci := 4) (v := .ref m9) (C := RX4) (T := TX4) (N := 12) hx hb hts hinX4 hown hK hP 0 rfl rfl 9 (by decide) (hts (.fieldLink RX4 22 "NumberContentsModel" "kept" "[B") (by decide +kernel)) (fun _ h9 => h9) rfl dX4_fill_47 ?_
            refine lv_sipush (v := (nI 200)) hx hb dX4_fill_50 (by decide) ?_
            refine lv_iload_n hx hb dX4_fill_53 rfl (lv_at hl 2 rfl) ?_
            refine lv_imul hx hb dX4_fill_54 ?_
            refine lv_topi (fun x54 e54 => ?_)
            obtain rfl : x54 = nI (200 * a) := e54.trans (pk_mul 200 a)
            refine lv_aload_n hx hb dX4_fill_55 rfl (lv_at hl 0 rfl) ?_
            refine va_get (D := (dC, dI)) (ci := 4) (v := .ref m5) (C := RX4) (T := TX4) (N := 12) hx hb hts hinX4 hown hK hP 0 rfl rfl 5 (by decide) (hts (.fieldLink RX4 7 "NumberContentsModel" "sizes" "[I") (by decide +kernel)) (fun _ h9 => h9) rfl dX4_fill_56 ?_
            refine lv_iload_n hx hb dX4_fill_59 rfl (lv_at hl 2 rfl) ?_
            refine va_iald hx hb hK hP 1 0 rfl rfl (vp_in_nI (by omega) (by omega)) dX4_fill_60 ?_
            refine lv_topi (fun x60 e60 => ?_)
            obtain rfl : x60 = nI (z a) := e60.trans (atg (by omega))
            refine lv_iadd hx hb dX4_fill_61 ?_
            refine lv_topi (fun x61 e61 => ?_)
            obtain rfl : x61 = nI (200 * a + z a) := e61.trans (nI_add _ _)
            refine lv_iconst (v := 1) hx hb dX4_fill_62 (by decide) ?_
            refine lv_isub hx hb dX4_fill_63 ?_
            refine lv_topi (fun x63 e63 => ?_)
            obtain rfl : x63 = nI (200 * a + z a - 1) := e63.trans (nI_m1 (by omega))
            refine lv_iload hx hb dX4_fill_64 (lv_at hl 4 rfl) ?_
            refine lv_isub hx hb dX4_fill_66 ?_
            refine lv_topi (fun x66 e66 => ?_)
            obtain rfl : x66 = nI (200 * a + z a - 1 - i) := e66.trans (pk_sub (by omega))
            refine va_bald hx hb hK hP 2 1 rfl rfl (vp_in_nI (by omega) (by omega)) dX4_fill_67 ?_
            refine lv_topi (fun x67 e67 => ?_)
            obtain rfl : x67 = sb_b (g (200 * a + z a - 1 - i)) := e67.trans (atsb (by omega))
            refine lv_sipush (v := 255) hx hb dX4_fill_68 (by decide) ?_
            refine lv_iand hx hb dX4_fill_71 ?_
            refine lv_topi (fun x71 e71 => ?_)
            obtain rfl : x71 = nI (g (200 * a + z a - 1 - i)) := e71.trans (sb_and (hg _))
            refine lv_goto (tgt := 76) hx hb dX4_fill_72 (by decide) ?_
            refine va_iast hx hb hK hP hD hS 3 0 rfl rfl (vp_in_nI (by omega) (by omega)) dX4_fill_76 (fun H locs hP hD hS => ?_)
            have hP : va_P (dC, dI) vwCl [(mx, .inr (4, [.int th, .int (nI n), .int (nI dn), .int (nI bn), .int (nI wn), .ref m5, .ref m6, .ref m7, .ref m8, .ref m9, .ref m10, .ref m11])), (m5, .inl (cI, 40, .inl (fun j => nI (z j)))), (m9, .inl (cB, 8000, .inl (fun j => sb_b (g j)))), (mr, .inl (cI, 210, .inl (upd (fun j => nI (f2 j)) (nI i).toNatClampNeg (nI (g (200 * a + z a - 1 - i))))))] H := hP
            have hD : va_D A [(mx, .inr (4, [.int th, .int (nI n), .int (nI dn), .int (nI bn), .int (nI wn), .ref m5, .ref m6, .ref m7, .ref m8, .ref m9, .ref m10, .ref m11])), (m5, .inl (cI, 40, .inl (fun j => nI (z j)))), (m9, .inl (cB, 8000, .inl (fun j => sb_b (g j)))), (mr, .inl (cI, 210, .inl (upd (fun j => nI (f2 j)) (nI i).toNatClampNeg (nI (g (200 * a + z a - 1 - i))))))] := hD
            obtain ⟨f76, e76⟩ : ∃ zz9 : Nat → Int32, zz9 = upd (fun j => nI (f2 j)) (nI i).toNatClampNeg (nI (g (200 * a + z a - 1 - i))) := ⟨_, rfl⟩
            rw [← e76] at hP hD
            obtain rfl : f76 = fun j => nI (va_up f2 i (g (200 * a + z a - 1 - i)) j) := e76.trans (upg (by omega))
            obtain ⟨x77, e77⟩ : ∃ zz9 : Int32, zz9 = (nI i) + 1 := ⟨_, rfl⟩
            refine lv_iinc (v := x77) (lv' := [(4, .int x77), (0, .ref mx), (1, .ref mr), (2, .int (nI a)), (3, .int (nI fl))]) hx hb dX4_fill_77 hl (k := 4) rfl (by rw [e77]; rfl) (by decide) rfl (fun ls hl => ?_)
            obtain rfl : x77 = nI (i + 1) := e77.trans (nI_1 i)
            refine lv_goto (tgt := 24) hx hb dX4_fill_80 (by decide) ?_
            have hlt43 : i < z a := Nat.lt_of_not_le (fun h => c43 (nI_le h (by omega)))
            exact ih24 (i + 1) fl (va_up f2 i (g (200 * a + z a - 1 - i))) (by omega) (by omega) hs (up_lt hf2 (hg _)) (fl_lo hlt43 hlo) (fl_hi hlt43 hhi) _ _ _ (hP.sub [0, 1, 2, 3] rfl) (hD.sub [0, 1, 2, 3] (by decide) rfl) hS (lv_sub hl [1, 2, 3, 4, 0] rfl)
    exact LP24 _ 0 255 f (Nat.lt_succ_self _) (by omega) (Or.inl ⟨rfl, Nat.le_of_not_lt (fun y => c10 ((sb_ge _ (hg _)).mpr y))⟩) hf (fun j h => absurd h (by omega)) (fun j h => absurd h (by omega)) _ _ _ (hP.sub [0, 1, 2, 3] rfl) (hD.sub [0, 1, 2, 3] (by decide) rfl) hS (lv_sub hl [2, 3, 4, 1, 0] rfl)

