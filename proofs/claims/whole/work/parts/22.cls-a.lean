theorem i_nle {x y : Int32} (h : ¬ y ≤ x) : x < y := by
  rw [Int32.le_iff_toInt_le] at h
  rw [Int32.lt_iff_toInt_lt]
  omega
theorem i_ltof {x y : Int32} (h : y ≤ x) (hn : ¬ x = y) : y < x := by
  rw [Int32.le_iff_toInt_le] at h
  rw [Int32.lt_iff_toInt_lt]
  have : x.toInt ≠ y.toInt := fun e => hn (Int32.toInt_inj.mp e)
  omega

set_option maxHeartbeats 4000000 in
set_option maxRecDepth 100000 in
theorem c_J6_compare_7cf53 (l : Launch) (dC : Nat → ClassId) (dI : Nat → Nat → Nat) (x y : Int32)  : Met l yJ6_compare_7cf53 wsJ6_compare_7cf53 ({ frames := 0, cells := 0, slots := 0, locals := 0 } : Room) (va_Pc [.int x, .int y] (fun _ => True)) (vp_Si (fun r : Int32 => (r = 1 ∧ y < x) ∨ (r = -1 ∧ x < y) ∨ (r = 0 ∧ x = y))) 0 0 (fun _ => False) := by
  refine Met.ofW (cc := cJ6_compare_7cf53) (maxL := 2) (ret := (some .int)) (by decide) rfl ?_
  intro p e s m args below meth c s₁ B hml hv
  obtain ⟨rfl, -⟩ := hv
  have hx := B.exec
  have hb := B.bytes
  have hr := B.returns
  have hts := atoms_spec (ws := wsJ6_compare_7cf53) B.pre
  have hown : s.vm.findClass RJ6 = some m.cls := findClass_of_methodNamed B.named
  have hlocks := B.notSynchronized
  have hl := lv_entry ([.int x, .int y]) (n := 2) (Nat.le_of_ble_eq_true rfl)
  rw [lg_entry_eq]
  generalize (lg_sl ([.int x, .int y]) ++ List.replicate (2 - (lg_sl ([.int x, .int y])).length) Slot.unset).toArray = ls at hl ⊢
  have hl : lv_has ls 2 [(0, .int x), (1, .int y)] := hl
  refine lv_iload_n hx hb dJ6_compare_7cf53_0 rfl (lv_at hl 0 rfl) ?_
  refine lv_iload_n hx hb dJ6_compare_7cf53_1 rfl (lv_at hl 1 rfl) ?_
  refine lv_icmp_ge (tgt := 9) hx hb dJ6_compare_7cf53_2 (by decide) (fun c2 => ?_) (fun c2 => ?_)
  · refine lv_iload_n hx hb dJ6_compare_7cf53_9 rfl (lv_at hl 0 rfl) ?_
    refine lv_iload_n hx hb dJ6_compare_7cf53_10 rfl (lv_at hl 1 rfl) ?_
    refine lv_icmp_ne (tgt := 18) hx hb dJ6_compare_7cf53_11 (by decide) (fun c11 => ?_) (fun c11 => ?_)
    · refine lv_iconst (v := 1) hx hb dJ6_compare_7cf53_18 (by decide) ?_
      exact W.iret (v := 1) hx hb hr (fun tS htS hW => ⟨1, rfl, (by first | exact Or.inr (Or.inl ⟨rfl, i_nle c2⟩) | exact Or.inr (Or.inr ⟨rfl, c11⟩) | exact Or.inl ⟨rfl, i_ltof c2 c11⟩), htS⟩) t_nil dJ6_compare_7cf53_19
    · refine lv_iconst (v := 0) hx hb dJ6_compare_7cf53_14 (by decide) ?_
      refine lv_goto (tgt := 19) hx hb dJ6_compare_7cf53_15 (by decide) ?_
      exact W.iret (v := 0) hx hb hr (fun tS htS hW => ⟨0, rfl, (by first | exact Or.inr (Or.inl ⟨rfl, i_nle c2⟩) | exact Or.inr (Or.inr ⟨rfl, c11⟩) | exact Or.inl ⟨rfl, i_ltof c2 c11⟩), htS⟩) t_nil dJ6_compare_7cf53_19
  · refine lv_iconst (v := (-1)) hx hb dJ6_compare_7cf53_5 (by decide) ?_
    refine lv_goto (tgt := 19) hx hb dJ6_compare_7cf53_6 (by decide) ?_
    exact W.iret (v := (-1)) hx hb hr (fun tS htS hW => ⟨(-1), rfl, (by first | exact Or.inr (Or.inl ⟨rfl, i_nle c2⟩) | exact Or.inr (Or.inr ⟨rfl, c11⟩) | exact Or.inl ⟨rfl, i_ltof c2 c11⟩), htS⟩) t_nil dJ6_compare_7cf53_19

set_option maxHeartbeats 4000000 in
set_option maxRecDepth 100000 in
theorem c_X3_powerOfTen (l : Launch) (dC : Nat → ClassId) (dI : Nat → Nat → Nat) (n : Nat) (hn : n ≤ 9) : Met l yX3_powerOfTen wsX3_powerOfTen ({ frames := 0, cells := 0, slots := 0, locals := 0 } : Room) (va_Pc [.int (nI n)] (fun _ => True)) (vp_Si (fun r : Int32 => r = nI (10 ^ n))) 0 0 (fun _ => False) := by
  refine Met.ofW (cc := cX3_powerOfTen) (maxL := 3) (ret := (some .int)) (by decide) rfl ?_
  intro p e s m args below meth c s₁ B hml hv
  obtain ⟨rfl, -⟩ := hv
  have hx := B.exec
  have hb := B.bytes
  have hr := B.returns
  have hts := atoms_spec (ws := wsX3_powerOfTen) B.pre
  have hown : s.vm.findClass RX3 = some m.cls := findClass_of_methodNamed B.named
  have hlocks := B.notSynchronized
  have hl := lv_entry ([.int (nI n)]) (n := 3) (Nat.le_of_ble_eq_true rfl)
  rw [lg_entry_eq]
  generalize (lg_sl ([.int (nI n)]) ++ List.replicate (3 - (lg_sl ([.int (nI n)])).length) Slot.unset).toArray = ls at hl ⊢
  have hl : lv_has ls 3 [(0, .int (nI n))] := hl
  refine lv_iconst (v := (nI (10 ^ 0))) hx hb dX3_powerOfTen_0 (by decide) ?_
  refine lv_istore_n (lv' := [(1, .int (nI (10 ^ 0))), (0, .int (nI n))]) hx hb dX3_powerOfTen_1 rfl hl (by decide) rfl (fun ls hl => ?_)
  refine lv_iconst (v := (nI 0)) hx hb dX3_powerOfTen_2 (by decide) ?_
  refine lv_istore_n (lv' := [(2, .int (nI 0)), (1, .int (nI (10 ^ 0))), (0, .int (nI n))]) hx hb dX3_powerOfTen_3 rfl hl (by decide) rfl (fun ls hl => ?_)
  have LP4 : ∀ (n9 : Nat) (i : Nat) (hm : (n - i) < n9) (hi : i ≤ n) (ls : Array Slot) (hl : lv_has ls 3 [(0, .int (nI n)), (1, .int (nI (10 ^ i))), (2, .int (nI i))]), W p l e (headSpec wsX3_powerOfTen ({ frames := 0, cells := 0, slots := 0, locals := 0 } : Room)).room s m ([.int (nI n)]).toArray below meth c s.heap [] 0 0 (MQ below (vp_Si (fun r : Int32 => r = nI (10 ^ n))) ([.int (nI n)]).toArray s 0 0 (fun _ => False)) (F0 m 4 ls []) := by
    intro n9
    induction n9 with
    | zero => intro i hm; exact absurd hm (Nat.not_lt_zero _)
    | succ n9 ih =>
      intro i hm hi ls hl
      have ih4 := ih
      refine lv_iload_n hx hb dX3_powerOfTen_4 rfl (lv_at hl 2 rfl) ?_
      refine lv_iload_n hx hb dX3_powerOfTen_5 rfl (lv_at hl 0 rfl) ?_
      refine lv_icmp_ge (tgt := 26) hx hb dX3_powerOfTen_6 (by decide) (fun c6 => ?_) (fun c6 => ?_)
      · refine lv_iload_n hx hb dX3_powerOfTen_26 rfl (lv_at hl 1 rfl) ?_
        exact W.iret (v := (nI (10 ^ i))) hx hb hr (fun tS htS hW => ⟨(nI (10 ^ i)), rfl, (by have he : i = n := Nat.le_antisymm hi ((nI_leI (by omega) (by omega)).mp c6); rw [he]), htS⟩) t_nil dX3_powerOfTen_27
      · have hlt : i < n := Nat.lt_of_not_le (fun h => c6 (nI_le h (by omega)))
        refine lv_iload_n hx hb dX3_powerOfTen_9 rfl (lv_at hl 2 rfl) ?_
        refine lv_bipush (v := (nI 9)) hx hb dX3_powerOfTen_10 (by decide) ?_
        refine lv_icmp_ge (tgt := 26) hx hb dX3_powerOfTen_12 (by decide) (fun c12 => ?_) (fun c12 => ?_)
        · exact absurd c12 (nI_ge (by omega) (by omega))
        · refine lv_iload_n hx hb dX3_powerOfTen_15 rfl (lv_at hl 1 rfl) ?_
          refine lv_bipush (v := (nI 10)) hx hb dX3_powerOfTen_16 (by decide) ?_
          refine lv_imul hx hb dX3_powerOfTen_18 ?_
          refine lv_topi (fun x18 e18 => ?_)
          obtain rfl : x18 = nI (10 ^ (i + 1)) := e18.trans (pk_mul _ 10)
          refine lv_istore_n (lv' := [(1, .int (nI (10 ^ (i + 1)))), (0, .int (nI n)), (2, .int (nI i))]) hx hb dX3_powerOfTen_19 rfl hl (by decide) rfl (fun ls hl => ?_)
          obtain ⟨x20, e20⟩ : ∃ zz9 : Int32, zz9 = (nI i) + 1 := ⟨_, rfl⟩
          refine lv_iinc (v := x20) (lv' := [(2, .int x20), (1, .int (nI (10 ^ (i + 1)))), (0, .int (nI n))]) hx hb dX3_powerOfTen_20 hl (k := 2) rfl (by rw [e20]; rfl) (by decide) rfl (fun ls hl => ?_)
          obtain rfl : x20 = nI (i + 1) := e20.trans (nI_1 i)
          refine lv_goto (tgt := 4) hx hb dX3_powerOfTen_23 (by decide) ?_
          exact ih4 (i + 1) (by omega) (by omega) _ (lv_sub hl [2, 1, 0] rfl)
  exact LP4 _ 0 (Nat.lt_succ_self _) (by omega) _ (lv_sub hl [2, 1, 0] rfl)

set_option maxHeartbeats 4000000 in
set_option maxRecDepth 100000 in
theorem c_X3_addNumber (l : Launch) (dC : Nat → ClassId) (dI : Nat → Nat → Nat) (cI : ClassId) (ax ak ad ab ao aw : Nat) (k1 k2 n : Nat) (g z : Nat → Nat) (w1 : Nat) (w : Nat → Nat) (a : Nat) (t : Int32) (sz : Nat) (hg : ∀ j, g j < 256) (hn : n ≤ 40) (hz : ∀ a, a < n → 1 ≤ z a ∧ z a ≤ 200) (hw : ∀ j, w j < 256) (ha : a < n) (ht : t = 1 ∨ t = -1) : Met l yX3_addNumber wsX3_addNumber ({ frames := 3, cells := 0, slots := 0, locals := 65 } : Room) (va_Pc [.ref ax, .int (nI a), .int t] (fun U => U.heap.size = sz ∧ va_P (dC, dI) vwCl [(ax, .inr (3, [.ref ak, .ref ad, .ref ab, .ref ao, .ref aw])), (ak, .inr (0, [.ref k1, .ref k2, .int (nI n)])), (k1, .inl (cI, 8000, .inl (fun j => nI (g j)))), (k2, .inl (cI, 40, .inl (fun j => nI (z j)))), (aw, .inr (2, [.ref w1])), (w1, .inl (cI, 204, .inl (fun j => nI (w j))))] U.heap ∧ va_K (dC, dI) vwCl [(cI, .int)] U ∧ va_D (fun _ => True) [(ax, .inr (3, [.ref ak, .ref ad, .ref ab, .ref ao, .ref aw])), (ak, .inr (0, [.ref k1, .ref k2, .int (nI n)])), (k1, .inl (cI, 8000, .inl (fun j => nI (g j)))), (k2, .inl (cI, 40, .inl (fun j => nI (z j)))), (aw, .inr (2, [.ref w1])), (w1, .inl (cI, 204, .inl (fun j => nI (w j))))])) (va_Qv (fun (w3 : Nat → Nat) => (∀ j, w3 j < 256) ∧ ∃ q : Int, sv w3 204 + q * ((256 ^ 204 : Nat) : Int) = sv w 204 + t.toInt * nval g z a) (fun (w3 : Nat → Nat) (tS : State) => va_P (dC, dI) vwCl [(ax, .inr (3, [.ref ak, .ref ad, .ref ab, .ref ao, .ref aw])), (ak, .inr (0, [.ref k1, .ref k2, .int (nI n)])), (k1, .inl (cI, 8000, .inl (fun j => nI (g j)))), (k2, .inl (cI, 40, .inl (fun j => nI (z j)))), (aw, .inr (2, [.ref w1])), (w1, .inl (cI, 204, .inl (fun j => nI (w3 j))))] tS.heap ∧ va_K (dC, dI) vwCl [(cI, .int)] tS ∧ va_D (va_A [(ax, .inr (3, [.ref ak, .ref ad, .ref ab, .ref ao, .ref aw])), (ak, .inr (0, [.ref k1, .ref k2, .int (nI n)])), (k1, .inl (cI, 8000, .inl (fun j => nI (g j)))), (k2, .inl (cI, 40, .inl (fun j => nI (z j)))), (aw, .inr (2, [.ref w1])), (w1, .inl (cI, 204, .inl (fun j => nI (w j))))] sz) [(ax, .inr (3, [.ref ak, .ref ad, .ref ab, .ref ao, .ref aw])), (ak, .inr (0, [.ref k1, .ref k2, .int (nI n)])), (k1, .inl (cI, 8000, .inl (fun j => nI (g j)))), (k2, .inl (cI, 40, .inl (fun j => nI (z j)))), (aw, .inr (2, [.ref w1])), (w1, .inl (cI, 204, .inl (fun j => nI (w3 j))))]) (va_A [(ax, .inr (3, [.ref ak, .ref ad, .ref ab, .ref ao, .ref aw])), (ak, .inr (0, [.ref k1, .ref k2, .int (nI n)])), (k1, .inl (cI, 8000, .inl (fun j => nI (g j)))), (k2, .inl (cI, 40, .inl (fun j => nI (z j)))), (aw, .inr (2, [.ref w1])), (w1, .inl (cI, 204, .inl (fun j => nI (w j))))] sz)) 0 0 (va_A [(ax, .inr (3, [.ref ak, .ref ad, .ref ab, .ref ao, .ref aw])), (ak, .inr (0, [.ref k1, .ref k2, .int (nI n)])), (k1, .inl (cI, 8000, .inl (fun j => nI (g j)))), (k2, .inl (cI, 40, .inl (fun j => nI (z j)))), (aw, .inr (2, [.ref w1])), (w1, .inl (cI, 204, .inl (fun j => nI (w j))))] sz) := by
  refine Met.ofW (cc := cX3_addNumber) (maxL := 8) (ret := none) (by decide) rfl ?_
  intro p e s m args below meth c s₁ B hml hv
  obtain ⟨rfl, hsz, hP, hK, hD0⟩ := hv
  have hx := B.exec
  have hb := B.bytes
  have hr := B.returns
  have hts := atoms_spec (ws := wsX3_addNumber) B.pre
  have hown : s.vm.findClass RX3 = some m.cls := findClass_of_methodNamed B.named
  have hlocks := B.notSynchronized
  subst hsz
  have hD := hD0.self (sz := s.heap.size)
  generalize hAe : va_A [(ax, .inr (3, [.ref ak, .ref ad, .ref ab, .ref ao, .ref aw])), (ak, .inr (0, [.ref k1, .ref k2, .int (nI n)])), (k1, .inl (cI, 8000, .inl (fun j => nI (g j)))), (k2, .inl (cI, 40, .inl (fun j => nI (z j)))), (aw, .inr (2, [.ref w1])), (w1, .inl (cI, 204, .inl (fun j => nI (w j))))] s.heap.size = A at hD ⊢
  have hA : ∀ q : Nat, s.heap.size ≤ q → A q := fun q h => by rw [← hAe]; exact Or.inr h
  have hS : va_S A s.heap s.heap [] := va_S.rf
  have hinX3 : ∀ w ∈ wsX30, w ∈ wsX3_addNumber := by decide +kernel
  have hl := lv_entry ([.ref ax, .int (nI a), .int t]) (n := 8) (Nat.le_of_ble_eq_true rfl)
  rw [lg_entry_eq]
  generalize (lg_sl ([.ref ax, .int (nI a), .int t]) ++ List.replicate (8 - (lg_sl ([.ref ax, .int (nI a), .int t])).length) Slot.unset).toArray = ls at hl ⊢
  have hl : lv_has ls 8 [(0, .ref ax), (1, .int (nI a)), (2, .int t)] := hl
  have hza := hz a ha
  have tt : t.toInt = 1 ∨ t.toInt = -1 := by rcases ht with rfl | rfl <;> decide
  refine lv_aload_n hx hb dX3_addNumber_0 rfl (lv_at hl 0 rfl) ?_
  refine va_get (D := (dC, dI)) (ci := 3) (v := .ref ak) (C := RX3) (T := TX3) (N := 5) hx hb hts hinX3 hown hK hP 0 rfl rfl 0 (by decide) (hts (.fieldLink RX3 12 "NumberContents" "kept" "LNumberContents$Numbers;") (by decide +kernel)) (fun _ h9 => h9) rfl dX3_addNumber_1 ?_
  refine lv_iload_n hx hb dX3_addNumber_4 rfl (lv_at hl 1 rfl) ?_
  have hPc := hP.sub (ws' := [(ak, .inr (0, [.ref k1, .ref k2, .int (nI n)])), (k1, .inl (cI, 8000, .inl (fun j => nI (g j)))), (k2, .inl (cI, 40, .inl (fun j => nI (z j))))]) [1, 2, 3] rfl
  have hKc := hK.sub (tys' := [(cI, .int)]) [0] rfl
  refine vp_callSi (W.runV (As := [.int (nI a)]) (rest := []) ⟨hx, hb, hml, hown, hts⟩ (c_X0_sizeOf l dC dI cI ak k1 k2 n g z a hn ha) (cwV 1 hts gX3_addNumber_X0_sizeOf rfl rfl rfl (by decide +kernel) ⟨Nat.le_of_ble_eq_true rfl, Nat.le_of_ble_eq_true rfl⟩) ⟨fun a U g mk q => by obtain ⟨q0, qP, qK⟩ := q; exact ⟨q0, qP, va_K.moved (u := U) (U := U.calling g mk a) (Vm.Alike.refl U.vm) qK⟩, va_recv hK hP (ci := 0) (q0 := 1) rfl rfl, fun U hU hW => ⟨rfl, by rw [hU]; exact hPc, va_K.moved hW.alike hKc⟩⟩ rfl rfl hl.1 rfl (lv_room (Nat.le_of_ble_eq_true rfl)) dX3_addNumber_5 ⟨Nat.le_of_ble_eq_true rfl, Nat.le_of_ble_eq_true rfl⟩) (fun r5 h5 => ?_)
  obtain rfl : r5 = nI (z a) := h5
  refine lv_istore_n (lv' := [(3, .int (nI (z a))), (0, .ref ax), (1, .int (nI a)), (2, .int t)]) hx hb dX3_addNumber_8 rfl hl (by decide) rfl (fun ls hl => ?_)
  refine lv_aload_n hx hb dX3_addNumber_9 rfl (lv_at hl 1 rfl) ?_
  refine va_get (D := (dC, dI)) (ci := 3) (v := .ref ak) (C := RX3) (T := TX3) (N := 5) hx hb hts hinX3 hown hK hP 0 rfl rfl 0 (by decide) (hts (.fieldLink RX3 12 "NumberContents" "kept" "LNumberContents$Numbers;") (by decide +kernel)) (fun _ h9 => h9) rfl dX3_addNumber_10 ?_
  refine lv_iload_n hx hb dX3_addNumber_13 rfl (lv_at hl 2 rfl) ?_
  have hPc := hP.sub (ws' := [(ak, .inr (0, [.ref k1, .ref k2, .int (nI n)])), (k1, .inl (cI, 8000, .inl (fun j => nI (g j)))), (k2, .inl (cI, 40, .inl (fun j => nI (z j))))]) [1, 2, 3] rfl
  have hKc := hK.sub (tys' := [(cI, .int)]) [0] rfl
  refine vp_callSi (W.runV (As := [.int (nI a)]) (rest := []) ⟨hx, hb, hml, hown, hts⟩ (c_X0_isMinus l dC dI cI ak k1 k2 n g z a hg hn hz ha) (cwV 1 hts gX3_addNumber_X0_isMinus rfl rfl rfl (by decide +kernel) ⟨Nat.le_of_ble_eq_true rfl, Nat.le_of_ble_eq_true rfl⟩) ⟨fun a U g mk q => by obtain ⟨q0, qP, qK⟩ := q; exact ⟨q0, qP, va_K.moved (u := U) (U := U.calling g mk a) (Vm.Alike.refl U.vm) qK⟩, va_recv hK hP (ci := 0) (q0 := 1) rfl rfl, fun U hU hW => ⟨rfl, by rw [hU]; exact hPc, va_K.moved hW.alike hKc⟩⟩ rfl rfl hl.1 rfl (lv_room (Nat.le_of_ble_eq_true rfl)) dX3_addNumber_14 ⟨Nat.le_of_ble_eq_true rfl, Nat.le_of_ble_eq_true rfl⟩) (fun r14 h14 => ?_)
  refine lv_if_eq (tgt := 26) hx hb dX3_addNumber_17 (by decide) (fun c17 => ?_) (fun c17 => ?_)
  · refine lv_iconst (v := (nI 0)) hx hb dX3_addNumber_26 (by decide) ?_
    refine lv_istore (lv' := [(4, .int (nI 0)), (3, .int (nI (z a))), (0, .ref ax), (1, .int (nI a)), (2, .int t)]) hx hb dX3_addNumber_27 hl (by decide) rfl (fun ls hl => ?_)
    refine lv_iconst (v := 0) hx hb dX3_addNumber_29 (by decide) ?_
    refine lv_istore (lv' := [(5, .int 0), (4, .int (nI 0)), (3, .int (nI (z a))), (0, .ref ax), (1, .int (nI a)), (2, .int t)]) hx hb dX3_addNumber_30 hl (by decide) rfl (fun ls hl => ?_)
    refine lv_iconst (v := (nI 0)) hx hb dX3_addNumber_32 (by decide) ?_
    refine lv_istore (lv' := [(6, .int (nI 0)), (5, .int 0), (4, .int (nI 0)), (3, .int (nI (z a))), (0, .ref ax), (1, .int (nI a)), (2, .int t)]) hx hb dX3_addNumber_33 hl (by decide) rfl (fun ls hl => ?_)
    have LP35 : ∀ (n9 : Nat) (i fl : Nat) (c9 : Int32) (w2 : Nat → Nat) (hm : (204 - i) < n9) (hi : i ≤ 204) (hs : (fl = 255 ∧ 128 ≤ g (a * 200 + (z a - 1))) ∨ (fl = 0 ∧ g (a * 200 + (z a - 1)) < 128)) (hc : -2 ≤ c9.toInt ∧ c9.toInt ≤ 2) (hw2 : ∀ j, w2 j < 256) (hh : ∀ j, i ≤ j → w2 j = w j) (hv : (bv w2 i : Int) + c9.toInt * ((256 ^ i : Nat) : Int) = bv w i + t.toInt * bv (ext g (a * 200) (z a) fl) i) (H : Heap) (locs : List Loc) (ls : Array Slot) (hP : va_P (dC, dI) vwCl [(ax, .inr (3, [.ref ak, .ref ad, .ref ab, .ref ao, .ref aw])), (ak, .inr (0, [.ref k1, .ref k2, .int (nI n)])), (k1, .inl (cI, 8000, .inl (fun j => nI (g j)))), (k2, .inl (cI, 40, .inl (fun j => nI (z j)))), (aw, .inr (2, [.ref w1])), (w1, .inl (cI, 204, .inl (fun j => nI (w2 j))))] H) (hD : va_D A [(ax, .inr (3, [.ref ak, .ref ad, .ref ab, .ref ao, .ref aw])), (ak, .inr (0, [.ref k1, .ref k2, .int (nI n)])), (k1, .inl (cI, 8000, .inl (fun j => nI (g j)))), (k2, .inl (cI, 40, .inl (fun j => nI (z j)))), (aw, .inr (2, [.ref w1])), (w1, .inl (cI, 204, .inl (fun j => nI (w2 j))))]) (hS : va_S A s.heap H locs) (hl : lv_has ls 8 [(0, .ref ax), (1, .int (nI a)), (2, .int t), (3, .int (nI (z a))), (4, .int (nI fl)), (5, .int c9), (6, .int (nI i))]), W p l e (headSpec wsX3_addNumber ({ frames := 3, cells := 0, slots := 0, locals := 65 } : Room)).room s m ([.ref ax, .int (nI a), .int t]).toArray below meth c H locs 0 0 (MQ below (va_Qv (fun (w3 : Nat → Nat) => (∀ j, w3 j < 256) ∧ ∃ q : Int, sv w3 204 + q * ((256 ^ 204 : Nat) : Int) = sv w 204 + t.toInt * nval g z a) (fun (w3 : Nat → Nat) (tS : State) => va_P (dC, dI) vwCl [(ax, .inr (3, [.ref ak, .ref ad, .ref ab, .ref ao, .ref aw])), (ak, .inr (0, [.ref k1, .ref k2, .int (nI n)])), (k1, .inl (cI, 8000, .inl (fun j => nI (g j)))), (k2, .inl (cI, 40, .inl (fun j => nI (z j)))), (aw, .inr (2, [.ref w1])), (w1, .inl (cI, 204, .inl (fun j => nI (w3 j))))] tS.heap ∧ va_K (dC, dI) vwCl [(cI, .int)] tS ∧ va_D A [(ax, .inr (3, [.ref ak, .ref ad, .ref ab, .ref ao, .ref aw])), (ak, .inr (0, [.ref k1, .ref k2, .int (nI n)])), (k1, .inl (cI, 8000, .inl (fun j => nI (g j)))), (k2, .inl (cI, 40, .inl (fun j => nI (z j)))), (aw, .inr (2, [.ref w1])), (w1, .inl (cI, 204, .inl (fun j => nI (w3 j))))]) A) ([.ref ax, .int (nI a), .int t]).toArray s 0 0 A) (F0 m 35 ls []) := by
      intro n9
      induction n9 with
      | zero => intro i fl c9 w2 hm; exact absurd hm (Nat.not_lt_zero _)
      | succ n9 ih =>
        intro i fl c9 w2 hm hi hs hc hw2 hh hv H locs ls hP hD hS hl
        have ih35 := ih
        refine lv_iload hx hb dX3_addNumber_35 (lv_at hl 6 rfl) ?_
        refine lv_sipush (v := (nI 204)) hx hb dX3_addNumber_37 (by decide) ?_
        refine lv_icmp_ge (tgt := 90) hx hb dX3_addNumber_40 (by decide) (fun c40 => ?_) (fun c40 => ?_)
        · have hP9 := hP.sub (ws' := [(ax, .inr (3, [.ref ak, .ref ad, .ref ab, .ref ao, .ref aw])), (ak, .inr (0, [.ref k1, .ref k2, .int (nI n)])), (k1, .inl (cI, 8000, .inl (fun j => nI (g j)))), (k2, .inl (cI, 40, .inl (fun j => nI (z j)))), (aw, .inr (2, [.ref w1])), (w1, .inl (cI, 204, .inl (fun j => nI (w2 j))))]) [0, 1, 2, 3, 4, 5] rfl
          have hD9 := hD.sub (ws' := [(ax, .inr (3, [.ref ak, .ref ad, .ref ab, .ref ao, .ref aw])), (ak, .inr (0, [.ref k1, .ref k2, .int (nI n)])), (k1, .inl (cI, 8000, .inl (fun j => nI (g j)))), (k2, .inl (cI, 40, .inl (fun j => nI (z j)))), (aw, .inr (2, [.ref w1])), (w1, .inl (cI, 204, .inl (fun j => nI (w2 j))))]) [0, 1, 2, 3, 4, 5] (by decide) rfl
          have hK9 := hK.sub (tys' := [(cI, .int)]) [0] rfl
          exact W.vret hx hb hr (fun tS htS hW => ⟨⟨w2, rfl, (by have he : i = 204 := Nat.le_antisymm hi ((nI_leI (by omega) (by omega)).mp c40); subst he; exact ⟨hw2, an_end hza hs hv⟩), by rw [htS]; exact hP9, va_K.moved hW.alike hK9, hD9⟩, hS.F htS⟩) hS.2.2 dX3_addNumber_90
        · have hlt : i < 204 := Nat.lt_of_not_le (fun h => c40 (nI_le h (by omega)))
          refine lv_iload hx hb dX3_addNumber_43 (lv_at hl 6 rfl) ?_
          refine lv_iload_n hx hb dX3_addNumber_45 rfl (lv_at hl 3 rfl) ?_
          refine lv_icmp_ge (tgt := 62) hx hb dX3_addNumber_46 (by decide) (fun c46 => ?_) (fun c46 => ?_)
          · refine lv_iload hx hb dX3_addNumber_62 (lv_at hl 4 rfl) ?_
            refine lv_istore (lv' := [(7, .int (nI fl)), (0, .ref ax), (1, .int (nI a)), (2, .int t), (3, .int (nI (z a))), (4, .int (nI fl)), (5, .int c9), (6, .int (nI i))]) hx hb dX3_addNumber_64 hl (by decide) rfl (fun ls hl => ?_)
            refine lv_aload_n hx hb dX3_addNumber_66 rfl (lv_at hl 1 rfl) ?_
            refine va_get (D := (dC, dI)) (ci := 3) (v := .ref aw) (C := RX3) (T := TX3) (N := 5) hx hb hts hinX3 hown hK hP 0 rfl rfl 4 (by decide) (hts (.fieldLink RX3 34 "NumberContents" "wide" "LNumberContents$Wide;") (by decide +kernel)) (fun _ h9 => h9) rfl dX3_addNumber_67 ?_
            refine lv_iload hx hb dX3_addNumber_70 (lv_at hl 7 rfl) ?_
            refine lv_iload_n hx hb dX3_addNumber_72 rfl (lv_at hl 3 rfl) ?_
            refine lv_iload hx hb dX3_addNumber_73 (lv_at hl 0 rfl) ?_
            refine lv_imul hx hb dX3_addNumber_75 ?_
            refine lv_topi (fun x75 e75 => ?_)
            refine lv_iload hx hb dX3_addNumber_76 (lv_at hl 6 rfl) ?_
            refine lv_iadd hx hb dX3_addNumber_78 ?_
            refine lv_topi (fun x78 e78 => ?_)
            have hPc := hP.sub (ws' := [(aw, .inr (2, [.ref w1])), (w1, .inl (cI, 204, .inl (fun j => nI (w2 j))))]) [4, 5] rfl
            have hKc := hK.sub (tys' := [(cI, .int)]) [0] rfl
            have hDc := hD.sub (ws' := [(aw, .inr (2, [.ref w1])), (w1, .inl (cI, 204, .inl (fun j => nI (w2 j))))]) [4, 5] (by decide) rfl
            have hFc := va_free (wc := [(aw, .inr (2, [.ref w1])), (w1, .inl (cI, 204, .inl (fun j => nI (w2 j))))]) hD hS hA [4, 5] rfl
            refine va_calli (va_runV (As := [.int (nI i), .int x78]) (rest := []) ⟨hx, hb, hml, hown, hts⟩ (c_X2_addAt l dC dI cI aw w1 w2 i x78 H.size hw2 hlt (by first | exact (an_y ht (hg _) hc e75 e78).2 | exact (an_y ht (fl_lt hs) hc e75 e78).2)) (cwV 2 hts gX3_addNumber_X2_addAt rfl rfl rfl (by decide +kernel) ⟨Nat.le_of_ble_eq_true rfl, Nat.le_of_ble_eq_true rfl⟩) ⟨fun a U g mk q => by obtain ⟨q0, q1, qP, qK, qD⟩ := q; exact ⟨q0, q1, qP, va_K.moved (u := U) (U := U.calling g mk a) (Vm.Alike.refl U.vm) qK, qD⟩, va_recv hKc hPc (ci := 2) (q0 := 0) rfl rfl, fun U hU hW => ⟨rfl, by rw [hU], by rw [hU]; exact hPc, va_K.moved hW.alike hKc, hDc.weaken (fun _ _ _ _ => trivial)⟩⟩ rfl rfl hl.1 rfl (lv_room (Nat.le_of_ble_eq_true rfl)) dX3_addNumber_79 ⟨Nat.le_of_ble_eq_true rfl, Nat.le_of_ble_eq_true rfl⟩) hS (fun q _ h => hFc q h) hFc (fun r79 uS tS H1 locs htS hvm h79 hB hzS hkS hS => ?_)
            obtain ⟨b_79, rfl⟩ : ∃ z, z = uS := ⟨_, rfl⟩
            obtain ⟨hP1, hK1, hD1⟩ := hB
            rw [htS] at hP1
            have hK1 := va_K.moved hvm.symm hK1
            try dsimp only at h79
            obtain ⟨hP, hD⟩ := va_join (wr := [(ax, .inr (3, [.ref ak, .ref ad, .ref ab, .ref ao, .ref aw])), (ak, .inr (0, [.ref k1, .ref k2, .int (nI n)])), (k1, .inl (cI, 8000, .inl (fun j => nI (g j)))), (k2, .inl (cI, 40, .inl (fun j => nI (z j))))]) (w1 := [(aw, .inr (2, [.ref w1])), (w1, .inl (cI, 204, .inl (fun j => nI (va_up w2 i b_79 j))))]) hP hD [4, 5] [0, 1, 2, 3] rfl rfl (by decide) (by decide) hkS hFc hP1 hD1
            generalize H1 = H at hP hS ⊢
            have hP : va_P (dC, dI) vwCl [(ax, .inr (3, [.ref ak, .ref ad, .ref ab, .ref ao, .ref aw])), (ak, .inr (0, [.ref k1, .ref k2, .int (nI n)])), (k1, .inl (cI, 8000, .inl (fun j => nI (g j)))), (k2, .inl (cI, 40, .inl (fun j => nI (z j)))), (aw, .inr (2, [.ref w1])), (w1, .inl (cI, 204, .inl (fun j => nI (va_up w2 i b_79 j))))] H := hP
            have hD : va_D A [(ax, .inr (3, [.ref ak, .ref ad, .ref ab, .ref ao, .ref aw])), (ak, .inr (0, [.ref k1, .ref k2, .int (nI n)])), (k1, .inl (cI, 8000, .inl (fun j => nI (g j)))), (k2, .inl (cI, 40, .inl (fun j => nI (z j)))), (aw, .inr (2, [.ref w1])), (w1, .inl (cI, 204, .inl (fun j => nI (va_up w2 i b_79 j))))] := hD
            refine lv_istore (lv' := [(5, .int r79), (7, .int (nI fl)), (0, .ref ax), (1, .int (nI a)), (2, .int t), (3, .int (nI (z a))), (4, .int (nI fl)), (6, .int (nI i))]) hx hb dX3_addNumber_82 hl (by decide) rfl (fun ls hl => ?_)
            obtain ⟨x84, e84⟩ : ∃ zz9 : Int32, zz9 = (nI i) + 1 := ⟨_, rfl⟩
            refine lv_iinc (v := x84) (lv' := [(6, .int x84), (5, .int r79), (7, .int (nI fl)), (0, .ref ax), (1, .int (nI a)), (2, .int t), (3, .int (nI (z a))), (4, .int (nI fl))]) hx hb dX3_addNumber_84 hl (k := 7) rfl (by rw [e84]; rfl) (by decide) rfl (fun ls hl => ?_)
            obtain rfl : x84 = nI (i + 1) := e84.trans (nI_1 i)
            refine lv_goto (tgt := 35) hx hb dX3_addNumber_87 (by decide) ?_
            have hge46 : z a ≤ i := (nI_leI (by omega) (by omega)).mp c46
            have hx : fl = ext g (a * 200) (z a) fl i := (ext_hi (by omega)).symm
            have hit : fl < 256 := fl_lt hs
            have hyy := an_y ht hit hc e75 e78
            have hcc := an_c tt hit (hw2 i) h79.1 hc hyy.1 h79.2
            exact ih35 (i + 1) fl r79 (va_up w2 i b_79) (by omega) (by omega) hs hcc (up_lt hw2 h79.1) (fun j h => by rw [va_up_ne _ _ (by omega)]; exact hh j (by omega)) (an_step hv (hh i (Nat.le_refl i)) (hx ▸ hyy.1) h79.2) _ _ _ (hP.sub [0, 1, 2, 3, 4, 5] rfl) (hD.sub [0, 1, 2, 3, 4, 5] (by decide) rfl) hS (lv_sub hl [3, 4, 5, 6, 7, 1, 0] rfl)
          · refine lv_aload_n hx hb dX3_addNumber_49 rfl (lv_at hl 0 rfl) ?_
            refine va_get (D := (dC, dI)) (ci := 3) (v := .ref ak) (C := RX3) (T := TX3) (N := 5) hx hb hts hinX3 hown hK hP 0 rfl rfl 0 (by decide) (hts (.fieldLink RX3 12 "NumberContents" "kept" "LNumberContents$Numbers;") (by decide +kernel)) (fun _ h9 => h9) rfl dX3_addNumber_50 ?_
            refine lv_iload_n hx hb dX3_addNumber_53 rfl (lv_at hl 1 rfl) ?_
            refine lv_iload hx hb dX3_addNumber_54 (lv_at hl 6 rfl) ?_
            have hPc := hP.sub (ws' := [(ak, .inr (0, [.ref k1, .ref k2, .int (nI n)])), (k1, .inl (cI, 8000, .inl (fun j => nI (g j)))), (k2, .inl (cI, 40, .inl (fun j => nI (z j))))]) [1, 2, 3] rfl
            have hKc := hK.sub (tys' := [(cI, .int)]) [0] rfl
            refine vp_callSi (W.runV (As := [.int (nI a), .int (nI i)]) (rest := []) ⟨hx, hb, hml, hown, hts⟩ (c_X0_lowByte l dC dI cI ak k1 k2 n g z a i hn hz ha (Nat.lt_of_not_le (fun h => c46 (nI_le h (by omega))))) (cwV 2 hts gX3_addNumber_X0_lowByte rfl rfl rfl (by decide +kernel) ⟨Nat.le_of_ble_eq_true rfl, Nat.le_of_ble_eq_true rfl⟩) ⟨fun a U g mk q => by obtain ⟨q0, qP, qK⟩ := q; exact ⟨q0, qP, va_K.moved (u := U) (U := U.calling g mk a) (Vm.Alike.refl U.vm) qK⟩, va_recv hK hP (ci := 0) (q0 := 1) rfl rfl, fun U hU hW => ⟨rfl, by rw [hU]; exact hPc, va_K.moved hW.alike hKc⟩⟩ rfl rfl hl.1 rfl (lv_room (Nat.le_of_ble_eq_true rfl)) dX3_addNumber_56 ⟨Nat.le_of_ble_eq_true rfl, Nat.le_of_ble_eq_true rfl⟩) (fun r56 h56 => ?_)
            obtain rfl : r56 = nI (g (a * 200 + i)) := h56
            refine lv_goto (tgt := 64) hx hb dX3_addNumber_59 (by decide) ?_
            refine lv_istore (lv' := [(7, .int (nI (g (a * 200 + i)))), (0, .ref ax), (1, .int (nI a)), (2, .int t), (3, .int (nI (z a))), (4, .int (nI fl)), (5, .int c9), (6, .int (nI i))]) hx hb dX3_addNumber_64 hl (by decide) rfl (fun ls hl => ?_)
            refine lv_aload_n hx hb dX3_addNumber_66 rfl (lv_at hl 1 rfl) ?_
            refine va_get (D := (dC, dI)) (ci := 3) (v := .ref aw) (C := RX3) (T := TX3) (N := 5) hx hb hts hinX3 hown hK hP 0 rfl rfl 4 (by decide) (hts (.fieldLink RX3 34 "NumberContents" "wide" "LNumberContents$Wide;") (by decide +kernel)) (fun _ h9 => h9) rfl dX3_addNumber_67 ?_
            refine lv_iload hx hb dX3_addNumber_70 (lv_at hl 7 rfl) ?_
            refine lv_iload_n hx hb dX3_addNumber_72 rfl (lv_at hl 3 rfl) ?_
            refine lv_iload hx hb dX3_addNumber_73 (lv_at hl 0 rfl) ?_
            refine lv_imul hx hb dX3_addNumber_75 ?_
            refine lv_topi (fun x75 e75 => ?_)
            refine lv_iload hx hb dX3_addNumber_76 (lv_at hl 6 rfl) ?_
            refine lv_iadd hx hb dX3_addNumber_78 ?_
            refine lv_topi (fun x78 e78 => ?_)
            have hPc := hP.sub (ws' := [(aw, .inr (2, [.ref w1])), (w1, .inl (cI, 204, .inl (fun j => nI (w2 j))))]) [4, 5] rfl
            have hKc := hK.sub (tys' := [(cI, .int)]) [0] rfl
            have hDc := hD.sub (ws' := [(aw, .inr (2, [.ref w1])), (w1, .inl (cI, 204, .inl (fun j => nI (w2 j))))]) [4, 5] (by decide) rfl
            have hFc := va_free (wc := [(aw, .inr (2, [.ref w1])), (w1, .inl (cI, 204, .inl (fun j => nI (w2 j))))]) hD hS hA [4, 5] rfl
            refine va_calli (va_runV (As := [.int (nI i), .int x78]) (rest := []) ⟨hx, hb, hml, hown, hts⟩ (c_X2_addAt l dC dI cI aw w1 w2 i x78 H.size hw2 hlt (by first | exact (an_y ht (hg _) hc e75 e78).2 | exact (an_y ht (fl_lt hs) hc e75 e78).2)) (cwV 2 hts gX3_addNumber_X2_addAt rfl rfl rfl (by decide +kernel) ⟨Nat.le_of_ble_eq_true rfl, Nat.le_of_ble_eq_true rfl⟩) ⟨fun a U g mk q => by obtain ⟨q0, q1, qP, qK, qD⟩ := q; exact ⟨q0, q1, qP, va_K.moved (u := U) (U := U.calling g mk a) (Vm.Alike.refl U.vm) qK, qD⟩, va_recv hKc hPc (ci := 2) (q0 := 0) rfl rfl, fun U hU hW => ⟨rfl, by rw [hU], by rw [hU]; exact hPc, va_K.moved hW.alike hKc, hDc.weaken (fun _ _ _ _ => trivial)⟩⟩ rfl rfl hl.1 rfl (lv_room (Nat.le_of_ble_eq_true rfl)) dX3_addNumber_79 ⟨Nat.le_of_ble_eq_true rfl, Nat.le_of_ble_eq_true rfl⟩) hS (fun q _ h => hFc q h) hFc (fun r79 uS tS H1 locs htS hvm h79 hB hzS hkS hS => ?_)
            obtain ⟨b_79, rfl⟩ : ∃ z, z = uS := ⟨_, rfl⟩
            obtain ⟨hP1, hK1, hD1⟩ := hB
            rw [htS] at hP1
            have hK1 := va_K.moved hvm.symm hK1
            try dsimp only at h79
            obtain ⟨hP, hD⟩ := va_join (wr := [(ax, .inr (3, [.ref ak, .ref ad, .ref ab, .ref ao, .ref aw])), (ak, .inr (0, [.ref k1, .ref k2, .int (nI n)])), (k1, .inl (cI, 8000, .inl (fun j => nI (g j)))), (k2, .inl (cI, 40, .inl (fun j => nI (z j))))]) (w1 := [(aw, .inr (2, [.ref w1])), (w1, .inl (cI, 204, .inl (fun j => nI (va_up w2 i b_79 j))))]) hP hD [4, 5] [0, 1, 2, 3] rfl rfl (by decide) (by decide) hkS hFc hP1 hD1
            generalize H1 = H at hP hS ⊢
            have hP : va_P (dC, dI) vwCl [(ax, .inr (3, [.ref ak, .ref ad, .ref ab, .ref ao, .ref aw])), (ak, .inr (0, [.ref k1, .ref k2, .int (nI n)])), (k1, .inl (cI, 8000, .inl (fun j => nI (g j)))), (k2, .inl (cI, 40, .inl (fun j => nI (z j)))), (aw, .inr (2, [.ref w1])), (w1, .inl (cI, 204, .inl (fun j => nI (va_up w2 i b_79 j))))] H := hP
            have hD : va_D A [(ax, .inr (3, [.ref ak, .ref ad, .ref ab, .ref ao, .ref aw])), (ak, .inr (0, [.ref k1, .ref k2, .int (nI n)])), (k1, .inl (cI, 8000, .inl (fun j => nI (g j)))), (k2, .inl (cI, 40, .inl (fun j => nI (z j)))), (aw, .inr (2, [.ref w1])), (w1, .inl (cI, 204, .inl (fun j => nI (va_up w2 i b_79 j))))] := hD
            refine lv_istore (lv' := [(5, .int r79), (7, .int (nI (g (a * 200 + i)))), (0, .ref ax), (1, .int (nI a)), (2, .int t), (3, .int (nI (z a))), (4, .int (nI fl)), (6, .int (nI i))]) hx hb dX3_addNumber_82 hl (by decide) rfl (fun ls hl => ?_)
            obtain ⟨x84, e84⟩ : ∃ zz9 : Int32, zz9 = (nI i) + 1 := ⟨_, rfl⟩
            refine lv_iinc (v := x84) (lv' := [(6, .int x84), (5, .int r79), (7, .int (nI (g (a * 200 + i)))), (0, .ref ax), (1, .int (nI a)), (2, .int t), (3, .int (nI (z a))), (4, .int (nI fl))]) hx hb dX3_addNumber_84 hl (k := 7) rfl (by rw [e84]; rfl) (by decide) rfl (fun ls hl => ?_)
            obtain rfl : x84 = nI (i + 1) := e84.trans (nI_1 i)
            refine lv_goto (tgt := 35) hx hb dX3_addNumber_87 (by decide) ?_
            have hlt46 : i < z a := Nat.lt_of_not_le (fun h => c46 (nI_le h (by omega)))
            have hx : g (a * 200 + i) = ext g (a * 200) (z a) fl i := (ext_lo (by first | exact hlt46 | omega)).symm
            have hit : g (a * 200 + i) < 256 := hg _
            have hyy := an_y ht hit hc e75 e78
            have hcc := an_c tt hit (hw2 i) h79.1 hc hyy.1 h79.2
            exact ih35 (i + 1) fl r79 (va_up w2 i b_79) (by omega) (by omega) hs hcc (up_lt hw2 h79.1) (fun j h => by rw [va_up_ne _ _ (by omega)]; exact hh j (by omega)) (an_step hv (hh i (Nat.le_refl i)) (hx ▸ hyy.1) h79.2) _ _ _ (hP.sub [0, 1, 2, 3, 4, 5] rfl) (hD.sub [0, 1, 2, 3, 4, 5] (by decide) rfl) hS (lv_sub hl [3, 4, 5, 6, 7, 1, 0] rfl)
    exact LP35 _ 0 0 0 w (Nat.lt_succ_self _) (by omega) (Or.inr ⟨rfl, Nat.lt_of_not_le (ite_r h14 c17)⟩) (by decide) hw (fun j h => rfl) (by simp [bv]) _ _ _ (hP.sub [0, 1, 2, 3, 4, 5] rfl) (hD.sub [0, 1, 2, 3, 4, 5] (by decide) rfl) hS (lv_sub hl [4, 5, 6, 3, 2, 1, 0] rfl)
  · refine lv_sipush (v := (nI 255)) hx hb dX3_addNumber_20 (by decide) ?_
    refine lv_goto (tgt := 27) hx hb dX3_addNumber_23 (by decide) ?_
    refine lv_istore (lv' := [(4, .int (nI 255)), (3, .int (nI (z a))), (0, .ref ax), (1, .int (nI a)), (2, .int t)]) hx hb dX3_addNumber_27 hl (by decide) rfl (fun ls hl => ?_)
    refine lv_iconst (v := 0) hx hb dX3_addNumber_29 (by decide) ?_
    refine lv_istore (lv' := [(5, .int 0), (4, .int (nI 255)), (3, .int (nI (z a))), (0, .ref ax), (1, .int (nI a)), (2, .int t)]) hx hb dX3_addNumber_30 hl (by decide) rfl (fun ls hl => ?_)
    refine lv_iconst (v := (nI 0)) hx hb dX3_addNumber_32 (by decide) ?_
    refine lv_istore (lv' := [(6, .int (nI 0)), (5, .int 0), (4, .int (nI 255)), (3, .int (nI (z a))), (0, .ref ax), (1, .int (nI a)), (2, .int t)]) hx hb dX3_addNumber_33 hl (by decide) rfl (fun ls hl => ?_)
    have LP35 : ∀ (n9 : Nat) (i fl : Nat) (c9 : Int32) (w2 : Nat → Nat) (hm : (204 - i) < n9) (hi : i ≤ 204) (hs : (fl = 255 ∧ 128 ≤ g (a * 200 + (z a - 1))) ∨ (fl = 0 ∧ g (a * 200 + (z a - 1)) < 128)) (hc : -2 ≤ c9.toInt ∧ c9.toInt ≤ 2) (hw2 : ∀ j, w2 j < 256) (hh : ∀ j, i ≤ j → w2 j = w j) (hv : (bv w2 i : Int) + c9.toInt * ((256 ^ i : Nat) : Int) = bv w i + t.toInt * bv (ext g (a * 200) (z a) fl) i) (H : Heap) (locs : List Loc) (ls : Array Slot) (hP : va_P (dC, dI) vwCl [(ax, .inr (3, [.ref ak, .ref ad, .ref ab, .ref ao, .ref aw])), (ak, .inr (0, [.ref k1, .ref k2, .int (nI n)])), (k1, .inl (cI, 8000, .inl (fun j => nI (g j)))), (k2, .inl (cI, 40, .inl (fun j => nI (z j)))), (aw, .inr (2, [.ref w1])), (w1, .inl (cI, 204, .inl (fun j => nI (w2 j))))] H) (hD : va_D A [(ax, .inr (3, [.ref ak, .ref ad, .ref ab, .ref ao, .ref aw])), (ak, .inr (0, [.ref k1, .ref k2, .int (nI n)])), (k1, .inl (cI, 8000, .inl (fun j => nI (g j)))), (k2, .inl (cI, 40, .inl (fun j => nI (z j)))), (aw, .inr (2, [.ref w1])), (w1, .inl (cI, 204, .inl (fun j => nI (w2 j))))]) (hS : va_S A s.heap H locs) (hl : lv_has ls 8 [(0, .ref ax), (1, .int (nI a)), (2, .int t), (3, .int (nI (z a))), (4, .int (nI fl)), (5, .int c9), (6, .int (nI i))]), W p l e (headSpec wsX3_addNumber ({ frames := 3, cells := 0, slots := 0, locals := 65 } : Room)).room s m ([.ref ax, .int (nI a), .int t]).toArray below meth c H locs 0 0 (MQ below (va_Qv (fun (w3 : Nat → Nat) => (∀ j, w3 j < 256) ∧ ∃ q : Int, sv w3 204 + q * ((256 ^ 204 : Nat) : Int) = sv w 204 + t.toInt * nval g z a) (fun (w3 : Nat → Nat) (tS : State) => va_P (dC, dI) vwCl [(ax, .inr (3, [.ref ak, .ref ad, .ref ab, .ref ao, .ref aw])), (ak, .inr (0, [.ref k1, .ref k2, .int (nI n)])), (k1, .inl (cI, 8000, .inl (fun j => nI (g j)))), (k2, .inl (cI, 40, .inl (fun j => nI (z j)))), (aw, .inr (2, [.ref w1])), (w1, .inl (cI, 204, .inl (fun j => nI (w3 j))))] tS.heap ∧ va_K (dC, dI) vwCl [(cI, .int)] tS ∧ va_D A [(ax, .inr (3, [.ref ak, .ref ad, .ref ab, .ref ao, .ref aw])), (ak, .inr (0, [.ref k1, .ref k2, .int (nI n)])), (k1, .inl (cI, 8000, .inl (fun j => nI (g j)))), (k2, .inl (cI, 40, .inl (fun j => nI (z j)))), (aw, .inr (2, [.ref w1])), (w1, .inl (cI, 204, .inl (fun j => nI (w3 j))))]) A) ([.ref ax, .int (nI a), .int t]).toArray s 0 0 A) (F0 m 35 ls []) := by
      intro n9
      induction n9 with
      | zero => intro i fl c9 w2 hm; exact absurd hm (Nat.not_lt_zero _)
      | succ n9 ih =>
        intro i fl c9 w2 hm hi hs hc hw2 hh hv H locs ls hP hD hS hl
        have ih35 := ih
        refine lv_iload hx hb dX3_addNumber_35 (lv_at hl 6 rfl) ?_
        refine lv_sipush (v := (nI 204)) hx hb dX3_addNumber_37 (by decide) ?_
        refine lv_icmp_ge (tgt := 90) hx hb dX3_addNumber_40 (by decide) (fun c40 => ?_) (fun c40 => ?_)
        · have hP9 := hP.sub (ws' := [(ax, .inr (3, [.ref ak, .ref ad, .ref ab, .ref ao, .ref aw])), (ak, .inr (0, [.ref k1, .ref k2, .int (nI n)])), (k1, .inl (cI, 8000, .inl (fun j => nI (g j)))), (k2, .inl (cI, 40, .inl (fun j => nI (z j)))), (aw, .inr (2, [.ref w1])), (w1, .inl (cI, 204, .inl (fun j => nI (w2 j))))]) [0, 1, 2, 3, 4, 5] rfl
          have hD9 := hD.sub (ws' := [(ax, .inr (3, [.ref ak, .ref ad, .ref ab, .ref ao, .ref aw])), (ak, .inr (0, [.ref k1, .ref k2, .int (nI n)])), (k1, .inl (cI, 8000, .inl (fun j => nI (g j)))), (k2, .inl (cI, 40, .inl (fun j => nI (z j)))), (aw, .inr (2, [.ref w1])), (w1, .inl (cI, 204, .inl (fun j => nI (w2 j))))]) [0, 1, 2, 3, 4, 5] (by decide) rfl
          have hK9 := hK.sub (tys' := [(cI, .int)]) [0] rfl
          exact W.vret hx hb hr (fun tS htS hW => ⟨⟨w2, rfl, (by have he : i = 204 := Nat.le_antisymm hi ((nI_leI (by omega) (by omega)).mp c40); subst he; exact ⟨hw2, an_end hza hs hv⟩), by rw [htS]; exact hP9, va_K.moved hW.alike hK9, hD9⟩, hS.F htS⟩) hS.2.2 dX3_addNumber_90
        · have hlt : i < 204 := Nat.lt_of_not_le (fun h => c40 (nI_le h (by omega)))
          refine lv_iload hx hb dX3_addNumber_43 (lv_at hl 6 rfl) ?_
          refine lv_iload_n hx hb dX3_addNumber_45 rfl (lv_at hl 3 rfl) ?_
          refine lv_icmp_ge (tgt := 62) hx hb dX3_addNumber_46 (by decide) (fun c46 => ?_) (fun c46 => ?_)
          · refine lv_iload hx hb dX3_addNumber_62 (lv_at hl 4 rfl) ?_
            refine lv_istore (lv' := [(7, .int (nI fl)), (0, .ref ax), (1, .int (nI a)), (2, .int t), (3, .int (nI (z a))), (4, .int (nI fl)), (5, .int c9), (6, .int (nI i))]) hx hb dX3_addNumber_64 hl (by decide) rfl (fun ls hl => ?_)
            refine lv_aload_n hx hb dX3_addNumber_66 rfl (lv_at hl 1 rfl) ?_
            refine va_get (D := (dC, dI)) (ci := 3) (v := .ref aw) (C := RX3) (T := TX3) (N := 5) hx hb hts hinX3 hown hK hP 0 rfl rfl 4 (by decide) (hts (.fieldLink RX3 34 "NumberContents" "wide" "LNumberContents$Wide;") (by decide +kernel)) (fun _ h9 => h9) rfl dX3_addNumber_67 ?_
            refine lv_iload hx hb dX3_addNumber_70 (lv_at hl 7 rfl) ?_
            refine lv_iload_n hx hb dX3_addNumber_72 rfl (lv_at hl 3 rfl) ?_
            refine lv_iload hx hb dX3_addNumber_73 (lv_at hl 0 rfl) ?_
            refine lv_imul hx hb dX3_addNumber_75 ?_
            refine lv_topi (fun x75 e75 => ?_)
            refine lv_iload hx hb dX3_addNumber_76 (lv_at hl 6 rfl) ?_
            refine lv_iadd hx hb dX3_addNumber_78 ?_
            refine lv_topi (fun x78 e78 => ?_)
            have hPc := hP.sub (ws' := [(aw, .inr (2, [.ref w1])), (w1, .inl (cI, 204, .inl (fun j => nI (w2 j))))]) [4, 5] rfl
            have hKc := hK.sub (tys' := [(cI, .int)]) [0] rfl
            have hDc := hD.sub (ws' := [(aw, .inr (2, [.ref w1])), (w1, .inl (cI, 204, .inl (fun j => nI (w2 j))))]) [4, 5] (by decide) rfl
            have hFc := va_free (wc := [(aw, .inr (2, [.ref w1])), (w1, .inl (cI, 204, .inl (fun j => nI (w2 j))))]) hD hS hA [4, 5] rfl
            refine va_calli (va_runV (As := [.int (nI i), .int x78]) (rest := []) ⟨hx, hb, hml, hown, hts⟩ (c_X2_addAt l dC dI cI aw w1 w2 i x78 H.size hw2 hlt (by first | exact (an_y ht (hg _) hc e75 e78).2 | exact (an_y ht (fl_lt hs) hc e75 e78).2)) (cwV 2 hts gX3_addNumber_X2_addAt rfl rfl rfl (by decide +kernel) ⟨Nat.le_of_ble_eq_true rfl, Nat.le_of_ble_eq_true rfl⟩) ⟨fun a U g mk q => by obtain ⟨q0, q1, qP, qK, qD⟩ := q; exact ⟨q0, q1, qP, va_K.moved (u := U) (U := U.calling g mk a) (Vm.Alike.refl U.vm) qK, qD⟩, va_recv hKc hPc (ci := 2) (q0 := 0) rfl rfl, fun U hU hW => ⟨rfl, by rw [hU], by rw [hU]; exact hPc, va_K.moved hW.alike hKc, hDc.weaken (fun _ _ _ _ => trivial)⟩⟩ rfl rfl hl.1 rfl (lv_room (Nat.le_of_ble_eq_true rfl)) dX3_addNumber_79 ⟨Nat.le_of_ble_eq_true rfl, Nat.le_of_ble_eq_true rfl⟩) hS (fun q _ h => hFc q h) hFc (fun r79 uS tS H1 locs htS hvm h79 hB hzS hkS hS => ?_)
            obtain ⟨b_79, rfl⟩ : ∃ z, z = uS := ⟨_, rfl⟩
            obtain ⟨hP1, hK1, hD1⟩ := hB
            rw [htS] at hP1
            have hK1 := va_K.moved hvm.symm hK1
            try dsimp only at h79
            obtain ⟨hP, hD⟩ := va_join (wr := [(ax, .inr (3, [.ref ak, .ref ad, .ref ab, .ref ao, .ref aw])), (ak, .inr (0, [.ref k1, .ref k2, .int (nI n)])), (k1, .inl (cI, 8000, .inl (fun j => nI (g j)))), (k2, .inl (cI, 40, .inl (fun j => nI (z j))))]) (w1 := [(aw, .inr (2, [.ref w1])), (w1, .inl (cI, 204, .inl (fun j => nI (va_up w2 i b_79 j))))]) hP hD [4, 5] [0, 1, 2, 3] rfl rfl (by decide) (by decide) hkS hFc hP1 hD1
            generalize H1 = H at hP hS ⊢
            have hP : va_P (dC, dI) vwCl [(ax, .inr (3, [.ref ak, .ref ad, .ref ab, .ref ao, .ref aw])), (ak, .inr (0, [.ref k1, .ref k2, .int (nI n)])), (k1, .inl (cI, 8000, .inl (fun j => nI (g j)))), (k2, .inl (cI, 40, .inl (fun j => nI (z j)))), (aw, .inr (2, [.ref w1])), (w1, .inl (cI, 204, .inl (fun j => nI (va_up w2 i b_79 j))))] H := hP
            have hD : va_D A [(ax, .inr (3, [.ref ak, .ref ad, .ref ab, .ref ao, .ref aw])), (ak, .inr (0, [.ref k1, .ref k2, .int (nI n)])), (k1, .inl (cI, 8000, .inl (fun j => nI (g j)))), (k2, .inl (cI, 40, .inl (fun j => nI (z j)))), (aw, .inr (2, [.ref w1])), (w1, .inl (cI, 204, .inl (fun j => nI (va_up w2 i b_79 j))))] := hD
            refine lv_istore (lv' := [(5, .int r79), (7, .int (nI fl)), (0, .ref ax), (1, .int (nI a)), (2, .int t), (3, .int (nI (z a))), (4, .int (nI fl)), (6, .int (nI i))]) hx hb dX3_addNumber_82 hl (by decide) rfl (fun ls hl => ?_)
            obtain ⟨x84, e84⟩ : ∃ zz9 : Int32, zz9 = (nI i) + 1 := ⟨_, rfl⟩
            refine lv_iinc (v := x84) (lv' := [(6, .int x84), (5, .int r79), (7, .int (nI fl)), (0, .ref ax), (1, .int (nI a)), (2, .int t), (3, .int (nI (z a))), (4, .int (nI fl))]) hx hb dX3_addNumber_84 hl (k := 7) rfl (by rw [e84]; rfl) (by decide) rfl (fun ls hl => ?_)
            obtain rfl : x84 = nI (i + 1) := e84.trans (nI_1 i)
            refine lv_goto (tgt := 35) hx hb dX3_addNumber_87 (by decide) ?_
            have hge46 : z a ≤ i := (nI_leI (by omega) (by omega)).mp c46
            have hx : fl = ext g (a * 200) (z a) fl i := (ext_hi (by omega)).symm
            have hit : fl < 256 := fl_lt hs
            have hyy := an_y ht hit hc e75 e78
            have hcc := an_c tt hit (hw2 i) h79.1 hc hyy.1 h79.2
            exact ih35 (i + 1) fl r79 (va_up w2 i b_79) (by omega) (by omega) hs hcc (up_lt hw2 h79.1) (fun j h => by rw [va_up_ne _ _ (by omega)]; exact hh j (by omega)) (an_step hv (hh i (Nat.le_refl i)) (hx ▸ hyy.1) h79.2) _ _ _ (hP.sub [0, 1, 2, 3, 4, 5] rfl) (hD.sub [0, 1, 2, 3, 4, 5] (by decide) rfl) hS (lv_sub hl [3, 4, 5, 6, 7, 1, 0] rfl)
          · refine lv_aload_n hx hb dX3_addNumber_49 rfl (lv_at hl 0 rfl) ?_
            refine va_get (D := (dC, dI)) (ci := 3) (v := .ref ak) (C := RX3) (T := TX3) (N := 5) hx hb hts hinX3 hown hK hP 0 rfl rfl 0 (by decide) (hts (.fieldLink RX3 12 "NumberContents" "kept" "LNumberContents$Numbers;") (by decide +kernel)) (fun _ h9 => h9) rfl dX3_addNumber_50 ?_
            refine lv_iload_n hx hb dX3_addNumber_53 rfl (lv_at hl 1 rfl) ?_
            refine lv_iload hx hb dX3_addNumber_54 (lv_at hl 6 rfl) ?_
            have hPc := hP.sub (ws' := [(ak, .inr (0, [.ref k1, .ref k2, .int (nI n)])), (k1, .inl (cI, 8000, .inl (fun j => nI (g j)))), (k2, .inl (cI, 40, .inl (fun j => nI (z j))))]) [1, 2, 3] rfl
            have hKc := hK.sub (tys' := [(cI, .int)]) [0] rfl
            refine vp_callSi (W.runV (As := [.int (nI a), .int (nI i)]) (rest := []) ⟨hx, hb, hml, hown, hts⟩ (c_X0_lowByte l dC dI cI ak k1 k2 n g z a i hn hz ha (Nat.lt_of_not_le (fun h => c46 (nI_le h (by omega))))) (cwV 2 hts gX3_addNumber_X0_lowByte rfl rfl rfl (by decide +kernel) ⟨Nat.le_of_ble_eq_true rfl, Nat.le_of_ble_eq_true rfl⟩) ⟨fun a U g mk q => by obtain ⟨q0, qP, qK⟩ := q; exact ⟨q0, qP, va_K.moved (u := U) (U := U.calling g mk a) (Vm.Alike.refl U.vm) qK⟩, va_recv hK hP (ci := 0) (q0 := 1) rfl rfl, fun U hU hW => ⟨rfl, by rw [hU]; exact hPc, va_K.moved hW.alike hKc⟩⟩ rfl rfl hl.1 rfl (lv_room (Nat.le_of_ble_eq_true rfl)) dX3_addNumber_56 ⟨Nat.le_of_ble_eq_true rfl, Nat.le_of_ble_eq_true rfl⟩) (fun r56 h56 => ?_)
            obtain rfl : r56 = nI (g (a * 200 + i)) := h56
            refine lv_goto (tgt := 64) hx hb dX3_addNumber_59 (by decide) ?_
            refine lv_istore (lv' := [(7, .int (nI (g (a * 200 + i)))), (0, .ref ax), (1, .int (nI a)), (2, .int t), (3, .int (nI (z a))), (4, .int (nI fl)), (5, .int c9), (6, .int (nI i))]) hx hb dX3_addNumber_64 hl (by decide) rfl (fun ls hl => ?_)
            refine lv_aload_n hx hb dX3_addNumber_66 rfl (lv_at hl 1 rfl) ?_
            refine va_get (D := (dC, dI)) (ci := 3) (v := .ref aw) (C := RX3) (T := TX3) (N := 5) hx hb hts hinX3 hown hK hP 0 rfl rfl 4 (by decide) (hts (.fieldLink RX3 34 "NumberContents" "wide" "LNumberContents$Wide;") (by decide +kernel)) (fun _ h9 => h9) rfl dX3_addNumber_67 ?_
            refine lv_iload hx hb dX3_addNumber_70 (lv_at hl 7 rfl) ?_
            refine lv_iload_n hx hb dX3_addNumber_72 rfl (lv_at hl 3 rfl) ?_
            refine lv_iload hx hb dX3_addNumber_73 (lv_at hl 0 rfl) ?_
            refine lv_imul hx hb dX3_addNumber_75 ?_
            refine lv_topi (fun x75 e75 => ?_)
            refine lv_iload hx hb dX3_addNumber_76 (lv_at hl 6 rfl) ?_
            refine lv_iadd hx hb dX3_addNumber_78 ?_
            refine lv_topi (fun x78 e78 => ?_)
            have hPc := hP.sub (ws' := [(aw, .inr (2, [.ref w1])), (w1, .inl (cI, 204, .inl (fun j => nI (w2 j))))]) [4, 5] rfl
            have hKc := hK.sub (tys' := [(cI, .int)]) [0] rfl
            have hDc := hD.sub (ws' := [(aw, .inr (2, [.ref w1])), (w1, .inl (cI, 204, .inl (fun j => nI (w2 j))))]) [4, 5] (by decide) rfl
            have hFc := va_free (wc := [(aw, .inr (2, [.ref w1])), (w1, .inl (cI, 204, .inl (fun j => nI (w2 j))))]) hD hS hA [4, 5] rfl
            refine va_calli (va_runV (As := [.int (nI i), .int x78]) (rest := []) ⟨hx, hb, hml, hown, hts⟩ (c_X2_addAt l dC dI cI aw w1 w2 i x78 H.size hw2 hlt (by first | exact (an_y ht (hg _) hc e75 e78).2 | exact (an_y ht (fl_lt hs) hc e75 e78).2)) (cwV 2 hts gX3_addNumber_X2_addAt rfl rfl rfl (by decide +kernel) ⟨Nat.le_of_ble_eq_true rfl, Nat.le_of_ble_eq_true rfl⟩) ⟨fun a U g mk q => by obtain ⟨q0, q1, qP, qK, qD⟩ := q; exact ⟨q0, q1, qP, va_K.moved (u := U) (U := U.calling g mk a) (Vm.Alike.refl U.vm) qK, qD⟩, va_recv hKc hPc (ci := 2) (q0 := 0) rfl rfl, fun U hU hW => ⟨rfl, by rw [hU], by rw [hU]; exact hPc, va_K.moved hW.alike hKc, hDc.weaken (fun _ _ _ _ => trivial)⟩⟩ rfl rfl hl.1 rfl (lv_room (Nat.le_of_ble_eq_true rfl)) dX3_addNumber_79 ⟨Nat.le_of_ble_eq_true rfl, Nat.le_of_ble_eq_true rfl⟩) hS (fun q _ h => hFc q h) hFc (fun r79 uS tS H1 locs htS hvm h79 hB hzS hkS hS => ?_)
            obtain ⟨b_79, rfl⟩ : ∃ z, z = uS := ⟨_, rfl⟩
            obtain ⟨hP1, hK1, hD1⟩ := hB
            rw [htS] at hP1
            have hK1 := va_K.moved hvm.symm hK1
            try dsimp only at h79
            obtain ⟨hP, hD⟩ := va_join (wr := [(ax, .inr (3, [.ref ak, .ref ad, .ref ab, .ref ao, .ref aw])), (ak, .inr (0, [.ref k1, .ref k2, .int (nI n)])), (k1, .inl (cI, 8000, .inl (fun j => nI (g j)))), (k2, .inl (cI, 40, .inl (fun j => nI (z j))))]) (w1 := [(aw, .inr (2, [.ref w1])), (w1, .inl (cI, 204, .inl (fun j => nI (va_up w2 i b_79 j))))]) hP hD [4, 5] [0, 1, 2, 3] rfl rfl (by decide) (by decide) hkS hFc hP1 hD1
            generalize H1 = H at hP hS ⊢
            have hP : va_P (dC, dI) vwCl [(ax, .inr (3, [.ref ak, .ref ad, .ref ab, .ref ao, .ref aw])), (ak, .inr (0, [.ref k1, .ref k2, .int (nI n)])), (k1, .inl (cI, 8000, .inl (fun j => nI (g j)))), (k2, .inl (cI, 40, .inl (fun j => nI (z j)))), (aw, .inr (2, [.ref w1])), (w1, .inl (cI, 204, .inl (fun j => nI (va_up w2 i b_79 j))))] H := hP
            have hD : va_D A [(ax, .inr (3, [.ref ak, .ref ad, .ref ab, .ref ao, .ref aw])), (ak, .inr (0, [.ref k1, .ref k2, .int (nI n)])), (k1, .inl (cI, 8000, .inl (fun j => nI (g j)))), (k2, .inl (cI, 40, .inl (fun j => nI (z j)))), (aw, .inr (2, [.ref w1])), (w1, .inl (cI, 204, .inl (fun j => nI (va_up w2 i b_79 j))))] := hD
            refine lv_istore (lv' := [(5, .int r79), (7, .int (nI (g (a * 200 + i)))), (0, .ref ax), (1, .int (nI a)), (2, .int t), (3, .int (nI (z a))), (4, .int (nI fl)), (6, .int (nI i))]) hx hb dX3_addNumber_82 hl (by decide) rfl (fun ls hl => ?_)
            obtain ⟨x84, e84⟩ : ∃ zz9 : Int32, zz9 = (nI i) + 1 := ⟨_, rfl⟩
            refine lv_iinc (v := x84) (lv' := [(6, .int x84), (5, .int r79), (7, .int (nI (g (a * 200 + i)))), (0, .ref ax), (1, .int (nI a)), (2, .int t), (3, .int (nI (z a))), (4, .int (nI fl))]) hx hb dX3_addNumber_84 hl (k := 7) rfl (by rw [e84]; rfl) (by decide) rfl (fun ls hl => ?_)
            obtain rfl : x84 = nI (i + 1) := e84.trans (nI_1 i)
            refine lv_goto (tgt := 35) hx hb dX3_addNumber_87 (by decide) ?_
            have hlt46 : i < z a := Nat.lt_of_not_le (fun h => c46 (nI_le h (by omega)))
            have hx : g (a * 200 + i) = ext g (a * 200) (z a) fl i := (ext_lo (by first | exact hlt46 | omega)).symm
            have hit : g (a * 200 + i) < 256 := hg _
            have hyy := an_y ht hit hc e75 e78
            have hcc := an_c tt hit (hw2 i) h79.1 hc hyy.1 h79.2
            exact ih35 (i + 1) fl r79 (va_up w2 i b_79) (by omega) (by omega) hs hcc (up_lt hw2 h79.1) (fun j h => by rw [va_up_ne _ _ (by omega)]; exact hh j (by omega)) (an_step hv (hh i (Nat.le_refl i)) (hx ▸ hyy.1) h79.2) _ _ _ (hP.sub [0, 1, 2, 3, 4, 5] rfl) (hD.sub [0, 1, 2, 3, 4, 5] (by decide) rfl) hS (lv_sub hl [3, 4, 5, 6, 7, 1, 0] rfl)
    exact LP35 _ 0 255 0 w (Nat.lt_succ_self _) (by omega) (Or.inl ⟨rfl, ite_s h14 c17⟩) (by decide) hw (fun j h => rfl) (by simp [bv]) _ _ _ (hP.sub [0, 1, 2, 3, 4, 5] rfl) (hD.sub [0, 1, 2, 3, 4, 5] (by decide) rfl) hS (lv_sub hl [4, 5, 6, 3, 2, 1, 0] rfl)

set_option maxHeartbeats 4000000 in
set_option maxRecDepth 100000 in
theorem c_X3_loadNumber (l : Launch) (dC : Nat → ClassId) (dI : Nat → Nat → Nat) (cI : ClassId) (ax ak ad ab ao aw : Nat) (k1 k2 n : Nat) (g z : Nat → Nat) (w1 : Nat) (w : Nat → Nat) (a : Nat) (sz : Nat) (hg : ∀ j, g j < 256) (hn : n ≤ 40) (hz : ∀ a, a < n → 1 ≤ z a ∧ z a ≤ 200) (hw : ∀ j, w j < 256) (ha : a < n) : Met l yX3_loadNumber wsX3_loadNumber ({ frames := 4, cells := 0, slots := 0, locals := 92 } : Room) (va_Pc [.ref ax, .int (nI a)] (fun U => U.heap.size = sz ∧ va_P (dC, dI) vwCl [(ax, .inr (3, [.ref ak, .ref ad, .ref ab, .ref ao, .ref aw])), (ak, .inr (0, [.ref k1, .ref k2, .int (nI n)])), (k1, .inl (cI, 8000, .inl (fun j => nI (g j)))), (k2, .inl (cI, 40, .inl (fun j => nI (z j)))), (aw, .inr (2, [.ref w1])), (w1, .inl (cI, 204, .inl (fun j => nI (w j))))] U.heap ∧ va_K (dC, dI) vwCl [(cI, .int)] U ∧ va_D (fun _ => True) [(ax, .inr (3, [.ref ak, .ref ad, .ref ab, .ref ao, .ref aw])), (ak, .inr (0, [.ref k1, .ref k2, .int (nI n)])), (k1, .inl (cI, 8000, .inl (fun j => nI (g j)))), (k2, .inl (cI, 40, .inl (fun j => nI (z j)))), (aw, .inr (2, [.ref w1])), (w1, .inl (cI, 204, .inl (fun j => nI (w j))))])) (va_Qv (fun (w4 : Nat → Nat) => (∀ j, w4 j < 256) ∧ sv w4 204 = nval g z a) (fun (w4 : Nat → Nat) (tS : State) => va_P (dC, dI) vwCl [(ax, .inr (3, [.ref ak, .ref ad, .ref ab, .ref ao, .ref aw])), (ak, .inr (0, [.ref k1, .ref k2, .int (nI n)])), (k1, .inl (cI, 8000, .inl (fun j => nI (g j)))), (k2, .inl (cI, 40, .inl (fun j => nI (z j)))), (aw, .inr (2, [.ref w1])), (w1, .inl (cI, 204, .inl (fun j => nI (w4 j))))] tS.heap ∧ va_K (dC, dI) vwCl [(cI, .int)] tS ∧ va_D (va_A [(ax, .inr (3, [.ref ak, .ref ad, .ref ab, .ref ao, .ref aw])), (ak, .inr (0, [.ref k1, .ref k2, .int (nI n)])), (k1, .inl (cI, 8000, .inl (fun j => nI (g j)))), (k2, .inl (cI, 40, .inl (fun j => nI (z j)))), (aw, .inr (2, [.ref w1])), (w1, .inl (cI, 204, .inl (fun j => nI (w j))))] sz) [(ax, .inr (3, [.ref ak, .ref ad, .ref ab, .ref ao, .ref aw])), (ak, .inr (0, [.ref k1, .ref k2, .int (nI n)])), (k1, .inl (cI, 8000, .inl (fun j => nI (g j)))), (k2, .inl (cI, 40, .inl (fun j => nI (z j)))), (aw, .inr (2, [.ref w1])), (w1, .inl (cI, 204, .inl (fun j => nI (w4 j))))]) (va_A [(ax, .inr (3, [.ref ak, .ref ad, .ref ab, .ref ao, .ref aw])), (ak, .inr (0, [.ref k1, .ref k2, .int (nI n)])), (k1, .inl (cI, 8000, .inl (fun j => nI (g j)))), (k2, .inl (cI, 40, .inl (fun j => nI (z j)))), (aw, .inr (2, [.ref w1])), (w1, .inl (cI, 204, .inl (fun j => nI (w j))))] sz)) 0 0 (va_A [(ax, .inr (3, [.ref ak, .ref ad, .ref ab, .ref ao, .ref aw])), (ak, .inr (0, [.ref k1, .ref k2, .int (nI n)])), (k1, .inl (cI, 8000, .inl (fun j => nI (g j)))), (k2, .inl (cI, 40, .inl (fun j => nI (z j)))), (aw, .inr (2, [.ref w1])), (w1, .inl (cI, 204, .inl (fun j => nI (w j))))] sz) := by
  refine Met.ofW (cc := cX3_loadNumber) (maxL := 2) (ret := none) (by decide) rfl ?_
  intro p e s m args below meth c s₁ B hml hv
  obtain ⟨rfl, hsz, hP, hK, hD0⟩ := hv
  have hx := B.exec
  have hb := B.bytes
  have hr := B.returns
  have hts := atoms_spec (ws := wsX3_loadNumber) B.pre
  have hown : s.vm.findClass RX3 = some m.cls := findClass_of_methodNamed B.named
  have hlocks := B.notSynchronized
  subst hsz
  have hD := hD0.self (sz := s.heap.size)
  generalize hAe : va_A [(ax, .inr (3, [.ref ak, .ref ad, .ref ab, .ref ao, .ref aw])), (ak, .inr (0, [.ref k1, .ref k2, .int (nI n)])), (k1, .inl (cI, 8000, .inl (fun j => nI (g j)))), (k2, .inl (cI, 40, .inl (fun j => nI (z j)))), (aw, .inr (2, [.ref w1])), (w1, .inl (cI, 204, .inl (fun j => nI (w j))))] s.heap.size = A at hD ⊢
  have hA : ∀ q : Nat, s.heap.size ≤ q → A q := fun q h => by rw [← hAe]; exact Or.inr h
  have hS : va_S A s.heap s.heap [] := va_S.rf
  have hinX3 : ∀ w ∈ wsX30, w ∈ wsX3_loadNumber := by decide +kernel
  have hl := lv_entry ([.ref ax, .int (nI a)]) (n := 2) (Nat.le_of_ble_eq_true rfl)
  rw [lg_entry_eq]
  generalize (lg_sl ([.ref ax, .int (nI a)]) ++ List.replicate (2 - (lg_sl ([.ref ax, .int (nI a)])).length) Slot.unset).toArray = ls at hl ⊢
  have hl : lv_has ls 2 [(0, .ref ax), (1, .int (nI a))] := hl
  refine lv_aload_n hx hb dX3_loadNumber_0 rfl (lv_at hl 0 rfl) ?_
  refine va_get (D := (dC, dI)) (ci := 3) (v := .ref aw) (C := RX3) (T := TX3) (N := 5) hx hb hts hinX3 hown hK hP 0 rfl rfl 4 (by decide) (hts (.fieldLink RX3 34 "NumberContents" "wide" "LNumberContents$Wide;") (by decide +kernel)) (fun _ h9 => h9) rfl dX3_loadNumber_1 ?_
  refine lv_iconst (v := (nI 0)) hx hb dX3_loadNumber_4 (by decide) ?_
  have hPc := hP.sub (ws' := [(aw, .inr (2, [.ref w1])), (w1, .inl (cI, 204, .inl (fun j => nI (w j))))]) [4, 5] rfl
  have hKc := hK.sub (tys' := [(cI, .int)]) [0] rfl
  have hDc := hD.sub (ws' := [(aw, .inr (2, [.ref w1])), (w1, .inl (cI, 204, .inl (fun j => nI (w j))))]) [4, 5] (by decide) rfl
  have hFc := va_free (wc := [(aw, .inr (2, [.ref w1])), (w1, .inl (cI, 204, .inl (fun j => nI (w j))))]) hD hS hA [4, 5] rfl
  refine va_callv (va_runV (As := [.int (nI 0)]) (rest := []) ⟨hx, hb, hml, hown, hts⟩ (c_X2_fill l dC dI cI aw w1 w 0 s.heap.size ) (cwV 1 hts gX3_loadNumber_X2_fill rfl rfl rfl (by decide +kernel) ⟨Nat.le_of_ble_eq_true rfl, Nat.le_of_ble_eq_true rfl⟩) ⟨fun a U g mk q => by obtain ⟨q0, q1, qP, qK, qD⟩ := q; exact ⟨q0, q1, qP, va_K.moved (u := U) (U := U.calling g mk a) (Vm.Alike.refl U.vm) qK, qD⟩, va_recv hKc hPc (ci := 2) (q0 := 0) rfl rfl, fun U hU hW => ⟨rfl, by rw [hU], by rw [hU]; exact hPc, va_K.moved hW.alike hKc, hDc.weaken (fun _ _ _ _ => trivial)⟩⟩ rfl rfl hl.1 rfl (lv_room (Nat.le_of_ble_eq_true rfl)) dX3_loadNumber_5 ⟨Nat.le_of_ble_eq_true rfl, Nat.le_of_ble_eq_true rfl⟩) hS (fun q _ h => hFc q h) hFc (fun uS tS H1 locs htS hvm h5 hB hzS hkS hS => ?_)
  obtain ⟨g3_5, rfl⟩ : ∃ z, z = uS := ⟨_, rfl⟩
  obtain ⟨hP1, hK1, hD1⟩ := hB
  rw [htS] at hP1
  have hK1 := va_K.moved hvm.symm hK1
  try dsimp only at h5
  obtain ⟨hP, hD⟩ := va_join (wr := [(ax, .inr (3, [.ref ak, .ref ad, .ref ab, .ref ao, .ref aw])), (ak, .inr (0, [.ref k1, .ref k2, .int (nI n)])), (k1, .inl (cI, 8000, .inl (fun j => nI (g j)))), (k2, .inl (cI, 40, .inl (fun j => nI (z j))))]) (w1 := [(aw, .inr (2, [.ref w1])), (w1, .inl (cI, 204, .inl (fun j => nI (g3_5 j))))]) hP hD [4, 5] [0, 1, 2, 3] rfl rfl (by decide) (by decide) hkS hFc hP1 hD1
  generalize H1 = H at hP hS ⊢
  have hP : va_P (dC, dI) vwCl [(ax, .inr (3, [.ref ak, .ref ad, .ref ab, .ref ao, .ref aw])), (ak, .inr (0, [.ref k1, .ref k2, .int (nI n)])), (k1, .inl (cI, 8000, .inl (fun j => nI (g j)))), (k2, .inl (cI, 40, .inl (fun j => nI (z j)))), (aw, .inr (2, [.ref w1])), (w1, .inl (cI, 204, .inl (fun j => nI (g3_5 j))))] H := hP
  have hD : va_D A [(ax, .inr (3, [.ref ak, .ref ad, .ref ab, .ref ao, .ref aw])), (ak, .inr (0, [.ref k1, .ref k2, .int (nI n)])), (k1, .inl (cI, 8000, .inl (fun j => nI (g j)))), (k2, .inl (cI, 40, .inl (fun j => nI (z j)))), (aw, .inr (2, [.ref w1])), (w1, .inl (cI, 204, .inl (fun j => nI (g3_5 j))))] := hD
  refine lv_aload_n hx hb dX3_loadNumber_8 rfl (lv_at hl 0 rfl) ?_
  refine lv_iload_n hx hb dX3_loadNumber_9 rfl (lv_at hl 1 rfl) ?_
  refine lv_iconst (v := 1) hx hb dX3_loadNumber_10 (by decide) ?_
  have hPc := hP.sub (ws' := [(ax, .inr (3, [.ref ak, .ref ad, .ref ab, .ref ao, .ref aw])), (ak, .inr (0, [.ref k1, .ref k2, .int (nI n)])), (k1, .inl (cI, 8000, .inl (fun j => nI (g j)))), (k2, .inl (cI, 40, .inl (fun j => nI (z j)))), (aw, .inr (2, [.ref w1])), (w1, .inl (cI, 204, .inl (fun j => nI (g3_5 j))))]) [0, 1, 2, 3, 4, 5] rfl
  have hKc := hK.sub (tys' := [(cI, .int)]) [0] rfl
  have hDc := hD.sub (ws' := [(ax, .inr (3, [.ref ak, .ref ad, .ref ab, .ref ao, .ref aw])), (ak, .inr (0, [.ref k1, .ref k2, .int (nI n)])), (k1, .inl (cI, 8000, .inl (fun j => nI (g j)))), (k2, .inl (cI, 40, .inl (fun j => nI (z j)))), (aw, .inr (2, [.ref w1])), (w1, .inl (cI, 204, .inl (fun j => nI (g3_5 j))))]) [0, 1, 2, 3, 4, 5] (by decide) rfl
  have hFc := va_free (wc := [(ax, .inr (3, [.ref ak, .ref ad, .ref ab, .ref ao, .ref aw])), (ak, .inr (0, [.ref k1, .ref k2, .int (nI n)])), (k1, .inl (cI, 8000, .inl (fun j => nI (g j)))), (k2, .inl (cI, 40, .inl (fun j => nI (z j)))), (aw, .inr (2, [.ref w1])), (w1, .inl (cI, 204, .inl (fun j => nI (g3_5 j))))]) hD hS hA [0, 1, 2, 3, 4, 5] rfl
  refine va_callv (va_runV (As := [.int (nI a), .int 1]) (rest := []) ⟨hx, hb, hml, hown, hts⟩ (c_X3_addNumber l dC dI cI ax ak ad ab ao aw k1 k2 n g z w1 g3_5 a 1 H.size hg hn hz (fill_lt h5 hw (by decide)) ha (Or.inl rfl)) (cwV 2 hts gX3_loadNumber_X3_addNumber rfl rfl rfl (by decide +kernel) ⟨Nat.le_of_ble_eq_true rfl, Nat.le_of_ble_eq_true rfl⟩) ⟨fun a U g mk q => by obtain ⟨q0, q1, qP, qK, qD⟩ := q; exact ⟨q0, q1, qP, va_K.moved (u := U) (U := U.calling g mk a) (Vm.Alike.refl U.vm) qK, qD⟩, va_recv hKc hPc (ci := 3) (q0 := 0) rfl rfl, fun U hU hW => ⟨rfl, by rw [hU], by rw [hU]; exact hPc, va_K.moved hW.alike hKc, hDc.weaken (fun _ _ _ _ => trivial)⟩⟩ rfl rfl hl.1 rfl (lv_room (Nat.le_of_ble_eq_true rfl)) dX3_loadNumber_11 ⟨Nat.le_of_ble_eq_true rfl, Nat.le_of_ble_eq_true rfl⟩) hS (fun q _ h => hFc q h) hFc (fun uS tS H1 locs htS hvm h11 hB hzS hkS hS => ?_)
  obtain ⟨w3_11, rfl⟩ : ∃ z, z = uS := ⟨_, rfl⟩
  obtain ⟨hP1, hK1, hD1⟩ := hB
  rw [htS] at hP1
  have hK1 := va_K.moved hvm.symm hK1
  try dsimp only at h11
  obtain ⟨hP, hD⟩ := va_join (wr := []) (w1 := [(ax, .inr (3, [.ref ak, .ref ad, .ref ab, .ref ao, .ref aw])), (ak, .inr (0, [.ref k1, .ref k2, .int (nI n)])), (k1, .inl (cI, 8000, .inl (fun j => nI (g j)))), (k2, .inl (cI, 40, .inl (fun j => nI (z j)))), (aw, .inr (2, [.ref w1])), (w1, .inl (cI, 204, .inl (fun j => nI (w3_11 j))))]) hP hD [0, 1, 2, 3, 4, 5] [] rfl rfl (by decide) (by decide) hkS hFc hP1 hD1
  generalize H1 = H at hP hS ⊢
  have hP : va_P (dC, dI) vwCl [(ax, .inr (3, [.ref ak, .ref ad, .ref ab, .ref ao, .ref aw])), (ak, .inr (0, [.ref k1, .ref k2, .int (nI n)])), (k1, .inl (cI, 8000, .inl (fun j => nI (g j)))), (k2, .inl (cI, 40, .inl (fun j => nI (z j)))), (aw, .inr (2, [.ref w1])), (w1, .inl (cI, 204, .inl (fun j => nI (w3_11 j))))] H := hP
  have hD : va_D A [(ax, .inr (3, [.ref ak, .ref ad, .ref ab, .ref ao, .ref aw])), (ak, .inr (0, [.ref k1, .ref k2, .int (nI n)])), (k1, .inl (cI, 8000, .inl (fun j => nI (g j)))), (k2, .inl (cI, 40, .inl (fun j => nI (z j)))), (aw, .inr (2, [.ref w1])), (w1, .inl (cI, 204, .inl (fun j => nI (w3_11 j))))] := hD
  have hP9 := hP.sub (ws' := [(ax, .inr (3, [.ref ak, .ref ad, .ref ab, .ref ao, .ref aw])), (ak, .inr (0, [.ref k1, .ref k2, .int (nI n)])), (k1, .inl (cI, 8000, .inl (fun j => nI (g j)))), (k2, .inl (cI, 40, .inl (fun j => nI (z j)))), (aw, .inr (2, [.ref w1])), (w1, .inl (cI, 204, .inl (fun j => nI (w3_11 j))))]) [0, 1, 2, 3, 4, 5] rfl
  have hD9 := hD.sub (ws' := [(ax, .inr (3, [.ref ak, .ref ad, .ref ab, .ref ao, .ref aw])), (ak, .inr (0, [.ref k1, .ref k2, .int (nI n)])), (k1, .inl (cI, 8000, .inl (fun j => nI (g j)))), (k2, .inl (cI, 40, .inl (fun j => nI (z j)))), (aw, .inr (2, [.ref w1])), (w1, .inl (cI, 204, .inl (fun j => nI (w3_11 j))))]) [0, 1, 2, 3, 4, 5] (by decide) rfl
  have hK9 := hK.sub (tys' := [(cI, .int)]) [0] rfl
  exact W.vret hx hb hr (fun tS htS hW => ⟨⟨w3_11, rfl, (by obtain ⟨q, hq⟩ := h11.2; rw [sv_zero (by decide) h5.1, show (1 : Int32).toInt = 1 from by decide, Int.zero_add, Int.one_mul] at hq; exact ⟨h11.1, sv_of_md h11.1 (by decide) hq (fitz_mono (nval_fit hg (hz a ha)) (by decide))⟩), by rw [htS]; exact hP9, va_K.moved hW.alike hK9, hD9⟩, hS.F htS⟩) hS.2.2 dX3_loadNumber_14

theorem ld_new {g g3 dg : Nat → Nat} {p vl n : Nat} (hdg : ∀ j, dg j < 10) (hp : p ≤ 9) (hvl : vl < 10 ^ p) (hn : n ≤ 480) (hv : sv g 204 * ((10 ^ p : Nat) : Int) + vl = dval dg n)
    (h : (∀ j, g3 j < 256) ∧ (∀ j, 204 ≤ j → g3 j = g j) ∧ ∃ q : Int, (bv g3 204 : Int) + q * ((256 ^ 204 : Nat) : Int) = bv g 204 * (nI (10 ^ p)).toInt + (nI vl).toInt) : sv g3 204 = dval dg n := by
  have h1 := p10_lt hp
  rw [p10_toInt hp, nI_toInt (show vl < 2 ^ 31 by omega)] at h
  exact ma_ex h.1 (by decide) h.2.2 hv (fitz_mono (dval_fit hdg hn) (by decide))

set_option maxHeartbeats 4000000 in
set_option maxRecDepth 100000 in
theorem c_X3_loadDigits (l : Launch) (dC : Nat → ClassId) (dI : Nat → Nat → Nat) (cI : ClassId) (ax ak ad ab ao aw : Nat) (d1 dn : Nat) (dg : Nat → Nat) (w1 : Nat) (w : Nat → Nat) (sz : Nat) (hdn : dn ≤ 480) (hdg : ∀ j, dg j < 10) (hw : ∀ j, w j < 256) : Met l yX3_loadDigits wsX3_loadDigits ({ frames := 2, cells := 0, slots := 0, locals := 42 } : Room) (va_Pc [.ref ax] (fun U => U.heap.size = sz ∧ va_P (dC, dI) vwCl [(ax, .inr (3, [.ref ak, .ref ad, .ref ab, .ref ao, .ref aw])), (ad, .inr (1, [.ref d1, .int (nI dn)])), (d1, .inl (cI, 480, .inl (fun j => nI (dg j)))), (aw, .inr (2, [.ref w1])), (w1, .inl (cI, 204, .inl (fun j => nI (w j))))] U.heap ∧ va_K (dC, dI) vwCl [(cI, .int)] U ∧ va_D (fun _ => True) [(ax, .inr (3, [.ref ak, .ref ad, .ref ab, .ref ao, .ref aw])), (ad, .inr (1, [.ref d1, .int (nI dn)])), (d1, .inl (cI, 480, .inl (fun j => nI (dg j)))), (aw, .inr (2, [.ref w1])), (w1, .inl (cI, 204, .inl (fun j => nI (w j))))])) (va_Qv (fun (w3 : Nat → Nat) => (∀ j, w3 j < 256) ∧ sv w3 204 = dval dg dn) (fun (w3 : Nat → Nat) (tS : State) => va_P (dC, dI) vwCl [(ax, .inr (3, [.ref ak, .ref ad, .ref ab, .ref ao, .ref aw])), (ad, .inr (1, [.ref d1, .int (nI dn)])), (d1, .inl (cI, 480, .inl (fun j => nI (dg j)))), (aw, .inr (2, [.ref w1])), (w1, .inl (cI, 204, .inl (fun j => nI (w3 j))))] tS.heap ∧ va_K (dC, dI) vwCl [(cI, .int)] tS ∧ va_D (va_A [(ax, .inr (3, [.ref ak, .ref ad, .ref ab, .ref ao, .ref aw])), (ad, .inr (1, [.ref d1, .int (nI dn)])), (d1, .inl (cI, 480, .inl (fun j => nI (dg j)))), (aw, .inr (2, [.ref w1])), (w1, .inl (cI, 204, .inl (fun j => nI (w j))))] sz) [(ax, .inr (3, [.ref ak, .ref ad, .ref ab, .ref ao, .ref aw])), (ad, .inr (1, [.ref d1, .int (nI dn)])), (d1, .inl (cI, 480, .inl (fun j => nI (dg j)))), (aw, .inr (2, [.ref w1])), (w1, .inl (cI, 204, .inl (fun j => nI (w3 j))))]) (va_A [(ax, .inr (3, [.ref ak, .ref ad, .ref ab, .ref ao, .ref aw])), (ad, .inr (1, [.ref d1, .int (nI dn)])), (d1, .inl (cI, 480, .inl (fun j => nI (dg j)))), (aw, .inr (2, [.ref w1])), (w1, .inl (cI, 204, .inl (fun j => nI (w j))))] sz)) 0 0 (va_A [(ax, .inr (3, [.ref ak, .ref ad, .ref ab, .ref ao, .ref aw])), (ad, .inr (1, [.ref d1, .int (nI dn)])), (d1, .inl (cI, 480, .inl (fun j => nI (dg j)))), (aw, .inr (2, [.ref w1])), (w1, .inl (cI, 204, .inl (fun j => nI (w j))))] sz) := by
  refine Met.ofW (cc := cX3_loadDigits) (maxL := 4) (ret := none) (by decide) rfl ?_
  intro p e s m args below meth c s₁ B hml hv
  obtain ⟨rfl, hsz, hP, hK, hD0⟩ := hv
  have hx := B.exec
  have hb := B.bytes
  have hr := B.returns
  have hts := atoms_spec (ws := wsX3_loadDigits) B.pre
  have hown : s.vm.findClass RX3 = some m.cls := findClass_of_methodNamed B.named
  have hlocks := B.notSynchronized
  subst hsz
  have hD := hD0.self (sz := s.heap.size)
  generalize hAe : va_A [(ax, .inr (3, [.ref ak, .ref ad, .ref ab, .ref ao, .ref aw])), (ad, .inr (1, [.ref d1, .int (nI dn)])), (d1, .inl (cI, 480, .inl (fun j => nI (dg j)))), (aw, .inr (2, [.ref w1])), (w1, .inl (cI, 204, .inl (fun j => nI (w j))))] s.heap.size = A at hD ⊢
  have hA : ∀ q : Nat, s.heap.size ≤ q → A q := fun q h => by rw [← hAe]; exact Or.inr h
  have hS : va_S A s.heap s.heap [] := va_S.rf
  have hinX3 : ∀ w ∈ wsX30, w ∈ wsX3_loadDigits := by decide +kernel
  have hl := lv_entry ([.ref ax]) (n := 4) (Nat.le_of_ble_eq_true rfl)
  rw [lg_entry_eq]
  generalize (lg_sl ([.ref ax]) ++ List.replicate (4 - (lg_sl ([.ref ax])).length) Slot.unset).toArray = ls at hl ⊢
  have hl : lv_has ls 4 [(0, .ref ax)] := hl
  refine lv_aload_n hx hb dX3_loadDigits_0 rfl (lv_at hl 0 rfl) ?_
  refine va_get (D := (dC, dI)) (ci := 3) (v := .ref aw) (C := RX3) (T := TX3) (N := 5) hx hb hts hinX3 hown hK hP 0 rfl rfl 4 (by decide) (hts (.fieldLink RX3 34 "NumberContents" "wide" "LNumberContents$Wide;") (by decide +kernel)) (fun _ h9 => h9) rfl dX3_loadDigits_1 ?_
  refine lv_iconst (v := (nI 0)) hx hb dX3_loadDigits_4 (by decide) ?_
  have hPc := hP.sub (ws' := [(aw, .inr (2, [.ref w1])), (w1, .inl (cI, 204, .inl (fun j => nI (w j))))]) [3, 4] rfl
  have hKc := hK.sub (tys' := [(cI, .int)]) [0] rfl
  have hDc := hD.sub (ws' := [(aw, .inr (2, [.ref w1])), (w1, .inl (cI, 204, .inl (fun j => nI (w j))))]) [3, 4] (by decide) rfl
  have hFc := va_free (wc := [(aw, .inr (2, [.ref w1])), (w1, .inl (cI, 204, .inl (fun j => nI (w j))))]) hD hS hA [3, 4] rfl
  refine va_callv (va_runV (As := [.int (nI 0)]) (rest := []) ⟨hx, hb, hml, hown, hts⟩ (c_X2_fill l dC dI cI aw w1 w 0 s.heap.size ) (cwV 1 hts gX3_loadDigits_X2_fill rfl rfl rfl (by decide +kernel) ⟨Nat.le_of_ble_eq_true rfl, Nat.le_of_ble_eq_true rfl⟩) ⟨fun a U g mk q => by obtain ⟨q0, q1, qP, qK, qD⟩ := q; exact ⟨q0, q1, qP, va_K.moved (u := U) (U := U.calling g mk a) (Vm.Alike.refl U.vm) qK, qD⟩, va_recv hKc hPc (ci := 2) (q0 := 0) rfl rfl, fun U hU hW => ⟨rfl, by rw [hU], by rw [hU]; exact hPc, va_K.moved hW.alike hKc, hDc.weaken (fun _ _ _ _ => trivial)⟩⟩ rfl rfl hl.1 rfl (lv_room (Nat.le_of_ble_eq_true rfl)) dX3_loadDigits_5 ⟨Nat.le_of_ble_eq_true rfl, Nat.le_of_ble_eq_true rfl⟩) hS (fun q _ h => hFc q h) hFc (fun uS tS H1 locs htS hvm h5 hB hzS hkS hS => ?_)
  obtain ⟨g3_5, rfl⟩ : ∃ z, z = uS := ⟨_, rfl⟩
  obtain ⟨hP1, hK1, hD1⟩ := hB
  rw [htS] at hP1
  have hK1 := va_K.moved hvm.symm hK1
  try dsimp only at h5
  obtain ⟨hP, hD⟩ := va_join (wr := [(ax, .inr (3, [.ref ak, .ref ad, .ref ab, .ref ao, .ref aw])), (ad, .inr (1, [.ref d1, .int (nI dn)])), (d1, .inl (cI, 480, .inl (fun j => nI (dg j))))]) (w1 := [(aw, .inr (2, [.ref w1])), (w1, .inl (cI, 204, .inl (fun j => nI (g3_5 j))))]) hP hD [3, 4] [0, 1, 2] rfl rfl (by decide) (by decide) hkS hFc hP1 hD1
  generalize H1 = H at hP hS ⊢
  have hP : va_P (dC, dI) vwCl [(ax, .inr (3, [.ref ak, .ref ad, .ref ab, .ref ao, .ref aw])), (ad, .inr (1, [.ref d1, .int (nI dn)])), (d1, .inl (cI, 480, .inl (fun j => nI (dg j)))), (aw, .inr (2, [.ref w1])), (w1, .inl (cI, 204, .inl (fun j => nI (g3_5 j))))] H := hP
  have hD : va_D A [(ax, .inr (3, [.ref ak, .ref ad, .ref ab, .ref ao, .ref aw])), (ad, .inr (1, [.ref d1, .int (nI dn)])), (d1, .inl (cI, 480, .inl (fun j => nI (dg j)))), (aw, .inr (2, [.ref w1])), (w1, .inl (cI, 204, .inl (fun j => nI (g3_5 j))))] := hD
  refine lv_iconst (v := (nI (10 ^ 0))) hx hb dX3_loadDigits_8 (by decide) ?_
  refine lv_istore_n (lv' := [(1, .int (nI (10 ^ 0))), (0, .ref ax)]) hx hb dX3_loadDigits_9 rfl hl (by decide) rfl (fun ls hl => ?_)
  refine lv_iconst (v := (nI 0)) hx hb dX3_loadDigits_10 (by decide) ?_
  refine lv_istore_n (lv' := [(2, .int (nI 0)), (1, .int (nI (10 ^ 0))), (0, .ref ax)]) hx hb dX3_loadDigits_11 rfl hl (by decide) rfl (fun ls hl => ?_)
  refine lv_iconst (v := (nI 0)) hx hb dX3_loadDigits_12 (by decide) ?_
  refine lv_istore_n (lv' := [(3, .int (nI 0)), (2, .int (nI 0)), (1, .int (nI (10 ^ 0))), (0, .ref ax)]) hx hb dX3_loadDigits_13 rfl hl (by decide) rfl (fun ls hl => ?_)
  have LP14 : ∀ (n9 : Nat) (i p9 vl : Nat) (w2 : Nat → Nat) (hm : (dn - i) < n9) (hi : i ≤ dn) (hp : p9 < 9) (hvl : vl < 10 ^ p9) (hw2 : ∀ j, w2 j < 256) (hv : sv w2 204 * ((10 ^ p9 : Nat) : Int) + vl = dval dg i) (H : Heap) (locs : List Loc) (ls : Array Slot) (hP : va_P (dC, dI) vwCl [(ax, .inr (3, [.ref ak, .ref ad, .ref ab, .ref ao, .ref aw])), (ad, .inr (1, [.ref d1, .int (nI dn)])), (d1, .inl (cI, 480, .inl (fun j => nI (dg j)))), (aw, .inr (2, [.ref w1])), (w1, .inl (cI, 204, .inl (fun j => nI (w2 j))))] H) (hD : va_D A [(ax, .inr (3, [.ref ak, .ref ad, .ref ab, .ref ao, .ref aw])), (ad, .inr (1, [.ref d1, .int (nI dn)])), (d1, .inl (cI, 480, .inl (fun j => nI (dg j)))), (aw, .inr (2, [.ref w1])), (w1, .inl (cI, 204, .inl (fun j => nI (w2 j))))]) (hS : va_S A s.heap H locs) (hl : lv_has ls 4 [(0, .ref ax), (1, .int (nI (10 ^ p9))), (2, .int (nI vl)), (3, .int (nI i))]), W p l e (headSpec wsX3_loadDigits ({ frames := 2, cells := 0, slots := 0, locals := 42 } : Room)).room s m ([.ref ax]).toArray below meth c H locs 0 0 (MQ below (va_Qv (fun (w3 : Nat → Nat) => (∀ j, w3 j < 256) ∧ sv w3 204 = dval dg dn) (fun (w3 : Nat → Nat) (tS : State) => va_P (dC, dI) vwCl [(ax, .inr (3, [.ref ak, .ref ad, .ref ab, .ref ao, .ref aw])), (ad, .inr (1, [.ref d1, .int (nI dn)])), (d1, .inl (cI, 480, .inl (fun j => nI (dg j)))), (aw, .inr (2, [.ref w1])), (w1, .inl (cI, 204, .inl (fun j => nI (w3 j))))] tS.heap ∧ va_K (dC, dI) vwCl [(cI, .int)] tS ∧ va_D A [(ax, .inr (3, [.ref ak, .ref ad, .ref ab, .ref ao, .ref aw])), (ad, .inr (1, [.ref d1, .int (nI dn)])), (d1, .inl (cI, 480, .inl (fun j => nI (dg j)))), (aw, .inr (2, [.ref w1])), (w1, .inl (cI, 204, .inl (fun j => nI (w3 j))))]) A) ([.ref ax]).toArray s 0 0 A) (F0 m 14 ls []) := by
    intro n9
    induction n9 with
    | zero => intro i p9 vl w2 hm; exact absurd hm (Nat.not_lt_zero _)
    | succ n9 ih =>
      intro i p9 vl w2 hm hi hp hvl hw2 hv H locs ls hP hD hS hl
      have ih14 := ih
      refine lv_iload_n hx hb dX3_loadDigits_14 rfl (lv_at hl 3 rfl) ?_
      refine lv_aload_n hx hb dX3_loadDigits_15 rfl (lv_at hl 0 rfl) ?_
      refine va_get (D := (dC, dI)) (ci := 3) (v := .ref ad) (C := RX3) (T := TX3) (N := 5) hx hb hts hinX3 hown hK hP 0 rfl rfl 1 (by decide) (hts (.fieldLink RX3 21 "NumberContents" "digitRow" "LNumberContents$Row;") (by decide +kernel)) (fun _ h9 => h9) rfl dX3_loadDigits_16 ?_
      have hPc := hP.sub (ws' := [(ad, .inr (1, [.ref d1, .int (nI dn)])), (d1, .inl (cI, 480, .inl (fun j => nI (dg j))))]) [1, 2] rfl
      have hKc := hK.sub (tys' := [(cI, .int)]) [0] rfl
      refine vp_callSi (W.runV (As := []) (rest := [.int (nI i)]) ⟨hx, hb, hml, hown, hts⟩ (c_X1_length l dC dI cI ad d1 480 dn (fun j => nI (dg j)) ) (cwV 0 hts gX3_loadDigits_X1_length rfl rfl rfl (by decide +kernel) ⟨Nat.le_of_ble_eq_true rfl, Nat.le_of_ble_eq_true rfl⟩) ⟨fun a U g mk q => by obtain ⟨q0, qP, qK⟩ := q; exact ⟨q0, qP, va_K.moved (u := U) (U := U.calling g mk a) (Vm.Alike.refl U.vm) qK⟩, va_recv hK hP (ci := 1) (q0 := 1) rfl rfl, fun U hU hW => ⟨rfl, by rw [hU]; exact hPc, va_K.moved hW.alike hKc⟩⟩ rfl rfl hl.1 rfl (lv_room (Nat.le_of_ble_eq_true rfl)) dX3_loadDigits_19 ⟨Nat.le_of_ble_eq_true rfl, Nat.le_of_ble_eq_true rfl⟩) (fun r19 h19 => ?_)
      obtain rfl : r19 = nI dn := h19
      refine lv_icmp_ge (tgt := 69) hx hb dX3_loadDigits_22 (by decide) (fun c22 => ?_) (fun c22 => ?_)
      · refine lv_aload_n hx hb dX3_loadDigits_69 rfl (lv_at hl 0 rfl) ?_
        refine va_get (D := (dC, dI)) (ci := 3) (v := .ref aw) (C := RX3) (T := TX3) (N := 5) hx hb hts hinX3 hown hK hP 0 rfl rfl 4 (by decide) (hts (.fieldLink RX3 34 "NumberContents" "wide" "LNumberContents$Wide;") (by decide +kernel)) (fun _ h9 => h9) rfl dX3_loadDigits_70 ?_
        refine lv_iload_n hx hb dX3_loadDigits_73 rfl (lv_at hl 1 rfl) ?_
        refine lv_iload_n hx hb dX3_loadDigits_74 rfl (lv_at hl 2 rfl) ?_
        have hPc := hP.sub (ws' := [(aw, .inr (2, [.ref w1])), (w1, .inl (cI, 204, .inl (fun j => nI (w2 j))))]) [3, 4] rfl
        have hKc := hK.sub (tys' := [(cI, .int)]) [0] rfl
        have hDc := hD.sub (ws' := [(aw, .inr (2, [.ref w1])), (w1, .inl (cI, 204, .inl (fun j => nI (w2 j))))]) [3, 4] (by decide) rfl
        have hFc := va_free (wc := [(aw, .inr (2, [.ref w1])), (w1, .inl (cI, 204, .inl (fun j => nI (w2 j))))]) hD hS hA [3, 4] rfl
        refine va_callv (va_runV (As := [.int (nI (10 ^ p9)), .int (nI vl)]) (rest := []) ⟨hx, hb, hml, hown, hts⟩ (c_X2_multiplyAndAdd l dC dI cI aw w1 w2 (nI (10 ^ p9)) (nI vl) H.size hw2) (cwV 2 hts gX3_loadDigits_X2_multiplyAndAdd rfl rfl rfl (by decide +kernel) ⟨Nat.le_of_ble_eq_true rfl, Nat.le_of_ble_eq_true rfl⟩) ⟨fun a U g mk q => by obtain ⟨q0, q1, qP, qK, qD⟩ := q; exact ⟨q0, q1, qP, va_K.moved (u := U) (U := U.calling g mk a) (Vm.Alike.refl U.vm) qK, qD⟩, va_recv hKc hPc (ci := 2) (q0 := 0) rfl rfl, fun U hU hW => ⟨rfl, by rw [hU], by rw [hU]; exact hPc, va_K.moved hW.alike hKc, hDc.weaken (fun _ _ _ _ => trivial)⟩⟩ rfl rfl hl.1 rfl (lv_room (Nat.le_of_ble_eq_true rfl)) dX3_loadDigits_75 ⟨Nat.le_of_ble_eq_true rfl, Nat.le_of_ble_eq_true rfl⟩) hS (fun q _ h => hFc q h) hFc (fun uS tS H1 locs htS hvm h75 hB hzS hkS hS => ?_)
        obtain ⟨g3_75, rfl⟩ : ∃ z, z = uS := ⟨_, rfl⟩
        obtain ⟨hP1, hK1, hD1⟩ := hB
        rw [htS] at hP1
        have hK1 := va_K.moved hvm.symm hK1
        try dsimp only at h75
        obtain ⟨hP, hD⟩ := va_join (wr := [(ax, .inr (3, [.ref ak, .ref ad, .ref ab, .ref ao, .ref aw])), (ad, .inr (1, [.ref d1, .int (nI dn)])), (d1, .inl (cI, 480, .inl (fun j => nI (dg j))))]) (w1 := [(aw, .inr (2, [.ref w1])), (w1, .inl (cI, 204, .inl (fun j => nI (g3_75 j))))]) hP hD [3, 4] [0, 1, 2] rfl rfl (by decide) (by decide) hkS hFc hP1 hD1
        generalize H1 = H at hP hS ⊢
        have hP : va_P (dC, dI) vwCl [(ax, .inr (3, [.ref ak, .ref ad, .ref ab, .ref ao, .ref aw])), (ad, .inr (1, [.ref d1, .int (nI dn)])), (d1, .inl (cI, 480, .inl (fun j => nI (dg j)))), (aw, .inr (2, [.ref w1])), (w1, .inl (cI, 204, .inl (fun j => nI (g3_75 j))))] H := hP
        have hD : va_D A [(ax, .inr (3, [.ref ak, .ref ad, .ref ab, .ref ao, .ref aw])), (ad, .inr (1, [.ref d1, .int (nI dn)])), (d1, .inl (cI, 480, .inl (fun j => nI (dg j)))), (aw, .inr (2, [.ref w1])), (w1, .inl (cI, 204, .inl (fun j => nI (g3_75 j))))] := hD
        have hP9 := hP.sub (ws' := [(ax, .inr (3, [.ref ak, .ref ad, .ref ab, .ref ao, .ref aw])), (ad, .inr (1, [.ref d1, .int (nI dn)])), (d1, .inl (cI, 480, .inl (fun j => nI (dg j)))), (aw, .inr (2, [.ref w1])), (w1, .inl (cI, 204, .inl (fun j => nI (g3_75 j))))]) [0, 1, 2, 3, 4] rfl
        have hD9 := hD.sub (ws' := [(ax, .inr (3, [.ref ak, .ref ad, .ref ab, .ref ao, .ref aw])), (ad, .inr (1, [.ref d1, .int (nI dn)])), (d1, .inl (cI, 480, .inl (fun j => nI (dg j)))), (aw, .inr (2, [.ref w1])), (w1, .inl (cI, 204, .inl (fun j => nI (g3_75 j))))]) [0, 1, 2, 3, 4] (by decide) rfl
        have hK9 := hK.sub (tys' := [(cI, .int)]) [0] rfl
        exact W.vret hx hb hr (fun tS htS hW => ⟨⟨g3_75, rfl, (by have he : i = dn := Nat.le_antisymm hi ((nI_leI (by omega) (by omega)).mp c22); subst he; exact ⟨h75.1, ld_new hdg (by omega) hvl hdn hv h75⟩), by rw [htS]; exact hP9, va_K.moved hW.alike hK9, hD9⟩, hS.F htS⟩) hS.2.2 dX3_loadDigits_78
      · have hlt : i < dn := Nat.lt_of_not_le (fun h => c22 (nI_le h (by omega)))
        have hpp := p10_lt (show p9 + 1 ≤ 9 by omega)
        have hvl2 := ld_vl hvl (hdg i)
        refine lv_iload_n hx hb dX3_loadDigits_25 rfl (lv_at hl 1 rfl) ?_
        refine lv_bipush (v := (nI 10)) hx hb dX3_loadDigits_26 (by decide) ?_
        refine lv_imul hx hb dX3_loadDigits_28 ?_
        refine lv_topi (fun x28 e28 => ?_)
        obtain rfl : x28 = nI (10 ^ (p9 + 1)) := e28.trans (pk_mul _ 10)
        refine lv_istore_n (lv' := [(1, .int (nI (10 ^ (p9 + 1)))), (0, .ref ax), (2, .int (nI vl)), (3, .int (nI i))]) hx hb dX3_loadDigits_29 rfl hl (by decide) rfl (fun ls hl => ?_)
        refine lv_iload_n hx hb dX3_loadDigits_30 rfl (lv_at hl 2 rfl) ?_
        refine lv_bipush (v := (nI 10)) hx hb dX3_loadDigits_31 (by decide) ?_
        refine lv_imul hx hb dX3_loadDigits_33 ?_
        refine lv_topi (fun x33 e33 => ?_)
        obtain rfl : x33 = nI (vl * 10) := e33.trans (pk_mul _ 10)
        refine lv_aload_n hx hb dX3_loadDigits_34 rfl (lv_at hl 1 rfl) ?_
        refine va_get (D := (dC, dI)) (ci := 3) (v := .ref ad) (C := RX3) (T := TX3) (N := 5) hx hb hts hinX3 hown hK hP 0 rfl rfl 1 (by decide) (hts (.fieldLink RX3 21 "NumberContents" "digitRow" "LNumberContents$Row;") (by decide +kernel)) (fun _ h9 => h9) rfl dX3_loadDigits_35 ?_
        refine lv_iload_n hx hb dX3_loadDigits_38 rfl (lv_at hl 3 rfl) ?_
        have hPc := hP.sub (ws' := [(ad, .inr (1, [.ref d1, .int (nI dn)])), (d1, .inl (cI, 480, .inl (fun j => nI (dg j))))]) [1, 2] rfl
        have hKc := hK.sub (tys' := [(cI, .int)]) [0] rfl
        refine vp_callSi (W.runV (As := [.int (nI i)]) (rest := [.int (nI (vl * 10))]) ⟨hx, hb, hml, hown, hts⟩ (c_X1_itemAt l dC dI cI ad d1 480 dn (fun j => nI (dg j)) (nI i) (by omega) (by omega)) (cwV 1 hts gX3_loadDigits_X1_itemAt rfl rfl rfl (by decide +kernel) ⟨Nat.le_of_ble_eq_true rfl, Nat.le_of_ble_eq_true rfl⟩) ⟨fun a U g mk q => by obtain ⟨q0, qP, qK⟩ := q; exact ⟨q0, qP, va_K.moved (u := U) (U := U.calling g mk a) (Vm.Alike.refl U.vm) qK⟩, va_recv hK hP (ci := 1) (q0 := 1) rfl rfl, fun U hU hW => ⟨rfl, by rw [hU]; exact hPc, va_K.moved hW.alike hKc⟩⟩ rfl rfl hl.1 rfl (lv_room (Nat.le_of_ble_eq_true rfl)) dX3_loadDigits_39 ⟨Nat.le_of_ble_eq_true rfl, Nat.le_of_ble_eq_true rfl⟩) (fun r39 h39 => ?_)
        obtain rfl : r39 = nI (dg i) := it_at hlt (by omega) h39
        refine lv_iadd hx hb dX3_loadDigits_42 ?_
        refine lv_topi (fun x42 e42 => ?_)
        obtain rfl : x42 = nI (vl * 10 + dg i) := e42.trans (nI_add _ _)
        refine lv_istore_n (lv' := [(2, .int (nI (vl * 10 + dg i))), (1, .int (nI (10 ^ (p9 + 1)))), (0, .ref ax), (3, .int (nI i))]) hx hb dX3_loadDigits_43 rfl hl (by decide) rfl (fun ls hl => ?_)
        refine lv_iload_n hx hb dX3_loadDigits_44 rfl (lv_at hl 1 rfl) ?_
        refine lv_ldc (v := 1000000000) hx hb hown (hts (.constant RX3 185 (1000000000)) (by decide +kernel)) dX3_loadDigits_45 ?_
        refine lv_icmp_ne (tgt := 63) hx hb dX3_loadDigits_47 (by decide) (fun c47 => ?_) (fun c47 => ?_)
        · obtain ⟨x63, e63⟩ : ∃ zz9 : Int32, zz9 = (nI i) + 1 := ⟨_, rfl⟩
          refine lv_iinc (v := x63) (lv' := [(3, .int x63), (2, .int (nI (vl * 10 + dg i))), (1, .int (nI (10 ^ (p9 + 1)))), (0, .ref ax)]) hx hb dX3_loadDigits_63 hl (k := 3) rfl (by rw [e63]; rfl) (by decide) rfl (fun ls hl => ?_)
          obtain rfl : x63 = nI (i + 1) := e63.trans (nI_1 i)
          refine lv_goto (tgt := 14) hx hb dX3_loadDigits_66 (by decide) ?_
          have hp8 : p9 ≠ 8 := fun z => c47 ((p10_9 p9 hp).mpr z)
          exact ih14 (i + 1) (p9 + 1) (vl * 10 + dg i) w2 (by omega) (by omega) (by omega) (ld_vl hvl (hdg i)) hw2 (ld_hv hv) _ _ _ (hP.sub [0, 1, 2, 3, 4] rfl) (hD.sub [0, 1, 2, 3, 4] (by decide) rfl) hS (lv_sub hl [3, 2, 1, 0] rfl)
        · refine lv_aload_n hx hb dX3_loadDigits_50 rfl (lv_at hl 2 rfl) ?_
          refine va_get (D := (dC, dI)) (ci := 3) (v := .ref aw) (C := RX3) (T := TX3) (N := 5) hx hb hts hinX3 hown hK hP 0 rfl rfl 4 (by decide) (hts (.fieldLink RX3 34 "NumberContents" "wide" "LNumberContents$Wide;") (by decide +kernel)) (fun _ h9 => h9) rfl dX3_loadDigits_51 ?_
          refine lv_iload_n hx hb dX3_loadDigits_54 rfl (lv_at hl 1 rfl) ?_
          refine lv_iload_n hx hb dX3_loadDigits_55 rfl (lv_at hl 0 rfl) ?_
          have hPc := hP.sub (ws' := [(aw, .inr (2, [.ref w1])), (w1, .inl (cI, 204, .inl (fun j => nI (w2 j))))]) [3, 4] rfl
          have hKc := hK.sub (tys' := [(cI, .int)]) [0] rfl
          have hDc := hD.sub (ws' := [(aw, .inr (2, [.ref w1])), (w1, .inl (cI, 204, .inl (fun j => nI (w2 j))))]) [3, 4] (by decide) rfl
          have hFc := va_free (wc := [(aw, .inr (2, [.ref w1])), (w1, .inl (cI, 204, .inl (fun j => nI (w2 j))))]) hD hS hA [3, 4] rfl
          refine va_callv (va_runV (As := [.int (nI (10 ^ (p9 + 1))), .int (nI (vl * 10 + dg i))]) (rest := []) ⟨hx, hb, hml, hown, hts⟩ (c_X2_multiplyAndAdd l dC dI cI aw w1 w2 (nI (10 ^ (p9 + 1))) (nI (vl * 10 + dg i)) H.size hw2) (cwV 2 hts gX3_loadDigits_X2_multiplyAndAdd rfl rfl rfl (by decide +kernel) ⟨Nat.le_of_ble_eq_true rfl, Nat.le_of_ble_eq_true rfl⟩) ⟨fun a U g mk q => by obtain ⟨q0, q1, qP, qK, qD⟩ := q; exact ⟨q0, q1, qP, va_K.moved (u := U) (U := U.calling g mk a) (Vm.Alike.refl U.vm) qK, qD⟩, va_recv hKc hPc (ci := 2) (q0 := 0) rfl rfl, fun U hU hW => ⟨rfl, by rw [hU], by rw [hU]; exact hPc, va_K.moved hW.alike hKc, hDc.weaken (fun _ _ _ _ => trivial)⟩⟩ rfl rfl hl.1 rfl (lv_room (Nat.le_of_ble_eq_true rfl)) dX3_loadDigits_56 ⟨Nat.le_of_ble_eq_true rfl, Nat.le_of_ble_eq_true rfl⟩) hS (fun q _ h => hFc q h) hFc (fun uS tS H1 locs htS hvm h56 hB hzS hkS hS => ?_)
          obtain ⟨g3_56, rfl⟩ : ∃ z, z = uS := ⟨_, rfl⟩
          obtain ⟨hP1, hK1, hD1⟩ := hB
          rw [htS] at hP1
          have hK1 := va_K.moved hvm.symm hK1
          try dsimp only at h56
          obtain ⟨hP, hD⟩ := va_join (wr := [(ax, .inr (3, [.ref ak, .ref ad, .ref ab, .ref ao, .ref aw])), (ad, .inr (1, [.ref d1, .int (nI dn)])), (d1, .inl (cI, 480, .inl (fun j => nI (dg j))))]) (w1 := [(aw, .inr (2, [.ref w1])), (w1, .inl (cI, 204, .inl (fun j => nI (g3_56 j))))]) hP hD [3, 4] [0, 1, 2] rfl rfl (by decide) (by decide) hkS hFc hP1 hD1
          generalize H1 = H at hP hS ⊢
          have hP : va_P (dC, dI) vwCl [(ax, .inr (3, [.ref ak, .ref ad, .ref ab, .ref ao, .ref aw])), (ad, .inr (1, [.ref d1, .int (nI dn)])), (d1, .inl (cI, 480, .inl (fun j => nI (dg j)))), (aw, .inr (2, [.ref w1])), (w1, .inl (cI, 204, .inl (fun j => nI (g3_56 j))))] H := hP
          have hD : va_D A [(ax, .inr (3, [.ref ak, .ref ad, .ref ab, .ref ao, .ref aw])), (ad, .inr (1, [.ref d1, .int (nI dn)])), (d1, .inl (cI, 480, .inl (fun j => nI (dg j)))), (aw, .inr (2, [.ref w1])), (w1, .inl (cI, 204, .inl (fun j => nI (g3_56 j))))] := hD
          have h56n := ld_new hdg (by omega) hvl2 (by omega) (ld_hv hv) h56
          refine lv_iconst (v := (nI (10 ^ 0))) hx hb dX3_loadDigits_59 (by decide) ?_
          refine lv_istore_n (lv' := [(1, .int (nI (10 ^ 0))), (2, .int (nI (vl * 10 + dg i))), (0, .ref ax), (3, .int (nI i))]) hx hb dX3_loadDigits_60 rfl hl (by decide) rfl (fun ls hl => ?_)
          refine lv_iconst (v := (nI 0)) hx hb dX3_loadDigits_61 (by decide) ?_
          refine lv_istore_n (lv' := [(2, .int (nI 0)), (1, .int (nI (10 ^ 0))), (0, .ref ax), (3, .int (nI i))]) hx hb dX3_loadDigits_62 rfl hl (by decide) rfl (fun ls hl => ?_)
          obtain ⟨x63, e63⟩ : ∃ zz9 : Int32, zz9 = (nI i) + 1 := ⟨_, rfl⟩
          refine lv_iinc (v := x63) (lv' := [(3, .int x63), (2, .int (nI 0)), (1, .int (nI (10 ^ 0))), (0, .ref ax)]) hx hb dX3_loadDigits_63 hl (k := 3) rfl (by rw [e63]; rfl) (by decide) rfl (fun ls hl => ?_)
          obtain rfl : x63 = nI (i + 1) := e63.trans (nI_1 i)
          refine lv_goto (tgt := 14) hx hb dX3_loadDigits_66 (by decide) ?_
          exact ih14 (i + 1) 0 0 g3_56 (by omega) (by omega) (by omega) (by decide) h56.1 (by rw [h56n]; omega) _ _ _ (hP.sub [0, 1, 2, 3, 4] rfl) (hD.sub [0, 1, 2, 3, 4] (by decide) rfl) hS (lv_sub hl [3, 2, 1, 0] rfl)
  exact LP14 _ 0 0 0 g3_5 (Nat.lt_succ_self _) (by omega) (by omega) (by decide) (fill_lt h5 hw (by decide)) (by rw [sv_zero (by decide) h5.1]; rfl) _ _ _ (hP.sub [0, 1, 2, 3, 4] rfl) (hD.sub [0, 1, 2, 3, 4] (by decide) rfl) hS (lv_sub hl [3, 2, 1, 0] rfl)

theorem lb_end {w by9 : Nat → Nat} {bn fl : Nat} (h1 : 1 ≤ bn) (h2 : bn ≤ 200) (hs : (fl = 255 ∧ 128 ≤ by9 0) ∨ (fl = 0 ∧ by9 0 < 128)) (hlo : ∀ j, j < bn → w j = by9 (bn - 1 - j)) (hhi : ∀ j, bn ≤ j → j < 204 → w j = fl) :
    sv w 204 = sv (fun j => by9 (bn - 1 - j)) bn := by
  have hs2 : (fl = 255 ∧ 128 ≤ (fun j => by9 (bn - 1 - j)) (0 + (bn - 1))) ∨ (fl = 0 ∧ (fun j => by9 (bn - 1 - j)) (0 + (bn - 1)) < 128) := by
    simp only [Nat.zero_add, Nat.sub_self]; exact hs
  have e := ext_bv (g := fun j => by9 (bn - 1 - j)) (b := 0) h1 hs2 (204 - bn)
  rw [show bn + (204 - bn) = 204 from by omega] at e
  have e2 : bv w 204 = bv (ext (fun j => by9 (bn - 1 - j)) 0 bn fl) 204 := bv_congr (fun j hj => by
    by_cases h : j < bn
    · rw [hlo j h, ext_lo h, Nat.zero_add]
    · rw [hhi j (by omega) hj, ext_hi h])
  simp only [Nat.zero_add] at e
  rw [← e2] at e
  have e3 : sv w 204 = if 128 ≤ fl then (bv w 204 : Int) - ((256 ^ 204 : Nat) : Int) else bv w 204 := by
    unfold sv; rw [hhi (204 - 1) (by omega) (by decide)]
  rw [e3]
  generalize ((256 ^ 204 : Nat) : Int) = M at *
  rcases hs with ⟨rfl, _⟩ | ⟨rfl, _⟩
  · rw [if_pos (by decide)]; rw [if_pos rfl] at e; omega
  · rw [if_neg (by decide)]; rw [if_neg (by decide)] at e; omega

set_option maxHeartbeats 4000000 in
set_option maxRecDepth 100000 in
theorem c_X3_loadBytes (l : Launch) (dC : Nat → ClassId) (dI : Nat → Nat → Nat) (cI : ClassId) (ax ak ad ab ao aw : Nat) (b1 bn : Nat) (by9 : Nat → Nat) (w1 : Nat) (w : Nat → Nat) (sz : Nat) (hbn : 1 ≤ bn ∧ bn ≤ 200) (hby : ∀ j, by9 j < 256) (hw : ∀ j, w j < 256) : Met l yX3_loadBytes wsX3_loadBytes ({ frames := 2, cells := 0, slots := 0, locals := 42 } : Room) (va_Pc [.ref ax] (fun U => U.heap.size = sz ∧ va_P (dC, dI) vwCl [(ax, .inr (3, [.ref ak, .ref ad, .ref ab, .ref ao, .ref aw])), (ab, .inr (1, [.ref b1, .int (nI bn)])), (b1, .inl (cI, 200, .inl (fun j => nI (by9 j)))), (aw, .inr (2, [.ref w1])), (w1, .inl (cI, 204, .inl (fun j => nI (w j))))] U.heap ∧ va_K (dC, dI) vwCl [(cI, .int)] U ∧ va_D (fun _ => True) [(ax, .inr (3, [.ref ak, .ref ad, .ref ab, .ref ao, .ref aw])), (ab, .inr (1, [.ref b1, .int (nI bn)])), (b1, .inl (cI, 200, .inl (fun j => nI (by9 j)))), (aw, .inr (2, [.ref w1])), (w1, .inl (cI, 204, .inl (fun j => nI (w j))))])) (va_Qv (fun (w3 : Nat → Nat) => (∀ j, w3 j < 256) ∧ sv w3 204 = sv (fun j => by9 (bn - 1 - j)) bn) (fun (w3 : Nat → Nat) (tS : State) => va_P (dC, dI) vwCl [(ax, .inr (3, [.ref ak, .ref ad, .ref ab, .ref ao, .ref aw])), (ab, .inr (1, [.ref b1, .int (nI bn)])), (b1, .inl (cI, 200, .inl (fun j => nI (by9 j)))), (aw, .inr (2, [.ref w1])), (w1, .inl (cI, 204, .inl (fun j => nI (w3 j))))] tS.heap ∧ va_K (dC, dI) vwCl [(cI, .int)] tS ∧ va_D (va_A [(ax, .inr (3, [.ref ak, .ref ad, .ref ab, .ref ao, .ref aw])), (ab, .inr (1, [.ref b1, .int (nI bn)])), (b1, .inl (cI, 200, .inl (fun j => nI (by9 j)))), (aw, .inr (2, [.ref w1])), (w1, .inl (cI, 204, .inl (fun j => nI (w j))))] sz) [(ax, .inr (3, [.ref ak, .ref ad, .ref ab, .ref ao, .ref aw])), (ab, .inr (1, [.ref b1, .int (nI bn)])), (b1, .inl (cI, 200, .inl (fun j => nI (by9 j)))), (aw, .inr (2, [.ref w1])), (w1, .inl (cI, 204, .inl (fun j => nI (w3 j))))]) (va_A [(ax, .inr (3, [.ref ak, .ref ad, .ref ab, .ref ao, .ref aw])), (ab, .inr (1, [.ref b1, .int (nI bn)])), (b1, .inl (cI, 200, .inl (fun j => nI (by9 j)))), (aw, .inr (2, [.ref w1])), (w1, .inl (cI, 204, .inl (fun j => nI (w j))))] sz)) 0 0 (va_A [(ax, .inr (3, [.ref ak, .ref ad, .ref ab, .ref ao, .ref aw])), (ab, .inr (1, [.ref b1, .int (nI bn)])), (b1, .inl (cI, 200, .inl (fun j => nI (by9 j)))), (aw, .inr (2, [.ref w1])), (w1, .inl (cI, 204, .inl (fun j => nI (w j))))] sz) := by
  refine Met.ofW (cc := cX3_loadBytes) (maxL := 3) (ret := none) (by decide) rfl ?_
  intro p e s m args below meth c s₁ B hml hv
  obtain ⟨rfl, hsz, hP, hK, hD0⟩ := hv
  have hx := B.exec
  have hb := B.bytes
  have hr := B.returns
  have hts := atoms_spec (ws := wsX3_loadBytes) B.pre
  have hown : s.vm.findClass RX3 = some m.cls := findClass_of_methodNamed B.named
  have hlocks := B.notSynchronized
  subst hsz
  have hD := hD0.self (sz := s.heap.size)
  generalize hAe : va_A [(ax, .inr (3, [.ref ak, .ref ad, .ref ab, .ref ao, .ref aw])), (ab, .inr (1, [.ref b1, .int (nI bn)])), (b1, .inl (cI, 200, .inl (fun j => nI (by9 j)))), (aw, .inr (2, [.ref w1])), (w1, .inl (cI, 204, .inl (fun j => nI (w j))))] s.heap.size = A at hD ⊢
  have hA : ∀ q : Nat, s.heap.size ≤ q → A q := fun q h => by rw [← hAe]; exact Or.inr h
  have hS : va_S A s.heap s.heap [] := va_S.rf
  have hinX3 : ∀ w ∈ wsX30, w ∈ wsX3_loadBytes := by decide +kernel
  have hl := lv_entry ([.ref ax]) (n := 3) (Nat.le_of_ble_eq_true rfl)
  rw [lg_entry_eq]
  generalize (lg_sl ([.ref ax]) ++ List.replicate (3 - (lg_sl ([.ref ax])).length) Slot.unset).toArray = ls at hl ⊢
  have hl : lv_has ls 3 [(0, .ref ax)] := hl
  refine lv_aload_n hx hb dX3_loadBytes_0 rfl (lv_at hl 0 rfl) ?_
  refine va_get (D := (dC, dI)) (ci := 3) (v := .ref ab) (C := RX3) (T := TX3) (N := 5) hx hb hts hinX3 hown hK hP 0 rfl rfl 2 (by decide) (hts (.fieldLink RX3 25 "NumberContents" "byteRow" "LNumberContents$Row;") (by decide +kernel)) (fun _ h9 => h9) rfl dX3_loadBytes_1 ?_
  have hPc := hP.sub (ws' := [(ab, .inr (1, [.ref b1, .int (nI bn)])), (b1, .inl (cI, 200, .inl (fun j => nI (by9 j))))]) [1, 2] rfl
  have hKc := hK.sub (tys' := [(cI, .int)]) [0] rfl
  refine vp_callSi (W.runV (As := []) (rest := []) ⟨hx, hb, hml, hown, hts⟩ (c_X1_length l dC dI cI ab b1 200 bn (fun j => nI (by9 j)) ) (cwV 0 hts gX3_loadBytes_X1_length rfl rfl rfl (by decide +kernel) ⟨Nat.le_of_ble_eq_true rfl, Nat.le_of_ble_eq_true rfl⟩) ⟨fun a U g mk q => by obtain ⟨q0, qP, qK⟩ := q; exact ⟨q0, qP, va_K.moved (u := U) (U := U.calling g mk a) (Vm.Alike.refl U.vm) qK⟩, va_recv hK hP (ci := 1) (q0 := 1) rfl rfl, fun U hU hW => ⟨rfl, by rw [hU]; exact hPc, va_K.moved hW.alike hKc⟩⟩ rfl rfl hl.1 rfl (lv_room (Nat.le_of_ble_eq_true rfl)) dX3_loadBytes_4 ⟨Nat.le_of_ble_eq_true rfl, Nat.le_of_ble_eq_true rfl⟩) (fun r4 h4 => ?_)
  obtain rfl : r4 = nI bn := h4
  refine lv_istore_n (lv' := [(1, .int (nI bn)), (0, .ref ax)]) hx hb dX3_loadBytes_7 rfl hl (by decide) rfl (fun ls hl => ?_)
  refine lv_aload_n hx hb dX3_loadBytes_8 rfl (lv_at hl 1 rfl) ?_
  refine va_get (D := (dC, dI)) (ci := 3) (v := .ref aw) (C := RX3) (T := TX3) (N := 5) hx hb hts hinX3 hown hK hP 0 rfl rfl 4 (by decide) (hts (.fieldLink RX3 34 "NumberContents" "wide" "LNumberContents$Wide;") (by decide +kernel)) (fun _ h9 => h9) rfl dX3_loadBytes_9 ?_
  refine lv_aload_n hx hb dX3_loadBytes_12 rfl (lv_at hl 1 rfl) ?_
  refine va_get (D := (dC, dI)) (ci := 3) (v := .ref ab) (C := RX3) (T := TX3) (N := 5) hx hb hts hinX3 hown hK hP 0 rfl rfl 2 (by decide) (hts (.fieldLink RX3 25 "NumberContents" "byteRow" "LNumberContents$Row;") (by decide +kernel)) (fun _ h9 => h9) rfl dX3_loadBytes_13 ?_
  refine lv_iconst (v := (nI 0)) hx hb dX3_loadBytes_16 (by decide) ?_
  have hPc := hP.sub (ws' := [(ab, .inr (1, [.ref b1, .int (nI bn)])), (b1, .inl (cI, 200, .inl (fun j => nI (by9 j))))]) [1, 2] rfl
  have hKc := hK.sub (tys' := [(cI, .int)]) [0] rfl
  refine vp_callSi (W.runV (As := [.int (nI 0)]) (rest := [.ref aw]) ⟨hx, hb, hml, hown, hts⟩ (c_X1_itemAt l dC dI cI ab b1 200 bn (fun j => nI (by9 j)) (nI 0) (by omega) (by omega)) (cwV 1 hts gX3_loadBytes_X1_itemAt rfl rfl rfl (by decide +kernel) ⟨Nat.le_of_ble_eq_true rfl, Nat.le_of_ble_eq_true rfl⟩) ⟨fun a U g mk q => by obtain ⟨q0, qP, qK⟩ := q; exact ⟨q0, qP, va_K.moved (u := U) (U := U.calling g mk a) (Vm.Alike.refl U.vm) qK⟩, va_recv hK hP (ci := 1) (q0 := 1) rfl rfl, fun U hU hW => ⟨rfl, by rw [hU]; exact hPc, va_K.moved hW.alike hKc⟩⟩ rfl rfl hl.1 rfl (lv_room (Nat.le_of_ble_eq_true rfl)) dX3_loadBytes_17 ⟨Nat.le_of_ble_eq_true rfl, Nat.le_of_ble_eq_true rfl⟩) (fun r17 h17 => ?_)
  obtain rfl : r17 = nI (by9 0) := it_at (by omega) (by omega) h17
  refine lv_sipush (v := (nI 128)) hx hb dX3_loadBytes_20 (by decide) ?_
  refine lv_icmp_lt (tgt := 32) hx hb dX3_loadBytes_23 (by decide) (fun c23 => ?_) (fun c23 => ?_)
  · refine lv_iconst (v := (nI 0)) hx hb dX3_loadBytes_32 (by decide) ?_
    have hPc := hP.sub (ws' := [(aw, .inr (2, [.ref w1])), (w1, .inl (cI, 204, .inl (fun j => nI (w j))))]) [3, 4] rfl
    have hKc := hK.sub (tys' := [(cI, .int)]) [0] rfl
    have hDc := hD.sub (ws' := [(aw, .inr (2, [.ref w1])), (w1, .inl (cI, 204, .inl (fun j => nI (w j))))]) [3, 4] (by decide) rfl
    have hFc := va_free (wc := [(aw, .inr (2, [.ref w1])), (w1, .inl (cI, 204, .inl (fun j => nI (w j))))]) hD hS hA [3, 4] rfl
    refine va_callv (va_runV (As := [.int (nI 0)]) (rest := []) ⟨hx, hb, hml, hown, hts⟩ (c_X2_fill l dC dI cI aw w1 w 0 s.heap.size ) (cwV 1 hts gX3_loadBytes_X2_fill rfl rfl rfl (by decide +kernel) ⟨Nat.le_of_ble_eq_true rfl, Nat.le_of_ble_eq_true rfl⟩) ⟨fun a U g mk q => by obtain ⟨q0, q1, qP, qK, qD⟩ := q; exact ⟨q0, q1, qP, va_K.moved (u := U) (U := U.calling g mk a) (Vm.Alike.refl U.vm) qK, qD⟩, va_recv hKc hPc (ci := 2) (q0 := 0) rfl rfl, fun U hU hW => ⟨rfl, by rw [hU], by rw [hU]; exact hPc, va_K.moved hW.alike hKc, hDc.weaken (fun _ _ _ _ => trivial)⟩⟩ rfl rfl hl.1 rfl (lv_room (Nat.le_of_ble_eq_true rfl)) dX3_loadBytes_33 ⟨Nat.le_of_ble_eq_true rfl, Nat.le_of_ble_eq_true rfl⟩) hS (fun q _ h => hFc q h) hFc (fun uS tS H1 locs htS hvm h33 hB hzS hkS hS => ?_)
    obtain ⟨g3_33, rfl⟩ : ∃ z, z = uS := ⟨_, rfl⟩
    obtain ⟨hP1, hK1, hD1⟩ := hB
    rw [htS] at hP1
    have hK1 := va_K.moved hvm.symm hK1
    try dsimp only at h33
    obtain ⟨hP, hD⟩ := va_join (wr := [(ax, .inr (3, [.ref ak, .ref ad, .ref ab, .ref ao, .ref aw])), (ab, .inr (1, [.ref b1, .int (nI bn)])), (b1, .inl (cI, 200, .inl (fun j => nI (by9 j))))]) (w1 := [(aw, .inr (2, [.ref w1])), (w1, .inl (cI, 204, .inl (fun j => nI (g3_33 j))))]) hP hD [3, 4] [0, 1, 2] rfl rfl (by decide) (by decide) hkS hFc hP1 hD1
    generalize H1 = H at hP hS ⊢
    have hP : va_P (dC, dI) vwCl [(ax, .inr (3, [.ref ak, .ref ad, .ref ab, .ref ao, .ref aw])), (ab, .inr (1, [.ref b1, .int (nI bn)])), (b1, .inl (cI, 200, .inl (fun j => nI (by9 j)))), (aw, .inr (2, [.ref w1])), (w1, .inl (cI, 204, .inl (fun j => nI (g3_33 j))))] H := hP
    have hD : va_D A [(ax, .inr (3, [.ref ak, .ref ad, .ref ab, .ref ao, .ref aw])), (ab, .inr (1, [.ref b1, .int (nI bn)])), (b1, .inl (cI, 200, .inl (fun j => nI (by9 j)))), (aw, .inr (2, [.ref w1])), (w1, .inl (cI, 204, .inl (fun j => nI (g3_33 j))))] := hD
    refine lv_iconst (v := (nI 0)) hx hb dX3_loadBytes_36 (by decide) ?_
    refine lv_istore_n (lv' := [(2, .int (nI 0)), (1, .int (nI bn)), (0, .ref ax)]) hx hb dX3_loadBytes_37 rfl hl (by decide) rfl (fun ls hl => ?_)
    have LP38 : ∀ (n9 : Nat) (i fl : Nat) (w2 : Nat → Nat) (hm : (bn - i) < n9) (hi : i ≤ bn) (hs : (fl = 255 ∧ 128 ≤ by9 0) ∨ (fl = 0 ∧ by9 0 < 128)) (hlo : ∀ j, j < i → w2 j = by9 (bn - 1 - j)) (hhi : ∀ j, i ≤ j → j < 204 → w2 j = fl) (hw2 : ∀ j, w2 j < 256) (H : Heap) (locs : List Loc) (ls : Array Slot) (hP : va_P (dC, dI) vwCl [(ax, .inr (3, [.ref ak, .ref ad, .ref ab, .ref ao, .ref aw])), (ab, .inr (1, [.ref b1, .int (nI bn)])), (b1, .inl (cI, 200, .inl (fun j => nI (by9 j)))), (aw, .inr (2, [.ref w1])), (w1, .inl (cI, 204, .inl (fun j => nI (w2 j))))] H) (hD : va_D A [(ax, .inr (3, [.ref ak, .ref ad, .ref ab, .ref ao, .ref aw])), (ab, .inr (1, [.ref b1, .int (nI bn)])), (b1, .inl (cI, 200, .inl (fun j => nI (by9 j)))), (aw, .inr (2, [.ref w1])), (w1, .inl (cI, 204, .inl (fun j => nI (w2 j))))]) (hS : va_S A s.heap H locs) (hl : lv_has ls 3 [(0, .ref ax), (1, .int (nI bn)), (2, .int (nI i))]), W p l e (headSpec wsX3_loadBytes ({ frames := 2, cells := 0, slots := 0, locals := 42 } : Room)).room s m ([.ref ax]).toArray below meth c H locs 0 0 (MQ below (va_Qv (fun (w3 : Nat → Nat) => (∀ j, w3 j < 256) ∧ sv w3 204 = sv (fun j => by9 (bn - 1 - j)) bn) (fun (w3 : Nat → Nat) (tS : State) => va_P (dC, dI) vwCl [(ax, .inr (3, [.ref ak, .ref ad, .ref ab, .ref ao, .ref aw])), (ab, .inr (1, [.ref b1, .int (nI bn)])), (b1, .inl (cI, 200, .inl (fun j => nI (by9 j)))), (aw, .inr (2, [.ref w1])), (w1, .inl (cI, 204, .inl (fun j => nI (w3 j))))] tS.heap ∧ va_K (dC, dI) vwCl [(cI, .int)] tS ∧ va_D A [(ax, .inr (3, [.ref ak, .ref ad, .ref ab, .ref ao, .ref aw])), (ab, .inr (1, [.ref b1, .int (nI bn)])), (b1, .inl (cI, 200, .inl (fun j => nI (by9 j)))), (aw, .inr (2, [.ref w1])), (w1, .inl (cI, 204, .inl (fun j => nI (w3 j))))]) A) ([.ref ax]).toArray s 0 0 A) (F0 m 38 ls []) := by
      intro n9
      induction n9 with
      | zero => intro i fl w2 hm; exact absurd hm (Nat.not_lt_zero _)
      | succ n9 ih =>
        intro i fl w2 hm hi hs hlo hhi hw2 H locs ls hP hD hS hl
        have ih38 := ih
        refine lv_iload_n hx hb dX3_loadBytes_38 rfl (lv_at hl 2 rfl) ?_
        refine lv_iload_n hx hb dX3_loadBytes_39 rfl (lv_at hl 1 rfl) ?_
        refine lv_icmp_ge (tgt := 69) hx hb dX3_loadBytes_40 (by decide) (fun c40 => ?_) (fun c40 => ?_)
        · have hP9 := hP.sub (ws' := [(ax, .inr (3, [.ref ak, .ref ad, .ref ab, .ref ao, .ref aw])), (ab, .inr (1, [.ref b1, .int (nI bn)])), (b1, .inl (cI, 200, .inl (fun j => nI (by9 j)))), (aw, .inr (2, [.ref w1])), (w1, .inl (cI, 204, .inl (fun j => nI (w2 j))))]) [0, 1, 2, 3, 4] rfl
          have hD9 := hD.sub (ws' := [(ax, .inr (3, [.ref ak, .ref ad, .ref ab, .ref ao, .ref aw])), (ab, .inr (1, [.ref b1, .int (nI bn)])), (b1, .inl (cI, 200, .inl (fun j => nI (by9 j)))), (aw, .inr (2, [.ref w1])), (w1, .inl (cI, 204, .inl (fun j => nI (w2 j))))]) [0, 1, 2, 3, 4] (by decide) rfl
          have hK9 := hK.sub (tys' := [(cI, .int)]) [0] rfl
          exact W.vret hx hb hr (fun tS htS hW => ⟨⟨w2, rfl, (by have he : i = bn := Nat.le_antisymm hi ((nI_leI (by omega) (by omega)).mp c40); subst he; exact ⟨hw2, lb_end hbn.1 hbn.2 hs hlo hhi⟩), by rw [htS]; exact hP9, va_K.moved hW.alike hK9, hD9⟩, hS.F htS⟩) hS.2.2 dX3_loadBytes_69
        · have hlt : i < bn := Nat.lt_of_not_le (fun h => c40 (nI_le h (by omega)))
          refine lv_aload_n hx hb dX3_loadBytes_43 rfl (lv_at hl 0 rfl) ?_
          refine va_get (D := (dC, dI)) (ci := 3) (v := .ref aw) (C := RX3) (T := TX3) (N := 5) hx hb hts hinX3 hown hK hP 0 rfl rfl 4 (by decide) (hts (.fieldLink RX3 34 "NumberContents" "wide" "LNumberContents$Wide;") (by decide +kernel)) (fun _ h9 => h9) rfl dX3_loadBytes_44 ?_
          refine lv_iload_n hx hb dX3_loadBytes_47 rfl (lv_at hl 2 rfl) ?_
          refine lv_aload_n hx hb dX3_loadBytes_48 rfl (lv_at hl 0 rfl) ?_
          refine va_get (D := (dC, dI)) (ci := 3) (v := .ref ab) (C := RX3) (T := TX3) (N := 5) hx hb hts hinX3 hown hK hP 0 rfl rfl 2 (by decide) (hts (.fieldLink RX3 25 "NumberContents" "byteRow" "LNumberContents$Row;") (by decide +kernel)) (fun _ h9 => h9) rfl dX3_loadBytes_49 ?_
          refine lv_iload_n hx hb dX3_loadBytes_52 rfl (lv_at hl 1 rfl) ?_
          refine lv_iconst (v := 1) hx hb dX3_loadBytes_53 (by decide) ?_
          refine lv_isub hx hb dX3_loadBytes_54 ?_
          refine lv_topi (fun x54 e54 => ?_)
          obtain rfl : x54 = nI (bn - 1) := e54.trans (nI_m1 (by omega))
          refine lv_iload_n hx hb dX3_loadBytes_55 rfl (lv_at hl 2 rfl) ?_
          refine lv_isub hx hb dX3_loadBytes_56 ?_
          refine lv_topi (fun x56 e56 => ?_)
          obtain rfl : x56 = nI (bn - 1 - i) := e56.trans (pk_sub (by omega))
          have hPc := hP.sub (ws' := [(ab, .inr (1, [.ref b1, .int (nI bn)])), (b1, .inl (cI, 200, .inl (fun j => nI (by9 j))))]) [1, 2] rfl
          have hKc := hK.sub (tys' := [(cI, .int)]) [0] rfl
          refine vp_callSi (W.runV (As := [.int (nI (bn - 1 - i))]) (rest := [.int (nI i), .ref aw]) ⟨hx, hb, hml, hown, hts⟩ (c_X1_itemAt l dC dI cI ab b1 200 bn (fun j => nI (by9 j)) (nI (bn - 1 - i)) (by omega) (by omega)) (cwV 1 hts gX3_loadBytes_X1_itemAt rfl rfl rfl (by decide +kernel) ⟨Nat.le_of_ble_eq_true rfl, Nat.le_of_ble_eq_true rfl⟩) ⟨fun a U g mk q => by obtain ⟨q0, qP, qK⟩ := q; exact ⟨q0, qP, va_K.moved (u := U) (U := U.calling g mk a) (Vm.Alike.refl U.vm) qK⟩, va_recv hK hP (ci := 1) (q0 := 1) rfl rfl, fun U hU hW => ⟨rfl, by rw [hU]; exact hPc, va_K.moved hW.alike hKc⟩⟩ rfl rfl hl.1 rfl (lv_room (Nat.le_of_ble_eq_true rfl)) dX3_loadBytes_57 ⟨Nat.le_of_ble_eq_true rfl, Nat.le_of_ble_eq_true rfl⟩) (fun r57 h57 => ?_)
          obtain rfl : r57 = nI (by9 (bn - 1 - i)) := it_at (by omega) (by omega) h57
          have hPc := hP.sub (ws' := [(aw, .inr (2, [.ref w1])), (w1, .inl (cI, 204, .inl (fun j => nI (w2 j))))]) [3, 4] rfl
          have hKc := hK.sub (tys' := [(cI, .int)]) [0] rfl
          have hDc := hD.sub (ws' := [(aw, .inr (2, [.ref w1])), (w1, .inl (cI, 204, .inl (fun j => nI (w2 j))))]) [3, 4] (by decide) rfl
          have hFc := va_free (wc := [(aw, .inr (2, [.ref w1])), (w1, .inl (cI, 204, .inl (fun j => nI (w2 j))))]) hD hS hA [3, 4] rfl
          refine va_callv (va_runV (As := [.int (nI i), .int (nI (by9 (bn - 1 - i)))]) (rest := []) ⟨hx, hb, hml, hown, hts⟩ (c_X2_setByte l dC dI cI aw w1 w2 i (by9 (bn - 1 - i)) H.size (by omega)) (cwV 2 hts gX3_loadBytes_X2_setByte rfl rfl rfl (by decide +kernel) ⟨Nat.le_of_ble_eq_true rfl, Nat.le_of_ble_eq_true rfl⟩) ⟨fun a U g mk q => by obtain ⟨q0, q1, qP, qK, qD⟩ := q; exact ⟨q0, q1, qP, va_K.moved (u := U) (U := U.calling g mk a) (Vm.Alike.refl U.vm) qK, qD⟩, va_recv hKc hPc (ci := 2) (q0 := 0) rfl rfl, fun U hU hW => ⟨rfl, by rw [hU], by rw [hU]; exact hPc, va_K.moved hW.alike hKc, hDc.weaken (fun _ _ _ _ => trivial)⟩⟩ rfl rfl hl.1 rfl (lv_room (Nat.le_of_ble_eq_true rfl)) dX3_loadBytes_60 ⟨Nat.le_of_ble_eq_true rfl, Nat.le_of_ble_eq_true rfl⟩) hS (fun q _ h => hFc q h) hFc (fun uS tS H1 locs htS hvm h60 hB hzS hkS hS => ?_)
          obtain ⟨hP1, hK1, hD1⟩ := hB
          rw [htS] at hP1
          have hK1 := va_K.moved hvm.symm hK1
          try dsimp only at h60
          obtain ⟨hP, hD⟩ := va_join (wr := [(ax, .inr (3, [.ref ak, .ref ad, .ref ab, .ref ao, .ref aw])), (ab, .inr (1, [.ref b1, .int (nI bn)])), (b1, .inl (cI, 200, .inl (fun j => nI (by9 j))))]) (w1 := [(aw, .inr (2, [.ref w1])), (w1, .inl (cI, 204, .inl (fun j => nI (va_up w2 i (by9 (bn - 1 - i)) j))))]) hP hD [3, 4] [0, 1, 2] rfl rfl (by decide) (by decide) hkS hFc hP1 hD1
          generalize H1 = H at hP hS ⊢
          have hP : va_P (dC, dI) vwCl [(ax, .inr (3, [.ref ak, .ref ad, .ref ab, .ref ao, .ref aw])), (ab, .inr (1, [.ref b1, .int (nI bn)])), (b1, .inl (cI, 200, .inl (fun j => nI (by9 j)))), (aw, .inr (2, [.ref w1])), (w1, .inl (cI, 204, .inl (fun j => nI (va_up w2 i (by9 (bn - 1 - i)) j))))] H := hP
          have hD : va_D A [(ax, .inr (3, [.ref ak, .ref ad, .ref ab, .ref ao, .ref aw])), (ab, .inr (1, [.ref b1, .int (nI bn)])), (b1, .inl (cI, 200, .inl (fun j => nI (by9 j)))), (aw, .inr (2, [.ref w1])), (w1, .inl (cI, 204, .inl (fun j => nI (va_up w2 i (by9 (bn - 1 - i)) j))))] := hD
          obtain ⟨x63, e63⟩ : ∃ zz9 : Int32, zz9 = (nI i) + 1 := ⟨_, rfl⟩
          refine lv_iinc (v := x63) (lv' := [(2, .int x63), (0, .ref ax), (1, .int (nI bn))]) hx hb dX3_loadBytes_63 hl (k := 2) rfl (by rw [e63]; rfl) (by decide) rfl (fun ls hl => ?_)
          obtain rfl : x63 = nI (i + 1) := e63.trans (nI_1 i)
          refine lv_goto (tgt := 38) hx hb dX3_loadBytes_66 (by decide) ?_
          exact ih38 (i + 1) fl (va_up w2 i (by9 (bn - 1 - i))) (by omega) (by omega) hs (fun j h => by by_cases e : j = i; rw [e, va_up_self]; rw [va_up_ne _ _ e]; exact hlo j (by omega)) (fun j h h2 => by rw [va_up_ne _ _ (by omega)]; exact hhi j (by omega) h2) (up_lt hw2 (hby _)) _ _ _ (hP.sub [0, 1, 2, 3, 4] rfl) (hD.sub [0, 1, 2, 3, 4] (by decide) rfl) hS (lv_sub hl [1, 2, 0] rfl)
    exact LP38 _ 0 0 g3_33 (Nat.lt_succ_self _) (by omega) (Or.inr ⟨rfl, fb_lt (hby 0) c23⟩) (fun j h => absurd h (by omega)) (fun j _ h => h33.1 j h) (fill_lt h33 hw (by decide)) _ _ _ (hP.sub [0, 1, 2, 3, 4] rfl) (hD.sub [0, 1, 2, 3, 4] (by decide) rfl) hS (lv_sub hl [2, 1, 0] rfl)
  · refine lv_sipush (v := (nI 255)) hx hb dX3_loadBytes_26 (by decide) ?_
    refine lv_goto (tgt := 33) hx hb dX3_loadBytes_29 (by decide) ?_
    have hPc := hP.sub (ws' := [(aw, .inr (2, [.ref w1])), (w1, .inl (cI, 204, .inl (fun j => nI (w j))))]) [3, 4] rfl
    have hKc := hK.sub (tys' := [(cI, .int)]) [0] rfl
    have hDc := hD.sub (ws' := [(aw, .inr (2, [.ref w1])), (w1, .inl (cI, 204, .inl (fun j => nI (w j))))]) [3, 4] (by decide) rfl
    have hFc := va_free (wc := [(aw, .inr (2, [.ref w1])), (w1, .inl (cI, 204, .inl (fun j => nI (w j))))]) hD hS hA [3, 4] rfl
    refine va_callv (va_runV (As := [.int (nI 255)]) (rest := []) ⟨hx, hb, hml, hown, hts⟩ (c_X2_fill l dC dI cI aw w1 w 255 s.heap.size ) (cwV 1 hts gX3_loadBytes_X2_fill rfl rfl rfl (by decide +kernel) ⟨Nat.le_of_ble_eq_true rfl, Nat.le_of_ble_eq_true rfl⟩) ⟨fun a U g mk q => by obtain ⟨q0, q1, qP, qK, qD⟩ := q; exact ⟨q0, q1, qP, va_K.moved (u := U) (U := U.calling g mk a) (Vm.Alike.refl U.vm) qK, qD⟩, va_recv hKc hPc (ci := 2) (q0 := 0) rfl rfl, fun U hU hW => ⟨rfl, by rw [hU], by rw [hU]; exact hPc, va_K.moved hW.alike hKc, hDc.weaken (fun _ _ _ _ => trivial)⟩⟩ rfl rfl hl.1 rfl (lv_room (Nat.le_of_ble_eq_true rfl)) dX3_loadBytes_33 ⟨Nat.le_of_ble_eq_true rfl, Nat.le_of_ble_eq_true rfl⟩) hS (fun q _ h => hFc q h) hFc (fun uS tS H1 locs htS hvm h33 hB hzS hkS hS => ?_)
    obtain ⟨g3_33, rfl⟩ : ∃ z, z = uS := ⟨_, rfl⟩
    obtain ⟨hP1, hK1, hD1⟩ := hB
    rw [htS] at hP1
    have hK1 := va_K.moved hvm.symm hK1
    try dsimp only at h33
    obtain ⟨hP, hD⟩ := va_join (wr := [(ax, .inr (3, [.ref ak, .ref ad, .ref ab, .ref ao, .ref aw])), (ab, .inr (1, [.ref b1, .int (nI bn)])), (b1, .inl (cI, 200, .inl (fun j => nI (by9 j))))]) (w1 := [(aw, .inr (2, [.ref w1])), (w1, .inl (cI, 204, .inl (fun j => nI (g3_33 j))))]) hP hD [3, 4] [0, 1, 2] rfl rfl (by decide) (by decide) hkS hFc hP1 hD1
    generalize H1 = H at hP hS ⊢
    have hP : va_P (dC, dI) vwCl [(ax, .inr (3, [.ref ak, .ref ad, .ref ab, .ref ao, .ref aw])), (ab, .inr (1, [.ref b1, .int (nI bn)])), (b1, .inl (cI, 200, .inl (fun j => nI (by9 j)))), (aw, .inr (2, [.ref w1])), (w1, .inl (cI, 204, .inl (fun j => nI (g3_33 j))))] H := hP
    have hD : va_D A [(ax, .inr (3, [.ref ak, .ref ad, .ref ab, .ref ao, .ref aw])), (ab, .inr (1, [.ref b1, .int (nI bn)])), (b1, .inl (cI, 200, .inl (fun j => nI (by9 j)))), (aw, .inr (2, [.ref w1])), (w1, .inl (cI, 204, .inl (fun j => nI (g3_33 j))))] := hD
    refine lv_iconst (v := (nI 0)) hx hb dX3_loadBytes_36 (by decide) ?_
    refine lv_istore_n (lv' := [(2, .int (nI 0)), (1, .int (nI bn)), (0, .ref ax)]) hx hb dX3_loadBytes_37 rfl hl (by decide) rfl (fun ls hl => ?_)
    have LP38 : ∀ (n9 : Nat) (i fl : Nat) (w2 : Nat → Nat) (hm : (bn - i) < n9) (hi : i ≤ bn) (hs : (fl = 255 ∧ 128 ≤ by9 0) ∨ (fl = 0 ∧ by9 0 < 128)) (hlo : ∀ j, j < i → w2 j = by9 (bn - 1 - j)) (hhi : ∀ j, i ≤ j → j < 204 → w2 j = fl) (hw2 : ∀ j, w2 j < 256) (H : Heap) (locs : List Loc) (ls : Array Slot) (hP : va_P (dC, dI) vwCl [(ax, .inr (3, [.ref ak, .ref ad, .ref ab, .ref ao, .ref aw])), (ab, .inr (1, [.ref b1, .int (nI bn)])), (b1, .inl (cI, 200, .inl (fun j => nI (by9 j)))), (aw, .inr (2, [.ref w1])), (w1, .inl (cI, 204, .inl (fun j => nI (w2 j))))] H) (hD : va_D A [(ax, .inr (3, [.ref ak, .ref ad, .ref ab, .ref ao, .ref aw])), (ab, .inr (1, [.ref b1, .int (nI bn)])), (b1, .inl (cI, 200, .inl (fun j => nI (by9 j)))), (aw, .inr (2, [.ref w1])), (w1, .inl (cI, 204, .inl (fun j => nI (w2 j))))]) (hS : va_S A s.heap H locs) (hl : lv_has ls 3 [(0, .ref ax), (1, .int (nI bn)), (2, .int (nI i))]), W p l e (headSpec wsX3_loadBytes ({ frames := 2, cells := 0, slots := 0, locals := 42 } : Room)).room s m ([.ref ax]).toArray below meth c H locs 0 0 (MQ below (va_Qv (fun (w3 : Nat → Nat) => (∀ j, w3 j < 256) ∧ sv w3 204 = sv (fun j => by9 (bn - 1 - j)) bn) (fun (w3 : Nat → Nat) (tS : State) => va_P (dC, dI) vwCl [(ax, .inr (3, [.ref ak, .ref ad, .ref ab, .ref ao, .ref aw])), (ab, .inr (1, [.ref b1, .int (nI bn)])), (b1, .inl (cI, 200, .inl (fun j => nI (by9 j)))), (aw, .inr (2, [.ref w1])), (w1, .inl (cI, 204, .inl (fun j => nI (w3 j))))] tS.heap ∧ va_K (dC, dI) vwCl [(cI, .int)] tS ∧ va_D A [(ax, .inr (3, [.ref ak, .ref ad, .ref ab, .ref ao, .ref aw])), (ab, .inr (1, [.ref b1, .int (nI bn)])), (b1, .inl (cI, 200, .inl (fun j => nI (by9 j)))), (aw, .inr (2, [.ref w1])), (w1, .inl (cI, 204, .inl (fun j => nI (w3 j))))]) A) ([.ref ax]).toArray s 0 0 A) (F0 m 38 ls []) := by
      intro n9
      induction n9 with
      | zero => intro i fl w2 hm; exact absurd hm (Nat.not_lt_zero _)
      | succ n9 ih =>
        intro i fl w2 hm hi hs hlo hhi hw2 H locs ls hP hD hS hl
        have ih38 := ih
        refine lv_iload_n hx hb dX3_loadBytes_38 rfl (lv_at hl 2 rfl) ?_
        refine lv_iload_n hx hb dX3_loadBytes_39 rfl (lv_at hl 1 rfl) ?_
        refine lv_icmp_ge (tgt := 69) hx hb dX3_loadBytes_40 (by decide) (fun c40 => ?_) (fun c40 => ?_)
        · have hP9 := hP.sub (ws' := [(ax, .inr (3, [.ref ak, .ref ad, .ref ab, .ref ao, .ref aw])), (ab, .inr (1, [.ref b1, .int (nI bn)])), (b1, .inl (cI, 200, .inl (fun j => nI (by9 j)))), (aw, .inr (2, [.ref w1])), (w1, .inl (cI, 204, .inl (fun j => nI (w2 j))))]) [0, 1, 2, 3, 4] rfl
          have hD9 := hD.sub (ws' := [(ax, .inr (3, [.ref ak, .ref ad, .ref ab, .ref ao, .ref aw])), (ab, .inr (1, [.ref b1, .int (nI bn)])), (b1, .inl (cI, 200, .inl (fun j => nI (by9 j)))), (aw, .inr (2, [.ref w1])), (w1, .inl (cI, 204, .inl (fun j => nI (w2 j))))]) [0, 1, 2, 3, 4] (by decide) rfl
          have hK9 := hK.sub (tys' := [(cI, .int)]) [0] rfl
          exact W.vret hx hb hr (fun tS htS hW => ⟨⟨w2, rfl, (by have he : i = bn := Nat.le_antisymm hi ((nI_leI (by omega) (by omega)).mp c40); subst he; exact ⟨hw2, lb_end hbn.1 hbn.2 hs hlo hhi⟩), by rw [htS]; exact hP9, va_K.moved hW.alike hK9, hD9⟩, hS.F htS⟩) hS.2.2 dX3_loadBytes_69
        · have hlt : i < bn := Nat.lt_of_not_le (fun h => c40 (nI_le h (by omega)))
          refine lv_aload_n hx hb dX3_loadBytes_43 rfl (lv_at hl 0 rfl) ?_
          refine va_get (D := (dC, dI)) (ci := 3) (v := .ref aw) (C := RX3) (T := TX3) (N := 5) hx hb hts hinX3 hown hK hP 0 rfl rfl 4 (by decide) (hts (.fieldLink RX3 34 "NumberContents" "wide" "LNumberContents$Wide;") (by decide +kernel)) (fun _ h9 => h9) rfl dX3_loadBytes_44 ?_
          refine lv_iload_n hx hb dX3_loadBytes_47 rfl (lv_at hl 2 rfl) ?_
          refine lv_aload_n hx hb dX3_loadBytes_48 rfl (lv_at hl 0 rfl) ?_
          refine va_get (D := (dC, dI)) (ci := 3) (v := .ref ab) (C := RX3) (T := TX3) (N := 5) hx hb hts hinX3 hown hK hP 0 rfl rfl 2 (by decide) (hts (.fieldLink RX3 25 "NumberContents" "byteRow" "LNumberContents$Row;") (by decide +kernel)) (fun _ h9 => h9) rfl dX3_loadBytes_49 ?_
          refine lv_iload_n hx hb dX3_loadBytes_52 rfl (lv_at hl 1 rfl) ?_
          refine lv_iconst (v := 1) hx hb dX3_loadBytes_53 (by decide) ?_
          refine lv_isub hx hb dX3_loadBytes_54 ?_
          refine lv_topi (fun x54 e54 => ?_)
          obtain rfl : x54 = nI (bn - 1) := e54.trans (nI_m1 (by omega))
          refine lv_iload_n hx hb dX3_loadBytes_55 rfl (lv_at hl 2 rfl) ?_
          refine lv_isub hx hb dX3_loadBytes_56 ?_
          refine lv_topi (fun x56 e56 => ?_)
          obtain rfl : x56 = nI (bn - 1 - i) := e56.trans (pk_sub (by omega))
          have hPc := hP.sub (ws' := [(ab, .inr (1, [.ref b1, .int (nI bn)])), (b1, .inl (cI, 200, .inl (fun j => nI (by9 j))))]) [1, 2] rfl
          have hKc := hK.sub (tys' := [(cI, .int)]) [0] rfl
          refine vp_callSi (W.runV (As := [.int (nI (bn - 1 - i))]) (rest := [.int (nI i), .ref aw]) ⟨hx, hb, hml, hown, hts⟩ (c_X1_itemAt l dC dI cI ab b1 200 bn (fun j => nI (by9 j)) (nI (bn - 1 - i)) (by omega) (by omega)) (cwV 1 hts gX3_loadBytes_X1_itemAt rfl rfl rfl (by decide +kernel) ⟨Nat.le_of_ble_eq_true rfl, Nat.le_of_ble_eq_true rfl⟩) ⟨fun a U g mk q => by obtain ⟨q0, qP, qK⟩ := q; exact ⟨q0, qP, va_K.moved (u := U) (U := U.calling g mk a) (Vm.Alike.refl U.vm) qK⟩, va_recv hK hP (ci := 1) (q0 := 1) rfl rfl, fun U hU hW => ⟨rfl, by rw [hU]; exact hPc, va_K.moved hW.alike hKc⟩⟩ rfl rfl hl.1 rfl (lv_room (Nat.le_of_ble_eq_true rfl)) dX3_loadBytes_57 ⟨Nat.le_of_ble_eq_true rfl, Nat.le_of_ble_eq_true rfl⟩) (fun r57 h57 => ?_)
          obtain rfl : r57 = nI (by9 (bn - 1 - i)) := it_at (by omega) (by omega) h57
          have hPc := hP.sub (ws' := [(aw, .inr (2, [.ref w1])), (w1, .inl (cI, 204, .inl (fun j => nI (w2 j))))]) [3, 4] rfl
          have hKc := hK.sub (tys' := [(cI, .int)]) [0] rfl
          have hDc := hD.sub (ws' := [(aw, .inr (2, [.ref w1])), (w1, .inl (cI, 204, .inl (fun j => nI (w2 j))))]) [3, 4] (by decide) rfl
          have hFc := va_free (wc := [(aw, .inr (2, [.ref w1])), (w1, .inl (cI, 204, .inl (fun j => nI (w2 j))))]) hD hS hA [3, 4] rfl
          refine va_callv (va_runV (As := [.int (nI i), .int (nI (by9 (bn - 1 - i)))]) (rest := []) ⟨hx, hb, hml, hown, hts⟩ (c_X2_setByte l dC dI cI aw w1 w2 i (by9 (bn - 1 - i)) H.size (by omega)) (cwV 2 hts gX3_loadBytes_X2_setByte rfl rfl rfl (by decide +kernel) ⟨Nat.le_of_ble_eq_true rfl, Nat.le_of_ble_eq_true rfl⟩) ⟨fun a U g mk q => by obtain ⟨q0, q1, qP, qK, qD⟩ := q; exact ⟨q0, q1, qP, va_K.moved (u := U) (U := U.calling g mk a) (Vm.Alike.refl U.vm) qK, qD⟩, va_recv hKc hPc (ci := 2) (q0 := 0) rfl rfl, fun U hU hW => ⟨rfl, by rw [hU], by rw [hU]; exact hPc, va_K.moved hW.alike hKc, hDc.weaken (fun _ _ _ _ => trivial)⟩⟩ rfl rfl hl.1 rfl (lv_room (Nat.le_of_ble_eq_true rfl)) dX3_loadBytes_60 ⟨Nat.le_of_ble_eq_true rfl, Nat.le_of_ble_eq_true rfl⟩) hS (fun q _ h => hFc q h) hFc (fun uS tS H1 locs htS hvm h60 hB hzS hkS hS => ?_)
          obtain ⟨hP1, hK1, hD1⟩ := hB
          rw [htS] at hP1
          have hK1 := va_K.moved hvm.symm hK1
          try dsimp only at h60
          obtain ⟨hP, hD⟩ := va_join (wr := [(ax, .inr (3, [.ref ak, .ref ad, .ref ab, .ref ao, .ref aw])), (ab, .inr (1, [.ref b1, .int (nI bn)])), (b1, .inl (cI, 200, .inl (fun j => nI (by9 j))))]) (w1 := [(aw, .inr (2, [.ref w1])), (w1, .inl (cI, 204, .inl (fun j => nI (va_up w2 i (by9 (bn - 1 - i)) j))))]) hP hD [3, 4] [0, 1, 2] rfl rfl (by decide) (by decide) hkS hFc hP1 hD1
          generalize H1 = H at hP hS ⊢
          have hP : va_P (dC, dI) vwCl [(ax, .inr (3, [.ref ak, .ref ad, .ref ab, .ref ao, .ref aw])), (ab, .inr (1, [.ref b1, .int (nI bn)])), (b1, .inl (cI, 200, .inl (fun j => nI (by9 j)))), (aw, .inr (2, [.ref w1])), (w1, .inl (cI, 204, .inl (fun j => nI (va_up w2 i (by9 (bn - 1 - i)) j))))] H := hP
          have hD : va_D A [(ax, .inr (3, [.ref ak, .ref ad, .ref ab, .ref ao, .ref aw])), (ab, .inr (1, [.ref b1, .int (nI bn)])), (b1, .inl (cI, 200, .inl (fun j => nI (by9 j)))), (aw, .inr (2, [.ref w1])), (w1, .inl (cI, 204, .inl (fun j => nI (va_up w2 i (by9 (bn - 1 - i)) j))))] := hD
          obtain ⟨x63, e63⟩ : ∃ zz9 : Int32, zz9 = (nI i) + 1 := ⟨_, rfl⟩
          refine lv_iinc (v := x63) (lv' := [(2, .int x63), (0, .ref ax), (1, .int (nI bn))]) hx hb dX3_loadBytes_63 hl (k := 2) rfl (by rw [e63]; rfl) (by decide) rfl (fun ls hl => ?_)
          obtain rfl : x63 = nI (i + 1) := e63.trans (nI_1 i)
          refine lv_goto (tgt := 38) hx hb dX3_loadBytes_66 (by decide) ?_
          exact ih38 (i + 1) fl (va_up w2 i (by9 (bn - 1 - i))) (by omega) (by omega) hs (fun j h => by by_cases e : j = i; rw [e, va_up_self]; rw [va_up_ne _ _ e]; exact hlo j (by omega)) (fun j h h2 => by rw [va_up_ne _ _ (by omega)]; exact hhi j (by omega) h2) (up_lt hw2 (hby _)) _ _ _ (hP.sub [0, 1, 2, 3, 4] rfl) (hD.sub [0, 1, 2, 3, 4] (by decide) rfl) hS (lv_sub hl [1, 2, 0] rfl)
    exact LP38 _ 0 255 g3_33 (Nat.lt_succ_self _) (by omega) (Or.inl ⟨rfl, fb_ge (hby 0) c23⟩) (fun j h => absurd h (by omega)) (fun j _ h => h33.1 j h) (fill_lt h33 hw (by decide)) _ _ _ (hP.sub [0, 1, 2, 3, 4] rfl) (hD.sub [0, 1, 2, 3, 4] (by decide) rfl) hS (lv_sub hl [2, 1, 0] rfl)

