theorem ka_eq {D : va_G} {cl : List vw_C} {tys : List (ClassId × FieldType)} {U : State} {i j : Nat} {c1 c2 : ClassId} {ty : FieldType} {nm : String} (hK : va_K D cl tys U) (h1 : tys[i]? = some (c1, ty)) (h2 : tys[j]? = some (c2, ty)) (e1 : va_RA U c1 ty = (U.vm.findClass nm = some c1)) (e2 : va_RA U c2 ty = (U.vm.findClass nm = some c2)) : c1 = c2 := by
  have a := (hK.2 i _ h1).2
  have b := (hK.2 j _ h2).2
  rw [e1] at a
  rw [e2] at b
  exact Option.some.inj (a.symm.trans b)

set_option maxHeartbeats 1000000 in
set_option maxRecDepth 100000 in
theorem c_X2_init (l : Launch) (dC : Nat → ClassId) (dI : Nat → Nat → Nat) (cI : ClassId) (h0 : Nat) (sz : Nat)  : Met l yX2_init wsX2_init ({ frames := 1, cells := 1, slots := 204, locals := 13 } : Room) (va_Pc [.ref h0] (fun U => U.heap.size = sz ∧ va_P (dC, dI) vwCl [(h0, .inr (2, [.null]))] U.heap ∧ va_K (dC, dI) vwCl [(cI, .int)] U ∧ va_D (fun _ => True) [(h0, .inr (2, [.null]))])) (va_Qv (fun (_ : Unit) => True) (fun (_ : Unit) (tS : State) => ∃ (q : Nat), va_P (dC, dI) vwCl [(h0, .inr (2, [.ref q])), (q, .inl (cI, 204, .inl (fun j => nI ((fun _ => 0) j))))] tS.heap ∧ va_K (dC, dI) vwCl [(cI, .int)] tS ∧ va_D (va_A [(h0, .inr (2, [.null]))] sz) [(h0, .inr (2, [.ref q])), (q, .inl (cI, 204, .inl (fun j => nI ((fun _ => 0) j))))]) (va_A [(h0, .inr (2, [.null]))] sz)) 1 204 (va_A [(h0, .inr (2, [.null]))] sz) := by
  refine Met.ofW (cc := cX2_init) (maxL := 1) (ret := none) (by decide) rfl ?_
  intro p e s m args below meth c s₁ B hml hv
  obtain ⟨rfl, hsz, hP, hK, hD0⟩ := hv
  have hx := B.exec
  have hb := B.bytes
  have hr := B.returns
  have hts := atoms_spec (ws := wsX2_init) B.pre
  have hown : s.vm.findClass RX2 = some m.cls := findClass_of_methodNamed B.named
  have hlocks := B.notSynchronized
  have hin : meth.name = "<init>" := (name_of_methodNamed B.named B.method).1
  subst hsz
  have hD := hD0.self (sz := s.heap.size)
  generalize hAe : va_A [(h0, .inr (2, [.null]))] s.heap.size = A at hD ⊢
  have hA : ∀ q : Nat, s.heap.size ≤ q → A q := fun q h => by rw [← hAe]; exact Or.inr h
  have hS : va_S A s.heap s.heap [] := va_S.rf
  have hinX2 : ∀ w ∈ wsX20, w ∈ wsX2_init := by decide +kernel
  have hl := lv_entry ([.ref h0]) (n := 1) (Nat.le_of_ble_eq_true rfl)
  rw [lg_entry_eq]
  generalize (lg_sl ([.ref h0]) ++ List.replicate (1 - (lg_sl ([.ref h0])).length) Slot.unset).toArray = ls at hl ⊢
  have hl : lv_has ls 1 [(0, .ref h0)] := hl
  refine lv_aload_n hx hb dX2_init_0 rfl (lv_at hl 0 rfl) ?_
  refine W.objInit hx hb hown (hts (.methodLink RX2 3 objectInit) (by decide +kernel)) (hts (.instanceMethod objectInit) (by decide +kernel)) (hts (.code objectInit ⟨#[0xb1]⟩ 1 none) (by decide +kernel)) rfl (by rw [hml]; exact hl.1) rfl dX2_init_1 (Nat.le_of_ble_eq_true rfl) (Nat.le_of_ble_eq_true rfl) ?_
  refine W.eq (g2 := F0 m 4 ls []) rfl ?_
  refine lv_aload_n hx hb dX2_init_4 rfl (lv_at hl 0 rfl) ?_
  refine lv_sipush (v := (nI 204)) hx hb dX2_init_5 (by decide) ?_
  refine va_newa (atype := .int) (ty := .int) (n := (nI 204)) (a0 := (204, .inl (fun _ => 0))) (N' := 204) hx hb (hts (.arrayClass .int) (by decide +kernel)) rfl hK hP hD hS hA (fun _ => rfl) (nI_pos (by omega)) (nI_clamp (by omega)) (by show _ * 4 ≤ _; omega) (by show _ ≤ 1; omega) (by show _ ≤ 204; omega) dX2_init_8 (fun q8 cA8 H hK hP hD hS => ?_)
  have hK : va_K (dC, dI) vwCl [(cI, .int), (cA8, .int)] s := hK
  obtain rfl : cI = cA8 := ka_eq (ty := .int) hK (i := 0) (j := 1) rfl rfl rfl rfl
  have hK : va_K (dC, dI) vwCl [(cI, .int)] s := hK.sub [0] rfl
  have hP : va_P (dC, dI) vwCl [(h0, .inr (2, [.null])), (q8, .inl (cI, 204, .inl (fun j => nI ((fun _ => 0) j))))] H := hP
  have hD : va_D A [(h0, .inr (2, [.null])), (q8, .inl (cI, 204, .inl (fun j => nI ((fun _ => 0) j))))] := hD
  refine W.widen (k := 1) (n := 204) (by omega) (by omega) ?_
  refine va_putF (D := (dC, dI)) (ci := 2) (v := .ref q8) (ty := .array .int) (C := RX2) (T := TX2) (N := 1) hx hb hts hinX2 tyX2 tyX2_ok nmX2 hown hK hP hD hS 0 rfl rfl 0 (by decide) (hts (.fieldLink RX2 9 "NumberContents$Wide" "items" "[I") (by decide +kernel)) (fun _ h9 => h9) rfl hin rfl (by decide +kernel) rfl rfl (Nat.le_of_ble_eq_true rfl) dX2_init_10 (fun H locs hP hD hS => ?_)
  have hP : va_P (dC, dI) vwCl [(h0, .inr (2, [.ref q8])), (q8, .inl (cI, 204, .inl (fun j => nI ((fun _ => 0) j))))] H := hP
  have hD : va_D A [(h0, .inr (2, [.ref q8])), (q8, .inl (cI, 204, .inl (fun j => nI ((fun _ => 0) j))))] := hD
  have hP9 := hP.sub (ws' := [(h0, .inr (2, [.ref q8])), (q8, .inl (cI, 204, .inl (fun j => nI ((fun _ => 0) j))))]) [0, 1] rfl
  have hD9 := hD.sub (ws' := [(h0, .inr (2, [.ref q8])), (q8, .inl (cI, 204, .inl (fun j => nI ((fun _ => 0) j))))]) [0, 1] (by decide) rfl
  have hK9 := hK.sub (tys' := [(cI, .int)]) [0] rfl
  exact W.vret hx hb hr (fun tS htS hW => ⟨⟨(), rfl, trivial, q8, by rw [htS]; exact hP9, va_K.moved hW.alike hK9, hD9⟩, hS.F htS⟩) hS.2.2 dX2_init_13

set_option maxHeartbeats 1000000 in
set_option maxRecDepth 100000 in
theorem c_X1_init (l : Launch) (dC : Nat → ClassId) (dI : Nat → Nat → Nat) (cI : ClassId) (h0 K : Nat) (sz : Nat) (hK9 : K ≤ 1000) : Met l yX1_init wsX1_init ({ frames := 1, cells := 1, slots := K, locals := 16 } : Room) (va_Pc [.ref h0, .int (nI K)] (fun U => U.heap.size = sz ∧ va_P (dC, dI) vwCl [(h0, .inr (1, [.null, .int 0]))] U.heap ∧ va_K (dC, dI) vwCl [(cI, .int)] U ∧ va_D (fun _ => True) [(h0, .inr (1, [.null, .int 0]))])) (va_Qv (fun (_ : Unit) => True) (fun (_ : Unit) (tS : State) => ∃ (q : Nat), va_P (dC, dI) vwCl [(h0, .inr (1, [.ref q, .int (nI 0)])), (q, .inl (cI, K, .inl (fun j => nI ((fun _ => 0) j))))] tS.heap ∧ va_K (dC, dI) vwCl [(cI, .int)] tS ∧ va_D (va_A [(h0, .inr (1, [.null, .int 0]))] sz) [(h0, .inr (1, [.ref q, .int (nI 0)])), (q, .inl (cI, K, .inl (fun j => nI ((fun _ => 0) j))))]) (va_A [(h0, .inr (1, [.null, .int 0]))] sz)) 1 K (va_A [(h0, .inr (1, [.null, .int 0]))] sz) := by
  refine Met.ofW (cc := cX1_init) (maxL := 2) (ret := none) (by decide) rfl ?_
  intro p e s m args below meth c s₁ B hml hv
  obtain ⟨rfl, hsz, hP, hK, hD0⟩ := hv
  have hx := B.exec
  have hb := B.bytes
  have hr := B.returns
  have hts := atoms_spec (ws := wsX1_init) B.pre
  have hown : s.vm.findClass RX1 = some m.cls := findClass_of_methodNamed B.named
  have hlocks := B.notSynchronized
  have hin : meth.name = "<init>" := (name_of_methodNamed B.named B.method).1
  subst hsz
  have hD := hD0.self (sz := s.heap.size)
  generalize hAe : va_A [(h0, .inr (1, [.null, .int 0]))] s.heap.size = A at hD ⊢
  have hA : ∀ q : Nat, s.heap.size ≤ q → A q := fun q h => by rw [← hAe]; exact Or.inr h
  have hS : va_S A s.heap s.heap [] := va_S.rf
  have hinX1 : ∀ w ∈ wsX10, w ∈ wsX1_init := by decide +kernel
  have hl := lv_entry ([.ref h0, .int (nI K)]) (n := 2) (Nat.le_of_ble_eq_true rfl)
  rw [lg_entry_eq]
  generalize (lg_sl ([.ref h0, .int (nI K)]) ++ List.replicate (2 - (lg_sl ([.ref h0, .int (nI K)])).length) Slot.unset).toArray = ls at hl ⊢
  have hl : lv_has ls 2 [(0, .ref h0), (1, .int (nI K))] := hl
  refine lv_aload_n hx hb dX1_init_0 rfl (lv_at hl 0 rfl) ?_
  refine W.objInit hx hb hown (hts (.methodLink RX1 1 objectInit) (by decide +kernel)) (hts (.instanceMethod objectInit) (by decide +kernel)) (hts (.code objectInit ⟨#[0xb1]⟩ 1 none) (by decide +kernel)) rfl (by rw [hml]; exact hl.1) rfl dX1_init_1 (Nat.le_of_ble_eq_true rfl) (Nat.le_of_ble_eq_true rfl) ?_
  refine W.eq (g2 := F0 m 4 ls []) rfl ?_
  refine lv_aload_n hx hb dX1_init_4 rfl (lv_at hl 0 rfl) ?_
  refine lv_iload_n hx hb dX1_init_5 rfl (lv_at hl 1 rfl) ?_
  refine lv_iconst (v := (nI 0)) hx hb dX1_init_6 (by decide) ?_
  refine va_mmax hx hb (hml.trans hl.1.symm) hown (hts (.methodLink RX1 7 Lib.Math.max.name) (by decide +kernel)) (hts (.static Lib.Math.max.name) (by decide +kernel)) (hts (.initialized "java/lang/Math") (by decide +kernel)) (hts (.code Lib.Math.max.name Lib.Math.max.code 2 (some .int)) (by decide +kernel)) (Nat.le_of_ble_eq_true rfl) (Nat.le_of_ble_eq_true rfl) (Nat.le_of_ble_eq_true rfl) (Nat.le_of_ble_eq_true rfl) dX1_init_7 ?_
  refine lv_topi (fun x7 e7 => ?_)
  obtain rfl : x7 = nI K := e7.trans (if_neg (nI_pos (by omega)))
  refine va_newa (atype := .int) (ty := .int) (n := (nI K)) (a0 := (K, .inl (fun _ => 0))) (N' := K) hx hb (hts (.arrayClass .int) (by decide +kernel)) rfl hK hP hD hS hA (fun _ => rfl) (nI_pos (by omega)) (nI_clamp (by omega)) (by show _ * 4 ≤ _; omega) (by show _ ≤ 1; omega) (by show _ ≤ K; omega) dX1_init_10 (fun q10 cA10 H hK hP hD hS => ?_)
  have hK : va_K (dC, dI) vwCl [(cI, .int), (cA10, .int)] s := hK
  obtain rfl : cI = cA10 := ka_eq (ty := .int) hK (i := 0) (j := 1) rfl rfl rfl rfl
  have hK : va_K (dC, dI) vwCl [(cI, .int)] s := hK.sub [0] rfl
  have hP : va_P (dC, dI) vwCl [(h0, .inr (1, [.null, .int 0])), (q10, .inl (cI, K, .inl (fun j => nI ((fun _ => 0) j))))] H := hP
  have hD : va_D A [(h0, .inr (1, [.null, .int 0])), (q10, .inl (cI, K, .inl (fun j => nI ((fun _ => 0) j))))] := hD
  refine W.widen (k := 1) (n := K) (by omega) (by omega) ?_
  refine va_putF (D := (dC, dI)) (ci := 1) (v := .ref q10) (ty := .array .int) (C := RX1) (T := TX1) (N := 2) hx hb hts hinX1 tyX1 tyX1_ok nmX1 hown hK hP hD hS 0 rfl rfl 0 (by decide) (hts (.fieldLink RX1 13 "NumberContents$Row" "items" "[I") (by decide +kernel)) (fun _ h9 => h9) rfl hin rfl (by decide +kernel) rfl rfl (Nat.le_of_ble_eq_true rfl) dX1_init_12 (fun H locs hP hD hS => ?_)
  have hP : va_P (dC, dI) vwCl [(h0, .inr (1, [.ref q10, .int 0])), (q10, .inl (cI, K, .inl (fun j => nI ((fun _ => 0) j))))] H := hP
  have hD : va_D A [(h0, .inr (1, [.ref q10, .int 0])), (q10, .inl (cI, K, .inl (fun j => nI ((fun _ => 0) j))))] := hD
  refine lv_aload_n hx hb dX1_init_15 rfl (lv_at hl 0 rfl) ?_
  refine lv_iconst (v := (nI 0)) hx hb dX1_init_16 (by decide) ?_
  refine va_put (D := (dC, dI)) (ci := 1) (v := .int (nI 0)) (ty := .int) (C := RX1) (T := TX1) (N := 2) hx hb hts hinX1 tyX1 tyX1_ok nmX1 hown hK hP hD hS 0 rfl rfl 1 (by decide) (hts (.fieldLink RX1 19 "NumberContents$Row" "used" "I") (by decide +kernel)) (fun _ h9 => h9) rfl (by decide +kernel) rfl rfl (Nat.le_of_ble_eq_true rfl) dX1_init_17 (fun H locs hP hD hS => ?_)
  have hP : va_P (dC, dI) vwCl [(h0, .inr (1, [.ref q10, .int (nI 0)])), (q10, .inl (cI, K, .inl (fun j => nI ((fun _ => 0) j))))] H := hP
  have hD : va_D A [(h0, .inr (1, [.ref q10, .int (nI 0)])), (q10, .inl (cI, K, .inl (fun j => nI ((fun _ => 0) j))))] := hD
  have hP9 := hP.sub (ws' := [(h0, .inr (1, [.ref q10, .int (nI 0)])), (q10, .inl (cI, K, .inl (fun j => nI ((fun _ => 0) j))))]) [0, 1] rfl
  have hD9 := hD.sub (ws' := [(h0, .inr (1, [.ref q10, .int (nI 0)])), (q10, .inl (cI, K, .inl (fun j => nI ((fun _ => 0) j))))]) [0, 1] (by decide) rfl
  have hK9 := hK.sub (tys' := [(cI, .int)]) [0] rfl
  exact W.vret hx hb hr (fun tS htS hW => ⟨⟨(), rfl, trivial, q10, by rw [htS]; exact hP9, va_K.moved hW.alike hK9, hD9⟩, hS.F htS⟩) hS.2.2 dX1_init_20

set_option maxHeartbeats 1000000 in
set_option maxRecDepth 100000 in
theorem c_X0_init (l : Launch) (dC : Nat → ClassId) (dI : Nat → Nat → Nat) (cI : ClassId) (h0 : Nat) (sz : Nat)  : Met l yX0_init wsX0_init ({ frames := 1, cells := 2, slots := 8040, locals := 13 } : Room) (va_Pc [.ref h0] (fun U => U.heap.size = sz ∧ va_P (dC, dI) vwCl [(h0, .inr (0, [.null, .null, .int 0]))] U.heap ∧ va_K (dC, dI) vwCl [(cI, .int)] U ∧ va_D (fun _ => True) [(h0, .inr (0, [.null, .null, .int 0]))])) (va_Qv (fun (_ : Unit) => True) (fun (_ : Unit) (tS : State) => ∃ (q qq : Nat), va_P (dC, dI) vwCl [(h0, .inr (0, [.ref q, .ref qq, .int (nI 0)])), (q, .inl (cI, 8000, .inl (fun j => nI ((fun _ => 0) j)))), (qq, .inl (cI, 40, .inl (fun j => nI ((fun _ => 0) j))))] tS.heap ∧ va_K (dC, dI) vwCl [(cI, .int)] tS ∧ va_D (va_A [(h0, .inr (0, [.null, .null, .int 0]))] sz) [(h0, .inr (0, [.ref q, .ref qq, .int (nI 0)])), (q, .inl (cI, 8000, .inl (fun j => nI ((fun _ => 0) j)))), (qq, .inl (cI, 40, .inl (fun j => nI ((fun _ => 0) j))))]) (va_A [(h0, .inr (0, [.null, .null, .int 0]))] sz)) 2 8040 (va_A [(h0, .inr (0, [.null, .null, .int 0]))] sz) := by
  refine Met.ofW (cc := cX0_init) (maxL := 1) (ret := none) (by decide) rfl ?_
  intro p e s m args below meth c s₁ B hml hv
  obtain ⟨rfl, hsz, hP, hK, hD0⟩ := hv
  have hx := B.exec
  have hb := B.bytes
  have hr := B.returns
  have hts := atoms_spec (ws := wsX0_init) B.pre
  have hown : s.vm.findClass RX0 = some m.cls := findClass_of_methodNamed B.named
  have hlocks := B.notSynchronized
  have hin : meth.name = "<init>" := (name_of_methodNamed B.named B.method).1
  subst hsz
  have hD := hD0.self (sz := s.heap.size)
  generalize hAe : va_A [(h0, .inr (0, [.null, .null, .int 0]))] s.heap.size = A at hD ⊢
  have hA : ∀ q : Nat, s.heap.size ≤ q → A q := fun q h => by rw [← hAe]; exact Or.inr h
  have hS : va_S A s.heap s.heap [] := va_S.rf
  have hinX0 : ∀ w ∈ wsX00, w ∈ wsX0_init := by decide +kernel
  have hl := lv_entry ([.ref h0]) (n := 1) (Nat.le_of_ble_eq_true rfl)
  rw [lg_entry_eq]
  generalize (lg_sl ([.ref h0]) ++ List.replicate (1 - (lg_sl ([.ref h0])).length) Slot.unset).toArray = ls at hl ⊢
  have hl : lv_has ls 1 [(0, .ref h0)] := hl
  refine lv_aload_n hx hb dX0_init_0 rfl (lv_at hl 0 rfl) ?_
  refine W.objInit hx hb hown (hts (.methodLink RX0 3 objectInit) (by decide +kernel)) (hts (.instanceMethod objectInit) (by decide +kernel)) (hts (.code objectInit ⟨#[0xb1]⟩ 1 none) (by decide +kernel)) rfl (by rw [hml]; exact hl.1) rfl dX0_init_1 (Nat.le_of_ble_eq_true rfl) (Nat.le_of_ble_eq_true rfl) ?_
  refine W.eq (g2 := F0 m 4 ls []) rfl ?_
  refine lv_aload_n hx hb dX0_init_4 rfl (lv_at hl 0 rfl) ?_
  refine lv_sipush (v := (nI 8000)) hx hb dX0_init_5 (by decide) ?_
  refine va_newa (atype := .int) (ty := .int) (n := (nI 8000)) (a0 := (8000, .inl (fun _ => 0))) (N' := 8000) hx hb (hts (.arrayClass .int) (by decide +kernel)) rfl hK hP hD hS hA (fun _ => rfl) (nI_pos (by omega)) (nI_clamp (by omega)) (by show _ * 4 ≤ _; omega) (by show _ ≤ 2; omega) (by show _ ≤ 8040; omega) dX0_init_8 (fun q8 cA8 H hK hP hD hS => ?_)
  have hK : va_K (dC, dI) vwCl [(cI, .int), (cA8, .int)] s := hK
  obtain rfl : cI = cA8 := ka_eq (ty := .int) hK (i := 0) (j := 1) rfl rfl rfl rfl
  have hK : va_K (dC, dI) vwCl [(cI, .int)] s := hK.sub [0] rfl
  have hP : va_P (dC, dI) vwCl [(h0, .inr (0, [.null, .null, .int 0])), (q8, .inl (cI, 8000, .inl (fun j => nI ((fun _ => 0) j))))] H := hP
  have hD : va_D A [(h0, .inr (0, [.null, .null, .int 0])), (q8, .inl (cI, 8000, .inl (fun j => nI ((fun _ => 0) j))))] := hD
  refine W.widen (k := 1) (n := 8000) (by omega) (by omega) ?_
  refine va_putF (D := (dC, dI)) (ci := 0) (v := .ref q8) (ty := .array .int) (C := RX0) (T := TX0) (N := 3) hx hb hts hinX0 tyX0 tyX0_ok nmX0 hown hK hP hD hS 0 rfl rfl 0 (by decide) (hts (.fieldLink RX0 9 "NumberContents$Numbers" "items" "[I") (by decide +kernel)) (fun _ h9 => h9) rfl hin rfl (by decide +kernel) rfl rfl (Nat.le_of_ble_eq_true rfl) dX0_init_10 (fun H locs hP hD hS => ?_)
  have hP : va_P (dC, dI) vwCl [(h0, .inr (0, [.ref q8, .null, .int 0])), (q8, .inl (cI, 8000, .inl (fun j => nI ((fun _ => 0) j))))] H := hP
  have hD : va_D A [(h0, .inr (0, [.ref q8, .null, .int 0])), (q8, .inl (cI, 8000, .inl (fun j => nI ((fun _ => 0) j))))] := hD
  refine lv_aload_n hx hb dX0_init_13 rfl (lv_at hl 0 rfl) ?_
  refine lv_bipush (v := (nI 40)) hx hb dX0_init_14 (by decide) ?_
  refine va_newa (atype := .int) (ty := .int) (n := (nI 40)) (a0 := (40, .inl (fun _ => 0))) (N' := 40) hx hb (hts (.arrayClass .int) (by decide +kernel)) rfl hK hP hD hS hA (fun _ => rfl) (nI_pos (by omega)) (nI_clamp (by omega)) (by show _ * 4 ≤ _; omega) (by show _ ≤ 2; omega) (by show _ ≤ 8040; omega) dX0_init_16 (fun q16 cA16 H hK hP hD hS => ?_)
  have hK : va_K (dC, dI) vwCl [(cI, .int), (cA16, .int)] s := hK
  obtain rfl : cI = cA16 := ka_eq (ty := .int) hK (i := 0) (j := 1) rfl rfl rfl rfl
  have hK : va_K (dC, dI) vwCl [(cI, .int)] s := hK.sub [0] rfl
  have hP : va_P (dC, dI) vwCl [(h0, .inr (0, [.ref q8, .null, .int 0])), (q8, .inl (cI, 8000, .inl (fun j => nI ((fun _ => 0) j)))), (q16, .inl (cI, 40, .inl (fun j => nI ((fun _ => 0) j))))] H := hP
  have hD : va_D A [(h0, .inr (0, [.ref q8, .null, .int 0])), (q8, .inl (cI, 8000, .inl (fun j => nI ((fun _ => 0) j)))), (q16, .inl (cI, 40, .inl (fun j => nI ((fun _ => 0) j))))] := hD
  refine W.widen (k := 2) (n := 8040) (by omega) (by omega) ?_
  refine va_putF (D := (dC, dI)) (ci := 0) (v := .ref q16) (ty := .array .int) (C := RX0) (T := TX0) (N := 3) hx hb hts hinX0 tyX0 tyX0_ok nmX0 hown hK hP hD hS 0 rfl rfl 1 (by decide) (hts (.fieldLink RX0 15 "NumberContents$Numbers" "sizes" "[I") (by decide +kernel)) (fun _ h9 => h9) rfl hin rfl (by decide +kernel) rfl rfl (Nat.le_of_ble_eq_true rfl) dX0_init_18 (fun H locs hP hD hS => ?_)
  have hP : va_P (dC, dI) vwCl [(h0, .inr (0, [.ref q8, .ref q16, .int 0])), (q8, .inl (cI, 8000, .inl (fun j => nI ((fun _ => 0) j)))), (q16, .inl (cI, 40, .inl (fun j => nI ((fun _ => 0) j))))] H := hP
  have hD : va_D A [(h0, .inr (0, [.ref q8, .ref q16, .int 0])), (q8, .inl (cI, 8000, .inl (fun j => nI ((fun _ => 0) j)))), (q16, .inl (cI, 40, .inl (fun j => nI ((fun _ => 0) j))))] := hD
  refine lv_aload_n hx hb dX0_init_21 rfl (lv_at hl 0 rfl) ?_
  refine lv_iconst (v := (nI 0)) hx hb dX0_init_22 (by decide) ?_
  refine va_put (D := (dC, dI)) (ci := 0) (v := .int (nI 0)) (ty := .int) (C := RX0) (T := TX0) (N := 3) hx hb hts hinX0 tyX0 tyX0_ok nmX0 hown hK hP hD hS 0 rfl rfl 2 (by decide) (hts (.fieldLink RX0 18 "NumberContents$Numbers" "used" "I") (by decide +kernel)) (fun _ h9 => h9) rfl (by decide +kernel) rfl rfl (Nat.le_of_ble_eq_true rfl) dX0_init_23 (fun H locs hP hD hS => ?_)
  have hP : va_P (dC, dI) vwCl [(h0, .inr (0, [.ref q8, .ref q16, .int (nI 0)])), (q8, .inl (cI, 8000, .inl (fun j => nI ((fun _ => 0) j)))), (q16, .inl (cI, 40, .inl (fun j => nI ((fun _ => 0) j))))] H := hP
  have hD : va_D A [(h0, .inr (0, [.ref q8, .ref q16, .int (nI 0)])), (q8, .inl (cI, 8000, .inl (fun j => nI ((fun _ => 0) j)))), (q16, .inl (cI, 40, .inl (fun j => nI ((fun _ => 0) j))))] := hD
  have hP9 := hP.sub (ws' := [(h0, .inr (0, [.ref q8, .ref q16, .int (nI 0)])), (q8, .inl (cI, 8000, .inl (fun j => nI ((fun _ => 0) j)))), (q16, .inl (cI, 40, .inl (fun j => nI ((fun _ => 0) j))))]) [0, 1, 2] rfl
  have hD9 := hD.sub (ws' := [(h0, .inr (0, [.ref q8, .ref q16, .int (nI 0)])), (q8, .inl (cI, 8000, .inl (fun j => nI ((fun _ => 0) j)))), (q16, .inl (cI, 40, .inl (fun j => nI ((fun _ => 0) j))))]) [0, 1, 2] (by decide) rfl
  have hK9 := hK.sub (tys' := [(cI, .int)]) [0] rfl
  exact W.vret hx hb hr (fun tS htS hW => ⟨⟨(), rfl, trivial, q8, q16, by rw [htS]; exact hP9, va_K.moved hW.alike hK9, hD9⟩, hS.F htS⟩) hS.2.2 dX0_init_26

set_option maxHeartbeats 1000000 in
set_option maxRecDepth 100000 in
theorem c_X3_init (l : Launch) (dC : Nat → ClassId) (dI : Nat → Nat → Nat) (cI : ClassId) (ax : Nat) (sz : Nat)  : Met l yX3_init wsX3_init ({ frames := 2, cells := 11, slots := 9421, locals := 38 } : Room) (va_Pc [.ref ax] (fun U => U.heap.size = sz ∧ va_P (dC, dI) vwCl [(ax, .inr (3, [.null, .null, .null, .null, .null]))] U.heap ∧ va_K (dC, dI) vwCl [(cI, .int)] U ∧ va_D (fun _ => True) [(ax, .inr (3, [.null, .null, .null, .null, .null]))])) (va_Qv (fun (_ : Unit) => True) (fun (_ : Unit) (tS : State) => ∃ (ak ad ab ao aw k1 k2 d1 b1 o1 w1 : Nat), va_P (dC, dI) vwCl [(ax, .inr (3, [.ref ak, .ref ad, .ref ab, .ref ao, .ref aw])), (ak, .inr (0, [.ref k1, .ref k2, .int (nI 0)])), (k1, .inl (cI, 8000, .inl (fun j => nI ((fun _ => 0) j)))), (k2, .inl (cI, 40, .inl (fun j => nI ((fun _ => 0) j)))), (ad, .inr (1, [.ref d1, .int (nI 0)])), (d1, .inl (cI, 480, .inl (fun j => nI ((fun _ => 0) j)))), (ab, .inr (1, [.ref b1, .int (nI 0)])), (b1, .inl (cI, 200, .inl (fun j => nI ((fun _ => 0) j)))), (ao, .inr (1, [.ref o1, .int (nI 0)])), (o1, .inl (cI, 487, .inl (fun j => nI ((fun _ => 0) j)))), (aw, .inr (2, [.ref w1])), (w1, .inl (cI, 204, .inl (fun j => nI ((fun _ => 0) j))))] tS.heap ∧ va_K (dC, dI) vwCl [(cI, .int)] tS ∧ va_D (va_A [(ax, .inr (3, [.null, .null, .null, .null, .null]))] sz) [(ax, .inr (3, [.ref ak, .ref ad, .ref ab, .ref ao, .ref aw])), (ak, .inr (0, [.ref k1, .ref k2, .int (nI 0)])), (k1, .inl (cI, 8000, .inl (fun j => nI ((fun _ => 0) j)))), (k2, .inl (cI, 40, .inl (fun j => nI ((fun _ => 0) j)))), (ad, .inr (1, [.ref d1, .int (nI 0)])), (d1, .inl (cI, 480, .inl (fun j => nI ((fun _ => 0) j)))), (ab, .inr (1, [.ref b1, .int (nI 0)])), (b1, .inl (cI, 200, .inl (fun j => nI ((fun _ => 0) j)))), (ao, .inr (1, [.ref o1, .int (nI 0)])), (o1, .inl (cI, 487, .inl (fun j => nI ((fun _ => 0) j)))), (aw, .inr (2, [.ref w1])), (w1, .inl (cI, 204, .inl (fun j => nI ((fun _ => 0) j))))]) (va_A [(ax, .inr (3, [.null, .null, .null, .null, .null]))] sz)) 11 9421 (va_A [(ax, .inr (3, [.null, .null, .null, .null, .null]))] sz) := by
  refine Met.ofW (cc := cX3_init) (maxL := 1) (ret := none) (by decide) rfl ?_
  intro p e s m args below meth c s₁ B hml hv
  obtain ⟨rfl, hsz, hP, hK, hD0⟩ := hv
  have hx := B.exec
  have hb := B.bytes
  have hr := B.returns
  have hts := atoms_spec (ws := wsX3_init) B.pre
  have hown : s.vm.findClass RX3 = some m.cls := findClass_of_methodNamed B.named
  have hlocks := B.notSynchronized
  have hin : meth.name = "<init>" := (name_of_methodNamed B.named B.method).1
  subst hsz
  have hD := hD0.self (sz := s.heap.size)
  generalize hAe : va_A [(ax, .inr (3, [.null, .null, .null, .null, .null]))] s.heap.size = A at hD ⊢
  have hA : ∀ q : Nat, s.heap.size ≤ q → A q := fun q h => by rw [← hAe]; exact Or.inr h
  have hS : va_S A s.heap s.heap [] := va_S.rf
  have hinX0 : ∀ w ∈ wsX00, w ∈ wsX3_init := by decide +kernel
  have hinX1 : ∀ w ∈ wsX10, w ∈ wsX3_init := by decide +kernel
  have hinX2 : ∀ w ∈ wsX20, w ∈ wsX3_init := by decide +kernel
  have hinX3 : ∀ w ∈ wsX30, w ∈ wsX3_init := by decide +kernel
  have hl := lv_entry ([.ref ax]) (n := 1) (Nat.le_of_ble_eq_true rfl)
  rw [lg_entry_eq]
  generalize (lg_sl ([.ref ax]) ++ List.replicate (1 - (lg_sl ([.ref ax])).length) Slot.unset).toArray = ls at hl ⊢
  have hl : lv_has ls 1 [(0, .ref ax)] := hl
  refine lv_aload_n hx hb dX3_init_0 rfl (lv_at hl 0 rfl) ?_
  refine W.objInit hx hb hown (hts (.methodLink RX3 3 objectInit) (by decide +kernel)) (hts (.instanceMethod objectInit) (by decide +kernel)) (hts (.code objectInit ⟨#[0xb1]⟩ 1 none) (by decide +kernel)) rfl (by rw [hml]; exact hl.1) rfl dX3_init_1 (Nat.le_of_ble_eq_true rfl) (Nat.le_of_ble_eq_true rfl) ?_
  refine W.eq (g2 := F0 m 4 ls []) rfl ?_
  refine lv_aload_n hx hb dX3_init_4 rfl (lv_at hl 0 rfl) ?_
  refine va_new (ci := 0) (fs := [.null, .null, .int 0]) (C := RX0) (T := TX0) (N := 3) hx hb hts hinX0 tyX0 tyX0_ok hown (hts (.classLink RX3 9 RX0) (by decide +kernel)) (hts (.instantiable RX0 3) (by decide +kernel)) (hts (.initialized RX0) (by decide +kernel)) hK hP hD hS hA rfl (fun j hj => by rcases (show j = 0 ∨ j = 1 ∨ j = 2 by omega) with rfl | rfl | rfl <;> rfl) (by show _ ≤ 11; omega) (by show _ ≤ 9421; omega) dX3_init_5 (fun q5 H hP hD hS => ?_)
  have hP : va_P (dC, dI) vwCl [(ax, .inr (3, [.null, .null, .null, .null, .null])), (q5, .inr (0, [.null, .null, .int 0]))] H := hP
  have hD : va_D A [(ax, .inr (3, [.null, .null, .null, .null, .null])), (q5, .inr (0, [.null, .null, .int 0]))] := hD
  refine W.widen (k := 1) (n := 3) (by omega) (by omega) ?_
  refine lv_dup hx hb dX3_init_8 rfl ?_
  have hPc := hP.sub (ws' := [(q5, .inr (0, [.null, .null, .int 0]))]) [1] rfl
  have hKc := hK.sub (tys' := [(cI, .int)]) [0] rfl
  have hDc := hD.sub (ws' := [(q5, .inr (0, [.null, .null, .int 0]))]) [1] (by decide) rfl
  have hFc := va_free (wc := [(q5, .inr (0, [.null, .null, .int 0]))]) hD hS hA [1] rfl
  refine va_callv (va_runI (As := []) (rest := [.ref q5, .ref ax]) ⟨hx, hb, hml, hown, hts⟩ (c_X0_init l dC dI cI q5 H.size ) (cwI 0 hts gX3_init_X0_init rfl rfl rfl (hts (.initialized RX0) (by decide +kernel)) (hts (.methodLink RX3 11 yX0_init) (by decide +kernel)) (hts (.instanceMethod yX0_init) (by decide +kernel)) rfl (by decide +kernel) ⟨Nat.le_of_ble_eq_true rfl, Nat.le_of_ble_eq_true rfl⟩) ⟨fun a U g mk q => by obtain ⟨q0, q1, qP, qK, qD⟩ := q; exact ⟨q0, q1, qP, va_K.moved (u := U) (U := U.calling g mk a) (Vm.Alike.refl U.vm) qK, qD⟩, fun U hU hW => ⟨rfl, by rw [hU], by rw [hU]; exact hPc, va_K.moved hW.alike hKc, hDc.weaken (fun _ _ _ _ => trivial)⟩⟩ rfl rfl hl.1 rfl (lv_room (Nat.le_of_ble_eq_true rfl)) dX3_init_9 ⟨by show _ ≤ 11; omega, by show _ ≤ 9421; omega⟩) hS (fun q _ h => hFc q h) hFc (fun uS tS H1 locs htS hvm h9 hB hzS hkS hS => ?_)
  obtain ⟨q_9, qq_9, hP1, hK1, hD1⟩ := hB
  rw [htS] at hP1
  have hK1 := va_K.moved hvm.symm hK1
  try dsimp only at h9
  obtain ⟨hP, hD⟩ := va_join (wr := [(ax, .inr (3, [.null, .null, .null, .null, .null]))]) (w1 := [(q5, .inr (0, [.ref q_9, .ref qq_9, .int (nI 0)])), (q_9, .inl (cI, 8000, .inl (fun j => nI ((fun _ => 0) j)))), (qq_9, .inl (cI, 40, .inl (fun j => nI ((fun _ => 0) j))))]) hP hD [1] [0] rfl rfl (by decide) (by decide) hkS hFc hP1 hD1
  generalize H1 = H at hP hS ⊢
  have hP : va_P (dC, dI) vwCl [(ax, .inr (3, [.null, .null, .null, .null, .null])), (q5, .inr (0, [.ref q_9, .ref qq_9, .int (nI 0)])), (q_9, .inl (cI, 8000, .inl (fun j => nI ((fun _ => 0) j)))), (qq_9, .inl (cI, 40, .inl (fun j => nI ((fun _ => 0) j))))] H := hP
  have hD : va_D A [(ax, .inr (3, [.null, .null, .null, .null, .null])), (q5, .inr (0, [.ref q_9, .ref qq_9, .int (nI 0)])), (q_9, .inl (cI, 8000, .inl (fun j => nI ((fun _ => 0) j)))), (qq_9, .inl (cI, 40, .inl (fun j => nI ((fun _ => 0) j))))] := hD
  refine W.widen (k := 3) (n := 8043) (by omega) (by omega) ?_
  refine va_putF (D := (dC, dI)) (ci := 3) (v := .ref q5) (ty := .object "NumberContents$Numbers") (C := RX3) (T := TX3) (N := 5) hx hb hts hinX3 tyX3 tyX3_ok nmX3 hown hK hP hD hS 0 rfl rfl 0 (by decide) (hts (.fieldLink RX3 12 "NumberContents" "kept" "LNumberContents$Numbers;") (by decide +kernel)) (fun _ h9 => h9) rfl hin rfl (by decide +kernel) rfl rfl (Nat.le_of_ble_eq_true rfl) dX3_init_12 (fun H locs hP hD hS => ?_)
  have hP : va_P (dC, dI) vwCl [(ax, .inr (3, [.ref q5, .null, .null, .null, .null])), (q5, .inr (0, [.ref q_9, .ref qq_9, .int (nI 0)])), (q_9, .inl (cI, 8000, .inl (fun j => nI ((fun _ => 0) j)))), (qq_9, .inl (cI, 40, .inl (fun j => nI ((fun _ => 0) j))))] H := hP
  have hD : va_D A [(ax, .inr (3, [.ref q5, .null, .null, .null, .null])), (q5, .inr (0, [.ref q_9, .ref qq_9, .int (nI 0)])), (q_9, .inl (cI, 8000, .inl (fun j => nI ((fun _ => 0) j)))), (qq_9, .inl (cI, 40, .inl (fun j => nI ((fun _ => 0) j))))] := hD
  refine lv_aload_n hx hb dX3_init_15 rfl (lv_at hl 0 rfl) ?_
  refine va_new (ci := 1) (fs := [.null, .int 0]) (C := RX1) (T := TX1) (N := 2) hx hb hts hinX1 tyX1 tyX1_ok hown (hts (.classLink RX3 16 RX1) (by decide +kernel)) (hts (.instantiable RX1 2) (by decide +kernel)) (hts (.initialized RX1) (by decide +kernel)) hK hP hD hS hA rfl (fun j hj => by rcases (show j = 0 ∨ j = 1 by omega) with rfl | rfl <;> rfl) (by show _ ≤ 11; omega) (by show _ ≤ 9421; omega) dX3_init_16 (fun q16 H hP hD hS => ?_)
  have hP : va_P (dC, dI) vwCl [(ax, .inr (3, [.ref q5, .null, .null, .null, .null])), (q5, .inr (0, [.ref q_9, .ref qq_9, .int (nI 0)])), (q_9, .inl (cI, 8000, .inl (fun j => nI ((fun _ => 0) j)))), (qq_9, .inl (cI, 40, .inl (fun j => nI ((fun _ => 0) j)))), (q16, .inr (1, [.null, .int 0]))] H := hP
  have hD : va_D A [(ax, .inr (3, [.ref q5, .null, .null, .null, .null])), (q5, .inr (0, [.ref q_9, .ref qq_9, .int (nI 0)])), (q_9, .inl (cI, 8000, .inl (fun j => nI ((fun _ => 0) j)))), (qq_9, .inl (cI, 40, .inl (fun j => nI ((fun _ => 0) j)))), (q16, .inr (1, [.null, .int 0]))] := hD
  refine W.widen (k := 4) (n := 8045) (by omega) (by omega) ?_
  refine lv_dup hx hb dX3_init_19 rfl ?_
  refine lv_sipush (v := (nI 480)) hx hb dX3_init_20 (by decide) ?_
  have hPc := hP.sub (ws' := [(q16, .inr (1, [.null, .int 0]))]) [4] rfl
  have hKc := hK.sub (tys' := [(cI, .int)]) [0] rfl
  have hDc := hD.sub (ws' := [(q16, .inr (1, [.null, .int 0]))]) [4] (by decide) rfl
  have hFc := va_free (wc := [(q16, .inr (1, [.null, .int 0]))]) hD hS hA [4] rfl
  refine va_callv (va_runI (As := [.int (nI 480)]) (rest := [.ref q16, .ref ax]) ⟨hx, hb, hml, hown, hts⟩ (c_X1_init l dC dI cI q16 480 H.size (by decide)) (cwI 1 hts gX3_init_X1_init rfl rfl rfl (hts (.initialized RX1) (by decide +kernel)) (hts (.methodLink RX3 18 yX1_init) (by decide +kernel)) (hts (.instanceMethod yX1_init) (by decide +kernel)) rfl (by decide +kernel) ⟨Nat.le_of_ble_eq_true rfl, Nat.le_of_ble_eq_true rfl⟩) ⟨fun a U g mk q => by obtain ⟨q0, q1, qP, qK, qD⟩ := q; exact ⟨q0, q1, qP, va_K.moved (u := U) (U := U.calling g mk a) (Vm.Alike.refl U.vm) qK, qD⟩, fun U hU hW => ⟨rfl, by rw [hU], by rw [hU]; exact hPc, va_K.moved hW.alike hKc, hDc.weaken (fun _ _ _ _ => trivial)⟩⟩ rfl rfl hl.1 rfl (lv_room (Nat.le_of_ble_eq_true rfl)) dX3_init_23 ⟨by show _ ≤ 11; omega, by show _ ≤ 9421; omega⟩) hS (fun q _ h => hFc q h) hFc (fun uS tS H1 locs htS hvm h23 hB hzS hkS hS => ?_)
  obtain ⟨q_23, hP1, hK1, hD1⟩ := hB
  rw [htS] at hP1
  have hK1 := va_K.moved hvm.symm hK1
  try dsimp only at h23
  obtain ⟨hP, hD⟩ := va_join (wr := [(ax, .inr (3, [.ref q5, .null, .null, .null, .null])), (q5, .inr (0, [.ref q_9, .ref qq_9, .int (nI 0)])), (q_9, .inl (cI, 8000, .inl (fun j => nI ((fun _ => 0) j)))), (qq_9, .inl (cI, 40, .inl (fun j => nI ((fun _ => 0) j))))]) (w1 := [(q16, .inr (1, [.ref q_23, .int (nI 0)])), (q_23, .inl (cI, 480, .inl (fun j => nI ((fun _ => 0) j))))]) hP hD [4] [0, 1, 2, 3] rfl rfl (by decide) (by decide) hkS hFc hP1 hD1
  generalize H1 = H at hP hS ⊢
  have hP : va_P (dC, dI) vwCl [(ax, .inr (3, [.ref q5, .null, .null, .null, .null])), (q5, .inr (0, [.ref q_9, .ref qq_9, .int (nI 0)])), (q_9, .inl (cI, 8000, .inl (fun j => nI ((fun _ => 0) j)))), (qq_9, .inl (cI, 40, .inl (fun j => nI ((fun _ => 0) j)))), (q16, .inr (1, [.ref q_23, .int (nI 0)])), (q_23, .inl (cI, 480, .inl (fun j => nI ((fun _ => 0) j))))] H := hP
  have hD : va_D A [(ax, .inr (3, [.ref q5, .null, .null, .null, .null])), (q5, .inr (0, [.ref q_9, .ref qq_9, .int (nI 0)])), (q_9, .inl (cI, 8000, .inl (fun j => nI ((fun _ => 0) j)))), (qq_9, .inl (cI, 40, .inl (fun j => nI ((fun _ => 0) j)))), (q16, .inr (1, [.ref q_23, .int (nI 0)])), (q_23, .inl (cI, 480, .inl (fun j => nI ((fun _ => 0) j))))] := hD
  refine W.widen (k := 5) (n := 8525) (by omega) (by omega) ?_
  refine va_putF (D := (dC, dI)) (ci := 3) (v := .ref q16) (ty := .object "NumberContents$Row") (C := RX3) (T := TX3) (N := 5) hx hb hts hinX3 tyX3 tyX3_ok nmX3 hown hK hP hD hS 0 rfl rfl 1 (by decide) (hts (.fieldLink RX3 21 "NumberContents" "digitRow" "LNumberContents$Row;") (by decide +kernel)) (fun _ h9 => h9) rfl hin rfl (by decide +kernel) rfl rfl (Nat.le_of_ble_eq_true rfl) dX3_init_26 (fun H locs hP hD hS => ?_)
  have hP : va_P (dC, dI) vwCl [(ax, .inr (3, [.ref q5, .ref q16, .null, .null, .null])), (q5, .inr (0, [.ref q_9, .ref qq_9, .int (nI 0)])), (q_9, .inl (cI, 8000, .inl (fun j => nI ((fun _ => 0) j)))), (qq_9, .inl (cI, 40, .inl (fun j => nI ((fun _ => 0) j)))), (q16, .inr (1, [.ref q_23, .int (nI 0)])), (q_23, .inl (cI, 480, .inl (fun j => nI ((fun _ => 0) j))))] H := hP
  have hD : va_D A [(ax, .inr (3, [.ref q5, .ref q16, .null, .null, .null])), (q5, .inr (0, [.ref q_9, .ref qq_9, .int (nI 0)])), (q_9, .inl (cI, 8000, .inl (fun j => nI ((fun _ => 0) j)))), (qq_9, .inl (cI, 40, .inl (fun j => nI ((fun _ => 0) j)))), (q16, .inr (1, [.ref q_23, .int (nI 0)])), (q_23, .inl (cI, 480, .inl (fun j => nI ((fun _ => 0) j))))] := hD
  refine lv_aload_n hx hb dX3_init_29 rfl (lv_at hl 0 rfl) ?_
  refine va_new (ci := 1) (fs := [.null, .int 0]) (C := RX1) (T := TX1) (N := 2) hx hb hts hinX1 tyX1 tyX1_ok hown (hts (.classLink RX3 16 RX1) (by decide +kernel)) (hts (.instantiable RX1 2) (by decide +kernel)) (hts (.initialized RX1) (by decide +kernel)) hK hP hD hS hA rfl (fun j hj => by rcases (show j = 0 ∨ j = 1 by omega) with rfl | rfl <;> rfl) (by show _ ≤ 11; omega) (by show _ ≤ 9421; omega) dX3_init_30 (fun q30 H hP hD hS => ?_)
  have hP : va_P (dC, dI) vwCl [(ax, .inr (3, [.ref q5, .ref q16, .null, .null, .null])), (q5, .inr (0, [.ref q_9, .ref qq_9, .int (nI 0)])), (q_9, .inl (cI, 8000, .inl (fun j => nI ((fun _ => 0) j)))), (qq_9, .inl (cI, 40, .inl (fun j => nI ((fun _ => 0) j)))), (q16, .inr (1, [.ref q_23, .int (nI 0)])), (q_23, .inl (cI, 480, .inl (fun j => nI ((fun _ => 0) j)))), (q30, .inr (1, [.null, .int 0]))] H := hP
  have hD : va_D A [(ax, .inr (3, [.ref q5, .ref q16, .null, .null, .null])), (q5, .inr (0, [.ref q_9, .ref qq_9, .int (nI 0)])), (q_9, .inl (cI, 8000, .inl (fun j => nI ((fun _ => 0) j)))), (qq_9, .inl (cI, 40, .inl (fun j => nI ((fun _ => 0) j)))), (q16, .inr (1, [.ref q_23, .int (nI 0)])), (q_23, .inl (cI, 480, .inl (fun j => nI ((fun _ => 0) j)))), (q30, .inr (1, [.null, .int 0]))] := hD
  refine W.widen (k := 6) (n := 8527) (by omega) (by omega) ?_
  refine lv_dup hx hb dX3_init_33 rfl ?_
  refine lv_sipush (v := (nI 200)) hx hb dX3_init_34 (by decide) ?_
  have hPc := hP.sub (ws' := [(q30, .inr (1, [.null, .int 0]))]) [6] rfl
  have hKc := hK.sub (tys' := [(cI, .int)]) [0] rfl
  have hDc := hD.sub (ws' := [(q30, .inr (1, [.null, .int 0]))]) [6] (by decide) rfl
  have hFc := va_free (wc := [(q30, .inr (1, [.null, .int 0]))]) hD hS hA [6] rfl
  refine va_callv (va_runI (As := [.int (nI 200)]) (rest := [.ref q30, .ref ax]) ⟨hx, hb, hml, hown, hts⟩ (c_X1_init l dC dI cI q30 200 H.size (by decide)) (cwI 1 hts gX3_init_X1_init rfl rfl rfl (hts (.initialized RX1) (by decide +kernel)) (hts (.methodLink RX3 18 yX1_init) (by decide +kernel)) (hts (.instanceMethod yX1_init) (by decide +kernel)) rfl (by decide +kernel) ⟨Nat.le_of_ble_eq_true rfl, Nat.le_of_ble_eq_true rfl⟩) ⟨fun a U g mk q => by obtain ⟨q0, q1, qP, qK, qD⟩ := q; exact ⟨q0, q1, qP, va_K.moved (u := U) (U := U.calling g mk a) (Vm.Alike.refl U.vm) qK, qD⟩, fun U hU hW => ⟨rfl, by rw [hU], by rw [hU]; exact hPc, va_K.moved hW.alike hKc, hDc.weaken (fun _ _ _ _ => trivial)⟩⟩ rfl rfl hl.1 rfl (lv_room (Nat.le_of_ble_eq_true rfl)) dX3_init_37 ⟨by show _ ≤ 11; omega, by show _ ≤ 9421; omega⟩) hS (fun q _ h => hFc q h) hFc (fun uS tS H1 locs htS hvm h37 hB hzS hkS hS => ?_)
  obtain ⟨q_37, hP1, hK1, hD1⟩ := hB
  rw [htS] at hP1
  have hK1 := va_K.moved hvm.symm hK1
  try dsimp only at h37
  obtain ⟨hP, hD⟩ := va_join (wr := [(ax, .inr (3, [.ref q5, .ref q16, .null, .null, .null])), (q5, .inr (0, [.ref q_9, .ref qq_9, .int (nI 0)])), (q_9, .inl (cI, 8000, .inl (fun j => nI ((fun _ => 0) j)))), (qq_9, .inl (cI, 40, .inl (fun j => nI ((fun _ => 0) j)))), (q16, .inr (1, [.ref q_23, .int (nI 0)])), (q_23, .inl (cI, 480, .inl (fun j => nI ((fun _ => 0) j))))]) (w1 := [(q30, .inr (1, [.ref q_37, .int (nI 0)])), (q_37, .inl (cI, 200, .inl (fun j => nI ((fun _ => 0) j))))]) hP hD [6] [0, 1, 2, 3, 4, 5] rfl rfl (by decide) (by decide) hkS hFc hP1 hD1
  generalize H1 = H at hP hS ⊢
  have hP : va_P (dC, dI) vwCl [(ax, .inr (3, [.ref q5, .ref q16, .null, .null, .null])), (q5, .inr (0, [.ref q_9, .ref qq_9, .int (nI 0)])), (q_9, .inl (cI, 8000, .inl (fun j => nI ((fun _ => 0) j)))), (qq_9, .inl (cI, 40, .inl (fun j => nI ((fun _ => 0) j)))), (q16, .inr (1, [.ref q_23, .int (nI 0)])), (q_23, .inl (cI, 480, .inl (fun j => nI ((fun _ => 0) j)))), (q30, .inr (1, [.ref q_37, .int (nI 0)])), (q_37, .inl (cI, 200, .inl (fun j => nI ((fun _ => 0) j))))] H := hP
  have hD : va_D A [(ax, .inr (3, [.ref q5, .ref q16, .null, .null, .null])), (q5, .inr (0, [.ref q_9, .ref qq_9, .int (nI 0)])), (q_9, .inl (cI, 8000, .inl (fun j => nI ((fun _ => 0) j)))), (qq_9, .inl (cI, 40, .inl (fun j => nI ((fun _ => 0) j)))), (q16, .inr (1, [.ref q_23, .int (nI 0)])), (q_23, .inl (cI, 480, .inl (fun j => nI ((fun _ => 0) j)))), (q30, .inr (1, [.ref q_37, .int (nI 0)])), (q_37, .inl (cI, 200, .inl (fun j => nI ((fun _ => 0) j))))] := hD
  refine W.widen (k := 7) (n := 8727) (by omega) (by omega) ?_
  refine va_putF (D := (dC, dI)) (ci := 3) (v := .ref q30) (ty := .object "NumberContents$Row") (C := RX3) (T := TX3) (N := 5) hx hb hts hinX3 tyX3 tyX3_ok nmX3 hown hK hP hD hS 0 rfl rfl 2 (by decide) (hts (.fieldLink RX3 25 "NumberContents" "byteRow" "LNumberContents$Row;") (by decide +kernel)) (fun _ h9 => h9) rfl hin rfl (by decide +kernel) rfl rfl (Nat.le_of_ble_eq_true rfl) dX3_init_40 (fun H locs hP hD hS => ?_)
  have hP : va_P (dC, dI) vwCl [(ax, .inr (3, [.ref q5, .ref q16, .ref q30, .null, .null])), (q5, .inr (0, [.ref q_9, .ref qq_9, .int (nI 0)])), (q_9, .inl (cI, 8000, .inl (fun j => nI ((fun _ => 0) j)))), (qq_9, .inl (cI, 40, .inl (fun j => nI ((fun _ => 0) j)))), (q16, .inr (1, [.ref q_23, .int (nI 0)])), (q_23, .inl (cI, 480, .inl (fun j => nI ((fun _ => 0) j)))), (q30, .inr (1, [.ref q_37, .int (nI 0)])), (q_37, .inl (cI, 200, .inl (fun j => nI ((fun _ => 0) j))))] H := hP
  have hD : va_D A [(ax, .inr (3, [.ref q5, .ref q16, .ref q30, .null, .null])), (q5, .inr (0, [.ref q_9, .ref qq_9, .int (nI 0)])), (q_9, .inl (cI, 8000, .inl (fun j => nI ((fun _ => 0) j)))), (qq_9, .inl (cI, 40, .inl (fun j => nI ((fun _ => 0) j)))), (q16, .inr (1, [.ref q_23, .int (nI 0)])), (q_23, .inl (cI, 480, .inl (fun j => nI ((fun _ => 0) j)))), (q30, .inr (1, [.ref q_37, .int (nI 0)])), (q_37, .inl (cI, 200, .inl (fun j => nI ((fun _ => 0) j))))] := hD
  refine lv_aload_n hx hb dX3_init_43 rfl (lv_at hl 0 rfl) ?_
  refine va_new (ci := 1) (fs := [.null, .int 0]) (C := RX1) (T := TX1) (N := 2) hx hb hts hinX1 tyX1 tyX1_ok hown (hts (.classLink RX3 16 RX1) (by decide +kernel)) (hts (.instantiable RX1 2) (by decide +kernel)) (hts (.initialized RX1) (by decide +kernel)) hK hP hD hS hA rfl (fun j hj => by rcases (show j = 0 ∨ j = 1 by omega) with rfl | rfl <;> rfl) (by show _ ≤ 11; omega) (by show _ ≤ 9421; omega) dX3_init_44 (fun q44 H hP hD hS => ?_)
  have hP : va_P (dC, dI) vwCl [(ax, .inr (3, [.ref q5, .ref q16, .ref q30, .null, .null])), (q5, .inr (0, [.ref q_9, .ref qq_9, .int (nI 0)])), (q_9, .inl (cI, 8000, .inl (fun j => nI ((fun _ => 0) j)))), (qq_9, .inl (cI, 40, .inl (fun j => nI ((fun _ => 0) j)))), (q16, .inr (1, [.ref q_23, .int (nI 0)])), (q_23, .inl (cI, 480, .inl (fun j => nI ((fun _ => 0) j)))), (q30, .inr (1, [.ref q_37, .int (nI 0)])), (q_37, .inl (cI, 200, .inl (fun j => nI ((fun _ => 0) j)))), (q44, .inr (1, [.null, .int 0]))] H := hP
  have hD : va_D A [(ax, .inr (3, [.ref q5, .ref q16, .ref q30, .null, .null])), (q5, .inr (0, [.ref q_9, .ref qq_9, .int (nI 0)])), (q_9, .inl (cI, 8000, .inl (fun j => nI ((fun _ => 0) j)))), (qq_9, .inl (cI, 40, .inl (fun j => nI ((fun _ => 0) j)))), (q16, .inr (1, [.ref q_23, .int (nI 0)])), (q_23, .inl (cI, 480, .inl (fun j => nI ((fun _ => 0) j)))), (q30, .inr (1, [.ref q_37, .int (nI 0)])), (q_37, .inl (cI, 200, .inl (fun j => nI ((fun _ => 0) j)))), (q44, .inr (1, [.null, .int 0]))] := hD
  refine W.widen (k := 8) (n := 8729) (by omega) (by omega) ?_
  refine lv_dup hx hb dX3_init_47 rfl ?_
  refine lv_sipush (v := (nI 487)) hx hb dX3_init_48 (by decide) ?_
  have hPc := hP.sub (ws' := [(q44, .inr (1, [.null, .int 0]))]) [8] rfl
  have hKc := hK.sub (tys' := [(cI, .int)]) [0] rfl
  have hDc := hD.sub (ws' := [(q44, .inr (1, [.null, .int 0]))]) [8] (by decide) rfl
  have hFc := va_free (wc := [(q44, .inr (1, [.null, .int 0]))]) hD hS hA [8] rfl
  refine va_callv (va_runI (As := [.int (nI 487)]) (rest := [.ref q44, .ref ax]) ⟨hx, hb, hml, hown, hts⟩ (c_X1_init l dC dI cI q44 487 H.size (by decide)) (cwI 1 hts gX3_init_X1_init rfl rfl rfl (hts (.initialized RX1) (by decide +kernel)) (hts (.methodLink RX3 18 yX1_init) (by decide +kernel)) (hts (.instanceMethod yX1_init) (by decide +kernel)) rfl (by decide +kernel) ⟨Nat.le_of_ble_eq_true rfl, Nat.le_of_ble_eq_true rfl⟩) ⟨fun a U g mk q => by obtain ⟨q0, q1, qP, qK, qD⟩ := q; exact ⟨q0, q1, qP, va_K.moved (u := U) (U := U.calling g mk a) (Vm.Alike.refl U.vm) qK, qD⟩, fun U hU hW => ⟨rfl, by rw [hU], by rw [hU]; exact hPc, va_K.moved hW.alike hKc, hDc.weaken (fun _ _ _ _ => trivial)⟩⟩ rfl rfl hl.1 rfl (lv_room (Nat.le_of_ble_eq_true rfl)) dX3_init_51 ⟨by show _ ≤ 11; omega, by show _ ≤ 9421; omega⟩) hS (fun q _ h => hFc q h) hFc (fun uS tS H1 locs htS hvm h51 hB hzS hkS hS => ?_)
  obtain ⟨q_51, hP1, hK1, hD1⟩ := hB
  rw [htS] at hP1
  have hK1 := va_K.moved hvm.symm hK1
  try dsimp only at h51
  obtain ⟨hP, hD⟩ := va_join (wr := [(ax, .inr (3, [.ref q5, .ref q16, .ref q30, .null, .null])), (q5, .inr (0, [.ref q_9, .ref qq_9, .int (nI 0)])), (q_9, .inl (cI, 8000, .inl (fun j => nI ((fun _ => 0) j)))), (qq_9, .inl (cI, 40, .inl (fun j => nI ((fun _ => 0) j)))), (q16, .inr (1, [.ref q_23, .int (nI 0)])), (q_23, .inl (cI, 480, .inl (fun j => nI ((fun _ => 0) j)))), (q30, .inr (1, [.ref q_37, .int (nI 0)])), (q_37, .inl (cI, 200, .inl (fun j => nI ((fun _ => 0) j))))]) (w1 := [(q44, .inr (1, [.ref q_51, .int (nI 0)])), (q_51, .inl (cI, 487, .inl (fun j => nI ((fun _ => 0) j))))]) hP hD [8] [0, 1, 2, 3, 4, 5, 6, 7] rfl rfl (by decide) (by decide) hkS hFc hP1 hD1
  generalize H1 = H at hP hS ⊢
  have hP : va_P (dC, dI) vwCl [(ax, .inr (3, [.ref q5, .ref q16, .ref q30, .null, .null])), (q5, .inr (0, [.ref q_9, .ref qq_9, .int (nI 0)])), (q_9, .inl (cI, 8000, .inl (fun j => nI ((fun _ => 0) j)))), (qq_9, .inl (cI, 40, .inl (fun j => nI ((fun _ => 0) j)))), (q16, .inr (1, [.ref q_23, .int (nI 0)])), (q_23, .inl (cI, 480, .inl (fun j => nI ((fun _ => 0) j)))), (q30, .inr (1, [.ref q_37, .int (nI 0)])), (q_37, .inl (cI, 200, .inl (fun j => nI ((fun _ => 0) j)))), (q44, .inr (1, [.ref q_51, .int (nI 0)])), (q_51, .inl (cI, 487, .inl (fun j => nI ((fun _ => 0) j))))] H := hP
  have hD : va_D A [(ax, .inr (3, [.ref q5, .ref q16, .ref q30, .null, .null])), (q5, .inr (0, [.ref q_9, .ref qq_9, .int (nI 0)])), (q_9, .inl (cI, 8000, .inl (fun j => nI ((fun _ => 0) j)))), (qq_9, .inl (cI, 40, .inl (fun j => nI ((fun _ => 0) j)))), (q16, .inr (1, [.ref q_23, .int (nI 0)])), (q_23, .inl (cI, 480, .inl (fun j => nI ((fun _ => 0) j)))), (q30, .inr (1, [.ref q_37, .int (nI 0)])), (q_37, .inl (cI, 200, .inl (fun j => nI ((fun _ => 0) j)))), (q44, .inr (1, [.ref q_51, .int (nI 0)])), (q_51, .inl (cI, 487, .inl (fun j => nI ((fun _ => 0) j))))] := hD
  refine W.widen (k := 9) (n := 9216) (by omega) (by omega) ?_
  refine va_putF (D := (dC, dI)) (ci := 3) (v := .ref q44) (ty := .object "NumberContents$Row") (C := RX3) (T := TX3) (N := 5) hx hb hts hinX3 tyX3 tyX3_ok nmX3 hown hK hP hD hS 0 rfl rfl 3 (by decide) (hts (.fieldLink RX3 28 "NumberContents" "written" "LNumberContents$Row;") (by decide +kernel)) (fun _ h9 => h9) rfl hin rfl (by decide +kernel) rfl rfl (Nat.le_of_ble_eq_true rfl) dX3_init_54 (fun H locs hP hD hS => ?_)
  have hP : va_P (dC, dI) vwCl [(ax, .inr (3, [.ref q5, .ref q16, .ref q30, .ref q44, .null])), (q5, .inr (0, [.ref q_9, .ref qq_9, .int (nI 0)])), (q_9, .inl (cI, 8000, .inl (fun j => nI ((fun _ => 0) j)))), (qq_9, .inl (cI, 40, .inl (fun j => nI ((fun _ => 0) j)))), (q16, .inr (1, [.ref q_23, .int (nI 0)])), (q_23, .inl (cI, 480, .inl (fun j => nI ((fun _ => 0) j)))), (q30, .inr (1, [.ref q_37, .int (nI 0)])), (q_37, .inl (cI, 200, .inl (fun j => nI ((fun _ => 0) j)))), (q44, .inr (1, [.ref q_51, .int (nI 0)])), (q_51, .inl (cI, 487, .inl (fun j => nI ((fun _ => 0) j))))] H := hP
  have hD : va_D A [(ax, .inr (3, [.ref q5, .ref q16, .ref q30, .ref q44, .null])), (q5, .inr (0, [.ref q_9, .ref qq_9, .int (nI 0)])), (q_9, .inl (cI, 8000, .inl (fun j => nI ((fun _ => 0) j)))), (qq_9, .inl (cI, 40, .inl (fun j => nI ((fun _ => 0) j)))), (q16, .inr (1, [.ref q_23, .int (nI 0)])), (q_23, .inl (cI, 480, .inl (fun j => nI ((fun _ => 0) j)))), (q30, .inr (1, [.ref q_37, .int (nI 0)])), (q_37, .inl (cI, 200, .inl (fun j => nI ((fun _ => 0) j)))), (q44, .inr (1, [.ref q_51, .int (nI 0)])), (q_51, .inl (cI, 487, .inl (fun j => nI ((fun _ => 0) j))))] := hD
  refine lv_aload_n hx hb dX3_init_57 rfl (lv_at hl 0 rfl) ?_
  refine va_new (ci := 2) (fs := [.null]) (C := RX2) (T := TX2) (N := 1) hx hb hts hinX2 tyX2 tyX2_ok hown (hts (.classLink RX3 31 RX2) (by decide +kernel)) (hts (.instantiable RX2 1) (by decide +kernel)) (hts (.initialized RX2) (by decide +kernel)) hK hP hD hS hA rfl (fun j hj => by rcases (show j = 0 by omega) with rfl <;> rfl) (by show _ ≤ 11; omega) (by show _ ≤ 9421; omega) dX3_init_58 (fun q58 H hP hD hS => ?_)
  have hP : va_P (dC, dI) vwCl [(ax, .inr (3, [.ref q5, .ref q16, .ref q30, .ref q44, .null])), (q5, .inr (0, [.ref q_9, .ref qq_9, .int (nI 0)])), (q_9, .inl (cI, 8000, .inl (fun j => nI ((fun _ => 0) j)))), (qq_9, .inl (cI, 40, .inl (fun j => nI ((fun _ => 0) j)))), (q16, .inr (1, [.ref q_23, .int (nI 0)])), (q_23, .inl (cI, 480, .inl (fun j => nI ((fun _ => 0) j)))), (q30, .inr (1, [.ref q_37, .int (nI 0)])), (q_37, .inl (cI, 200, .inl (fun j => nI ((fun _ => 0) j)))), (q44, .inr (1, [.ref q_51, .int (nI 0)])), (q_51, .inl (cI, 487, .inl (fun j => nI ((fun _ => 0) j)))), (q58, .inr (2, [.null]))] H := hP
  have hD : va_D A [(ax, .inr (3, [.ref q5, .ref q16, .ref q30, .ref q44, .null])), (q5, .inr (0, [.ref q_9, .ref qq_9, .int (nI 0)])), (q_9, .inl (cI, 8000, .inl (fun j => nI ((fun _ => 0) j)))), (qq_9, .inl (cI, 40, .inl (fun j => nI ((fun _ => 0) j)))), (q16, .inr (1, [.ref q_23, .int (nI 0)])), (q_23, .inl (cI, 480, .inl (fun j => nI ((fun _ => 0) j)))), (q30, .inr (1, [.ref q_37, .int (nI 0)])), (q_37, .inl (cI, 200, .inl (fun j => nI ((fun _ => 0) j)))), (q44, .inr (1, [.ref q_51, .int (nI 0)])), (q_51, .inl (cI, 487, .inl (fun j => nI ((fun _ => 0) j)))), (q58, .inr (2, [.null]))] := hD
  refine W.widen (k := 10) (n := 9217) (by omega) (by omega) ?_
  refine lv_dup hx hb dX3_init_61 rfl ?_
  have hPc := hP.sub (ws' := [(q58, .inr (2, [.null]))]) [10] rfl
  have hKc := hK.sub (tys' := [(cI, .int)]) [0] rfl
  have hDc := hD.sub (ws' := [(q58, .inr (2, [.null]))]) [10] (by decide) rfl
  have hFc := va_free (wc := [(q58, .inr (2, [.null]))]) hD hS hA [10] rfl
  refine va_callv (va_runI (As := []) (rest := [.ref q58, .ref ax]) ⟨hx, hb, hml, hown, hts⟩ (c_X2_init l dC dI cI q58 H.size ) (cwI 0 hts gX3_init_X2_init rfl rfl rfl (hts (.initialized RX2) (by decide +kernel)) (hts (.methodLink RX3 33 yX2_init) (by decide +kernel)) (hts (.instanceMethod yX2_init) (by decide +kernel)) rfl (by decide +kernel) ⟨Nat.le_of_ble_eq_true rfl, Nat.le_of_ble_eq_true rfl⟩) ⟨fun a U g mk q => by obtain ⟨q0, q1, qP, qK, qD⟩ := q; exact ⟨q0, q1, qP, va_K.moved (u := U) (U := U.calling g mk a) (Vm.Alike.refl U.vm) qK, qD⟩, fun U hU hW => ⟨rfl, by rw [hU], by rw [hU]; exact hPc, va_K.moved hW.alike hKc, hDc.weaken (fun _ _ _ _ => trivial)⟩⟩ rfl rfl hl.1 rfl (lv_room (Nat.le_of_ble_eq_true rfl)) dX3_init_62 ⟨by show _ ≤ 11; omega, by show _ ≤ 9421; omega⟩) hS (fun q _ h => hFc q h) hFc (fun uS tS H1 locs htS hvm h62 hB hzS hkS hS => ?_)
  obtain ⟨q_62, hP1, hK1, hD1⟩ := hB
  rw [htS] at hP1
  have hK1 := va_K.moved hvm.symm hK1
  try dsimp only at h62
  obtain ⟨hP, hD⟩ := va_join (wr := [(ax, .inr (3, [.ref q5, .ref q16, .ref q30, .ref q44, .null])), (q5, .inr (0, [.ref q_9, .ref qq_9, .int (nI 0)])), (q_9, .inl (cI, 8000, .inl (fun j => nI ((fun _ => 0) j)))), (qq_9, .inl (cI, 40, .inl (fun j => nI ((fun _ => 0) j)))), (q16, .inr (1, [.ref q_23, .int (nI 0)])), (q_23, .inl (cI, 480, .inl (fun j => nI ((fun _ => 0) j)))), (q30, .inr (1, [.ref q_37, .int (nI 0)])), (q_37, .inl (cI, 200, .inl (fun j => nI ((fun _ => 0) j)))), (q44, .inr (1, [.ref q_51, .int (nI 0)])), (q_51, .inl (cI, 487, .inl (fun j => nI ((fun _ => 0) j))))]) (w1 := [(q58, .inr (2, [.ref q_62])), (q_62, .inl (cI, 204, .inl (fun j => nI ((fun _ => 0) j))))]) hP hD [10] [0, 1, 2, 3, 4, 5, 6, 7, 8, 9] rfl rfl (by decide) (by decide) hkS hFc hP1 hD1
  generalize H1 = H at hP hS ⊢
  have hP : va_P (dC, dI) vwCl [(ax, .inr (3, [.ref q5, .ref q16, .ref q30, .ref q44, .null])), (q5, .inr (0, [.ref q_9, .ref qq_9, .int (nI 0)])), (q_9, .inl (cI, 8000, .inl (fun j => nI ((fun _ => 0) j)))), (qq_9, .inl (cI, 40, .inl (fun j => nI ((fun _ => 0) j)))), (q16, .inr (1, [.ref q_23, .int (nI 0)])), (q_23, .inl (cI, 480, .inl (fun j => nI ((fun _ => 0) j)))), (q30, .inr (1, [.ref q_37, .int (nI 0)])), (q_37, .inl (cI, 200, .inl (fun j => nI ((fun _ => 0) j)))), (q44, .inr (1, [.ref q_51, .int (nI 0)])), (q_51, .inl (cI, 487, .inl (fun j => nI ((fun _ => 0) j)))), (q58, .inr (2, [.ref q_62])), (q_62, .inl (cI, 204, .inl (fun j => nI ((fun _ => 0) j))))] H := hP
  have hD : va_D A [(ax, .inr (3, [.ref q5, .ref q16, .ref q30, .ref q44, .null])), (q5, .inr (0, [.ref q_9, .ref qq_9, .int (nI 0)])), (q_9, .inl (cI, 8000, .inl (fun j => nI ((fun _ => 0) j)))), (qq_9, .inl (cI, 40, .inl (fun j => nI ((fun _ => 0) j)))), (q16, .inr (1, [.ref q_23, .int (nI 0)])), (q_23, .inl (cI, 480, .inl (fun j => nI ((fun _ => 0) j)))), (q30, .inr (1, [.ref q_37, .int (nI 0)])), (q_37, .inl (cI, 200, .inl (fun j => nI ((fun _ => 0) j)))), (q44, .inr (1, [.ref q_51, .int (nI 0)])), (q_51, .inl (cI, 487, .inl (fun j => nI ((fun _ => 0) j)))), (q58, .inr (2, [.ref q_62])), (q_62, .inl (cI, 204, .inl (fun j => nI ((fun _ => 0) j))))] := hD
  refine W.widen (k := 11) (n := 9421) (by omega) (by omega) ?_
  refine va_putF (D := (dC, dI)) (ci := 3) (v := .ref q58) (ty := .object "NumberContents$Wide") (C := RX3) (T := TX3) (N := 5) hx hb hts hinX3 tyX3 tyX3_ok nmX3 hown hK hP hD hS 0 rfl rfl 4 (by decide) (hts (.fieldLink RX3 34 "NumberContents" "wide" "LNumberContents$Wide;") (by decide +kernel)) (fun _ h9 => h9) rfl hin rfl (by decide +kernel) rfl rfl (Nat.le_of_ble_eq_true rfl) dX3_init_65 (fun H locs hP hD hS => ?_)
  have hP : va_P (dC, dI) vwCl [(ax, .inr (3, [.ref q5, .ref q16, .ref q30, .ref q44, .ref q58])), (q5, .inr (0, [.ref q_9, .ref qq_9, .int (nI 0)])), (q_9, .inl (cI, 8000, .inl (fun j => nI ((fun _ => 0) j)))), (qq_9, .inl (cI, 40, .inl (fun j => nI ((fun _ => 0) j)))), (q16, .inr (1, [.ref q_23, .int (nI 0)])), (q_23, .inl (cI, 480, .inl (fun j => nI ((fun _ => 0) j)))), (q30, .inr (1, [.ref q_37, .int (nI 0)])), (q_37, .inl (cI, 200, .inl (fun j => nI ((fun _ => 0) j)))), (q44, .inr (1, [.ref q_51, .int (nI 0)])), (q_51, .inl (cI, 487, .inl (fun j => nI ((fun _ => 0) j)))), (q58, .inr (2, [.ref q_62])), (q_62, .inl (cI, 204, .inl (fun j => nI ((fun _ => 0) j))))] H := hP
  have hD : va_D A [(ax, .inr (3, [.ref q5, .ref q16, .ref q30, .ref q44, .ref q58])), (q5, .inr (0, [.ref q_9, .ref qq_9, .int (nI 0)])), (q_9, .inl (cI, 8000, .inl (fun j => nI ((fun _ => 0) j)))), (qq_9, .inl (cI, 40, .inl (fun j => nI ((fun _ => 0) j)))), (q16, .inr (1, [.ref q_23, .int (nI 0)])), (q_23, .inl (cI, 480, .inl (fun j => nI ((fun _ => 0) j)))), (q30, .inr (1, [.ref q_37, .int (nI 0)])), (q_37, .inl (cI, 200, .inl (fun j => nI ((fun _ => 0) j)))), (q44, .inr (1, [.ref q_51, .int (nI 0)])), (q_51, .inl (cI, 487, .inl (fun j => nI ((fun _ => 0) j)))), (q58, .inr (2, [.ref q_62])), (q_62, .inl (cI, 204, .inl (fun j => nI ((fun _ => 0) j))))] := hD
  have hP9 := hP.sub (ws' := [(ax, .inr (3, [.ref q5, .ref q16, .ref q30, .ref q44, .ref q58])), (q5, .inr (0, [.ref q_9, .ref qq_9, .int (nI 0)])), (q_9, .inl (cI, 8000, .inl (fun j => nI ((fun _ => 0) j)))), (qq_9, .inl (cI, 40, .inl (fun j => nI ((fun _ => 0) j)))), (q16, .inr (1, [.ref q_23, .int (nI 0)])), (q_23, .inl (cI, 480, .inl (fun j => nI ((fun _ => 0) j)))), (q30, .inr (1, [.ref q_37, .int (nI 0)])), (q_37, .inl (cI, 200, .inl (fun j => nI ((fun _ => 0) j)))), (q44, .inr (1, [.ref q_51, .int (nI 0)])), (q_51, .inl (cI, 487, .inl (fun j => nI ((fun _ => 0) j)))), (q58, .inr (2, [.ref q_62])), (q_62, .inl (cI, 204, .inl (fun j => nI ((fun _ => 0) j))))]) [0, 1, 2, 3, 4, 5, 6, 7, 8, 9, 10, 11] rfl
  have hD9 := hD.sub (ws' := [(ax, .inr (3, [.ref q5, .ref q16, .ref q30, .ref q44, .ref q58])), (q5, .inr (0, [.ref q_9, .ref qq_9, .int (nI 0)])), (q_9, .inl (cI, 8000, .inl (fun j => nI ((fun _ => 0) j)))), (qq_9, .inl (cI, 40, .inl (fun j => nI ((fun _ => 0) j)))), (q16, .inr (1, [.ref q_23, .int (nI 0)])), (q_23, .inl (cI, 480, .inl (fun j => nI ((fun _ => 0) j)))), (q30, .inr (1, [.ref q_37, .int (nI 0)])), (q_37, .inl (cI, 200, .inl (fun j => nI ((fun _ => 0) j)))), (q44, .inr (1, [.ref q_51, .int (nI 0)])), (q_51, .inl (cI, 487, .inl (fun j => nI ((fun _ => 0) j)))), (q58, .inr (2, [.ref q_62])), (q_62, .inl (cI, 204, .inl (fun j => nI ((fun _ => 0) j))))]) [0, 1, 2, 3, 4, 5, 6, 7, 8, 9, 10, 11] (by decide) rfl
  have hK9 := hK.sub (tys' := [(cI, .int)]) [0] rfl
  exact W.vret hx hb hr (fun tS htS hW => ⟨⟨(), rfl, trivial, q5, q16, q30, q44, q58, q_9, qq_9, q_23, q_37, q_51, q_62, by rw [htS]; exact hP9, va_K.moved hW.alike hK9, hD9⟩, hS.F htS⟩) hS.2.2 dX3_init_68

