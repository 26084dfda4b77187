set_option maxHeartbeats 4000000 in
set_option maxRecDepth 100000 in
theorem c_X1_addg (l : Launch) (dC : Nat → ClassId) (dI : Nat → Nat → Nat) (cI : ClassId) (h0 q1 L n : Nat) (f : Nat → Nat) (x : Nat) (sz : Nat) (hn : n < L) (hL : L < 1000) : Met l yX1_add wsX1_add ({ frames := 1, cells := 0, slots := 0, locals := 21 } : Room) (va_Pc [.ref h0, .int (nI x)] (fun U => U.heap.size = sz ∧ va_P (dC, dI) vwCl [(h0, .inr (1, [.ref q1, .int (nI n)])), (q1, .inl (cI, L, .inl (fun j => nI (f j))))] U.heap ∧ va_K (dC, dI) vwCl [(cI, .int)] U ∧ va_D (fun _ => True) [(h0, .inr (1, [.ref q1, .int (nI n)])), (q1, .inl (cI, L, .inl (fun j => nI (f j))))])) (va_Qv (fun (_ : Unit) => True) (fun (_ : Unit) (tS : State) => va_P (dC, dI) vwCl [(h0, .inr (1, [.ref q1, .int (nI (n + 1))])), (q1, .inl (cI, L, .inl (fun j => nI (va_up f n x j))))] tS.heap ∧ va_K (dC, dI) vwCl [(cI, .int)] tS ∧ va_D (va_A [(h0, .inr (1, [.ref q1, .int (nI n)])), (q1, .inl (cI, L, .inl (fun j => nI (f j))))] sz) [(h0, .inr (1, [.ref q1, .int (nI (n + 1))])), (q1, .inl (cI, L, .inl (fun j => nI (va_up f n x j))))]) (va_A [(h0, .inr (1, [.ref q1, .int (nI n)])), (q1, .inl (cI, L, .inl (fun j => nI (f j))))] sz)) 0 0 (va_A [(h0, .inr (1, [.ref q1, .int (nI n)])), (q1, .inl (cI, L, .inl (fun j => nI (f j))))] sz) := by
  refine Met.ofW (cc := cX1_add) (maxL := 2) (ret := none) (by decide) rfl ?_
  intro p e s m args below meth c s₁ B hml hv
  obtain ⟨rfl, hsz, hP, hK, hD0⟩ := hv
  have hx := B.exec
  have hb := B.bytes
  have hr := B.returns
  have hts := atoms_spec (ws := wsX1_add) B.pre
  have hown : s.vm.findClass RX1 = some m.cls := findClass_of_methodNamed B.named
  have hlocks := B.notSynchronized
  subst hsz
  have hD := hD0.self (sz := s.heap.size)
  generalize hAe : va_A [(h0, .inr (1, [.ref q1, .int (nI n)])), (q1, .inl (cI, L, .inl (fun j => nI (f j))))] s.heap.size = A at hD ⊢
  have hA : ∀ q : Nat, s.heap.size ≤ q → A q := fun q h => by rw [← hAe]; exact Or.inr h
  have hS : va_S A s.heap s.heap [] := va_S.rf
  have hinX1 : ∀ w ∈ wsX10, w ∈ wsX1_add := by decide +kernel
  have hl := lv_entry ([.ref h0, .int (nI x)]) (n := 2) (Nat.le_of_ble_eq_true rfl)
  rw [lg_entry_eq]
  generalize (lg_sl ([.ref h0, .int (nI x)]) ++ List.replicate (2 - (lg_sl ([.ref h0, .int (nI x)])).length) Slot.unset).toArray = ls at hl ⊢
  have hl : lv_has ls 2 [(0, .ref h0), (1, .int (nI x))] := hl
  refine lv_aload_n hx hb dX1_add_0 rfl (lv_at hl 0 rfl) ?_
  refine lv_iconst (v := 1) hx hb dX1_add_1 (by decide) ?_
  have hPc := hP.sub (ws' := [(h0, .inr (1, [.ref q1, .int (nI n)])), (q1, .inl (cI, L, .inl (fun j => nI (f j))))]) [0, 1] rfl
  have hKc := hK.sub (tys' := [(cI, .int)]) [0] rfl
  refine vp_callSi (W.runV (As := [.int 1]) (rest := []) ⟨hx, hb, hml, hown, hts⟩ (c_X1_hasRoom l dC dI cI h0 q1 L n (fun j => nI (f j)) 1 (by omega) hL) (cwV 1 hts gX1_add_X1_hasRoom rfl rfl rfl (by decide +kernel) ⟨Nat.le_of_ble_eq_true rfl, Nat.le_of_ble_eq_true rfl⟩) ⟨fun a U g mk q => by obtain ⟨q0, qP, qK⟩ := q; exact ⟨q0, qP, va_K.moved (u := U) (U := U.calling g mk a) (Vm.Alike.refl U.vm) qK⟩, va_recv hK hP (ci := 1) (q0 := 0) rfl rfl, fun U hU hW => ⟨rfl, by rw [hU]; exact hPc, va_K.moved hW.alike hKc⟩⟩ rfl rfl hl.1 rfl (lv_room (Nat.le_of_ble_eq_true rfl)) dX1_add_2 ⟨Nat.le_of_ble_eq_true rfl, Nat.le_of_ble_eq_true rfl⟩) (fun r2 h2 => ?_)
  refine lv_if_eq (tgt := 28) hx hb dX1_add_5 (by decide) (fun c5 => ?_) (fun c5 => ?_)
  · exact absurd c5 (fun z => ite_r h2 z (nI_lt1 (by omega) (by omega)))
  · refine lv_aload_n hx hb dX1_add_8 rfl (lv_at hl 0 rfl) ?_
    refine va_get (D := (dC, dI)) (ci := 1) (v := .ref q1) (C := RX1) (T := TX1) (N := 2) hx hb hts hinX1 hown hK hP 0 rfl rfl 0 (by decide) (hts (.fieldLink RX1 13 "NumberContents$Row" "items" "[I") (by decide +kernel)) (fun _ h9 => h9) rfl dX1_add_9 ?_
    refine lv_aload_n hx hb dX1_add_12 rfl (lv_at hl 0 rfl) ?_
    refine va_get (D := (dC, dI)) (ci := 1) (v := .int (nI n)) (C := RX1) (T := TX1) (N := 2) hx hb hts hinX1 hown hK hP 0 rfl rfl 1 (by decide) (hts (.fieldLink RX1 19 "NumberContents$Row" "used" "I") (by decide +kernel)) (fun _ h9 => h9) rfl dX1_add_13 ?_
    refine lv_iload_n hx hb dX1_add_16 rfl (lv_at hl 1 rfl) ?_
    refine va_iast hx hb hK hP hD hS 1 0 rfl rfl (vp_in_nI hn (by omega)) dX1_add_17 (fun H locs hP hD hS => ?_)
    have hP : va_P (dC, dI) vwCl [(h0, .inr (1, [.ref q1, .int (nI n)])), (q1, .inl (cI, L, .inl (upd (fun j => nI (f j)) (nI n).toNatClampNeg (nI x))))] H := hP
    have hD : va_D A [(h0, .inr (1, [.ref q1, .int (nI n)])), (q1, .inl (cI, L, .inl (upd (fun j => nI (f j)) (nI n).toNatClampNeg (nI x))))] := hD
    obtain ⟨f17, e17⟩ : ∃ zz9 : Nat → Int32, zz9 = upd (fun j => nI (f j)) (nI n).toNatClampNeg (nI x) := ⟨_, rfl⟩
    rw [← e17] at hP hD
    obtain rfl : f17 = fun j => nI (va_up f n x j) := e17.trans (upg (by omega))
    refine lv_aload_n hx hb dX1_add_18 rfl (lv_at hl 0 rfl) ?_
    refine lv_dup hx hb dX1_add_19 rfl ?_
    refine va_get (D := (dC, dI)) (ci := 1) (v := .int (nI n)) (C := RX1) (T := TX1) (N := 2) hx hb hts hinX1 hown hK hP 0 rfl rfl 1 (by decide) (hts (.fieldLink RX1 19 "NumberContents$Row" "used" "I") (by decide +kernel)) (fun _ h9 => h9) rfl dX1_add_20 ?_
    refine lv_iconst (v := 1) hx hb dX1_add_23 (by decide) ?_
    refine lv_iadd hx hb dX1_add_24 ?_
    refine lv_topi (fun x24 e24 => ?_)
    obtain rfl : x24 = nI (n + 1) := e24.trans (nI_1 n)
    refine va_put (D := (dC, dI)) (ci := 1) (v := .int (nI (n + 1))) (ty := .int) (C := RX1) (T := TX1) (N := 2) hx hb hts hinX1 tyX1 tyX1_ok nmX1 hown hK hP hD hS 0 rfl rfl 1 (by decide) (hts (.fieldLink RX1 19 "NumberContents$Row" "used" "I") (by decide +kernel)) (fun _ h9 => h9) rfl (by decide +kernel) rfl rfl (Nat.le_of_ble_eq_true rfl) dX1_add_25 (fun H locs hP hD hS => ?_)
    have hP : va_P (dC, dI) vwCl [(h0, .inr (1, [.ref q1, .int (nI (n + 1))])), (q1, .inl (cI, L, .inl (fun j => nI (va_up f n x j))))] H := hP
    have hD : va_D A [(h0, .inr (1, [.ref q1, .int (nI (n + 1))])), (q1, .inl (cI, L, .inl (fun j => nI (va_up f n x j))))] := hD
    have hP9 := hP.sub (ws' := [(h0, .inr (1, [.ref q1, .int (nI (n + 1))])), (q1, .inl (cI, L, .inl (fun j => nI (va_up f n x j))))]) [0, 1] rfl
    have hD9 := hD.sub (ws' := [(h0, .inr (1, [.ref q1, .int (nI (n + 1))])), (q1, .inl (cI, L, .inl (fun j => nI (va_up f n x j))))]) [0, 1] (by decide) rfl
    have hK9 := hK.sub (tys' := [(cI, .int)]) [0] rfl
    exact W.vret hx hb hr (fun tS htS hW => ⟨⟨(), rfl, trivial, by rw [htS]; exact hP9, va_K.moved hW.alike hK9, hD9⟩, hS.F htS⟩) hS.2.2 dX1_add_28

theorem rv_stepg {n i j : Nat} {f f2 : Nat → Nat} (hi : i < n / 2) (ha : ∀ j, j < n → f2 j = if j < i ∨ n - i ≤ j then f (n - 1 - j) else f j) (hj : j < n) :
    va_up (va_up f2 i (f2 (n - 1 - i))) (n - 1 - i) (f2 i) j = if j < i + 1 ∨ n - (i + 1) ≤ j then f (n - 1 - j) else f j := by
  by_cases h1 : j = n - 1 - i
  · subst h1
    rw [va_up_self, if_pos (by omega), ha i (by omega), if_neg (by omega)]
    congr 1; omega
  · rw [va_up_ne _ _ h1]
    by_cases h2 : j = i
    · subst h2
      rw [va_up_self, if_pos (by omega), ha _ (by omega), if_neg (by omega)]
    · rw [va_up_ne _ _ h2, ha j hj]
      by_cases h3 : j < i ∨ n - i ≤ j
      · rw [if_pos h3, if_pos (by omega)]
      · rw [if_neg h3, if_neg (by omega)]

set_option maxHeartbeats 4000000 in
set_option maxRecDepth 100000 in
theorem c_X1_reverseg (l : Launch) (dC : Nat → ClassId) (dI : Nat → Nat → Nat) (cI : ClassId) (h0 q1 L n : Nat) (f : Nat → Nat) (sz : Nat) (hn : n ≤ L) (hL : L < 1000) : Met l yX1_reverse wsX1_reverse ({ frames := 0, cells := 0, slots := 0, locals := 0 } : Room) (va_Pc [.ref h0] (fun U => U.heap.size = sz ∧ va_P (dC, dI) vwCl [(h0, .inr (1, [.ref q1, .int (nI n)])), (q1, .inl (cI, L, .inl (fun j => nI (f j))))] U.heap ∧ va_K (dC, dI) vwCl [(cI, .int)] U ∧ va_D (fun _ => True) [(h0, .inr (1, [.ref q1, .int (nI n)])), (q1, .inl (cI, L, .inl (fun j => nI (f j))))])) (va_Qv (fun (g2 : Nat → Nat) => (∀ j, j < n → g2 j = f (n - 1 - j)) ∧ (∀ j, n ≤ j → g2 j = f j)) (fun (g2 : Nat → Nat) (tS : State) => va_P (dC, dI) vwCl [(h0, .inr (1, [.ref q1, .int (nI n)])), (q1, .inl (cI, L, .inl (fun j => nI (g2 j))))] tS.heap ∧ va_K (dC, dI) vwCl [(cI, .int)] tS ∧ va_D (va_A [(h0, .inr (1, [.ref q1, .int (nI n)])), (q1, .inl (cI, L, .inl (fun j => nI (f j))))] sz) [(h0, .inr (1, [.ref q1, .int (nI n)])), (q1, .inl (cI, L, .inl (fun j => nI (g2 j))))]) (va_A [(h0, .inr (1, [.ref q1, .int (nI n)])), (q1, .inl (cI, L, .inl (fun j => nI (f j))))] sz)) 0 0 (va_A [(h0, .inr (1, [.ref q1, .int (nI n)])), (q1, .inl (cI, L, .inl (fun j => nI (f j))))] sz) := by
  refine Met.ofW (cc := cX1_reverse) (maxL := 3) (ret := none) (by decide) rfl ?_
  intro p e s m args below meth c s₁ B hml hv
  obtain ⟨rfl, hsz, hP, hK, hD0⟩ := hv
  have hx := B.exec
  have hb := B.bytes
  have hr := B.returns
  have hts := atoms_spec (ws := wsX1_reverse) B.pre
  have hown : s.vm.findClass RX1 = some m.cls := findClass_of_methodNamed B.named
  have hlocks := B.notSynchronized
  subst hsz
  have hD := hD0.self (sz := s.heap.size)
  generalize hAe : va_A [(h0, .inr (1, [.ref q1, .int (nI n)])), (q1, .inl (cI, L, .inl (fun j => nI (f j))))] s.heap.size = A at hD ⊢
  have hA : ∀ q : Nat, s.heap.size ≤ q → A q := fun q h => by rw [← hAe]; exact Or.inr h
  have hS : va_S A s.heap s.heap [] := va_S.rf
  have hinX1 : ∀ w ∈ wsX10, w ∈ wsX1_reverse := by decide +kernel
  have hl := lv_entry ([.ref h0]) (n := 3) (Nat.le_of_ble_eq_true rfl)
  rw [lg_entry_eq]
  generalize (lg_sl ([.ref h0]) ++ List.replicate (3 - (lg_sl ([.ref h0])).length) Slot.unset).toArray = ls at hl ⊢
  have hl : lv_has ls 3 [(0, .ref h0)] := hl
  refine lv_iconst (v := (nI 0)) hx hb dX1_reverse_0 (by decide) ?_
  refine lv_istore_n (lv' := [(1, .int (nI 0)), (0, .ref h0)]) hx hb dX1_reverse_1 rfl hl (by decide) rfl (fun ls hl => ?_)
  have LP2 : ∀ (n9 : Nat) (i : Nat) (f2 : Nat → Nat) (hm : (n - i) < n9) (hi : i ≤ n / 2) (ha : ∀ j, j < n → f2 j = if j < i ∨ n - i ≤ j then f (n - 1 - j) else f j) (hb2 : ∀ j, n ≤ j → f2 j = f j) (H : Heap) (locs : List Loc) (ls : Array Slot) (hP : va_P (dC, dI) vwCl [(h0, .inr (1, [.ref q1, .int (nI n)])), (q1, .inl (cI, L, .inl (fun j => nI (f2 j))))] H) (hD : va_D A [(h0, .inr (1, [.ref q1, .int (nI n)])), (q1, .inl (cI, L, .inl (fun j => nI (f2 j))))]) (hS : va_S A s.heap H locs) (hl : lv_has ls 3 [(0, .ref h0), (1, .int (nI i))]), W p l e (headSpec wsX1_reverse ({ frames := 0, cells := 0, slots := 0, locals := 0 } : Room)).room s m ([.ref h0]).toArray below meth c H locs 0 0 (MQ below (va_Qv (fun (g2 : Nat → Nat) => (∀ j, j < n → g2 j = f (n - 1 - j)) ∧ (∀ j, n ≤ j → g2 j = f j)) (fun (g2 : Nat → Nat) (tS : State) => va_P (dC, dI) vwCl [(h0, .inr (1, [.ref q1, .int (nI n)])), (q1, .inl (cI, L, .inl (fun j => nI (g2 j))))] tS.heap ∧ va_K (dC, dI) vwCl [(cI, .int)] tS ∧ va_D A [(h0, .inr (1, [.ref q1, .int (nI n)])), (q1, .inl (cI, L, .inl (fun j => nI (g2 j))))]) A) ([.ref h0]).toArray s 0 0 A) (F0 m 2 ls []) := by
    intro n9
    induction n9 with
    | zero => intro i f2 hm; exact absurd hm (Nat.not_lt_zero _)
    | succ n9 ih =>
      intro i f2 hm hi ha hb2 H locs ls hP hD hS hl
      have ih2 := ih
      refine lv_iload_n hx hb dX1_reverse_2 rfl (lv_at hl 1 rfl) ?_
      refine lv_aload_n hx hb dX1_reverse_3 rfl (lv_at hl 0 rfl) ?_
      refine va_get (D := (dC, dI)) (ci := 1) (v := .int (nI n)) (C := RX1) (T := TX1) (N := 2) hx hb hts hinX1 hown hK hP 0 rfl rfl 1 (by decide) (hts (.fieldLink RX1 19 "NumberContents$Row" "used" "I") (by decide +kernel)) (fun _ h9 => h9) rfl dX1_reverse_4 ?_
      refine lv_iconst (v := 2) hx hb dX1_reverse_7 (by decide) ?_
      refine lv_idiv hx hb dX1_reverse_8 (by decide) ?_
      refine lv_topi (fun x8 e8 => ?_)
      obtain rfl : x8 = nI (n / 2) := e8.trans (nI_d2 (by omega))
      refine lv_icmp_ge (tgt := 58) hx hb dX1_reverse_9 (by decide) (fun c9 => ?_) (fun c9 => ?_)
      · have hP9 := hP.sub (ws' := [(h0, .inr (1, [.ref q1, .int (nI n)])), (q1, .inl (cI, L, .inl (fun j => nI (f2 j))))]) [0, 1] rfl
        have hD9 := hD.sub (ws' := [(h0, .inr (1, [.ref q1, .int (nI n)])), (q1, .inl (cI, L, .inl (fun j => nI (f2 j))))]) [0, 1] (by decide) rfl
        have hK9 := hK.sub (tys' := [(cI, .int)]) [0] rfl
        exact W.vret hx hb hr (fun tS htS hW => ⟨⟨f2, rfl, ⟨fun j h => by have he : i = n / 2 := Nat.le_antisymm hi ((nI_leI (by omega) (by omega)).mp c9); rw [ha j h]; by_cases h3 : j < i ∨ n - i ≤ j; rw [if_pos h3]; rw [if_neg h3]; congr 1; omega, hb2⟩, by rw [htS]; exact hP9, va_K.moved hW.alike hK9, hD9⟩, hS.F htS⟩) hS.2.2 dX1_reverse_58
      · have hlt : i < n / 2 := Nat.lt_of_not_le (fun h => c9 ((nI_leI (by omega) (by omega)).mpr h))
        refine lv_aload_n hx hb dX1_reverse_12 rfl (lv_at hl 0 rfl) ?_
        refine va_get (D := (dC, dI)) (ci := 1) (v := .ref q1) (C := RX1) (T := TX1) (N := 2) hx hb hts hinX1 hown hK hP 0 rfl rfl 0 (by decide) (hts (.fieldLink RX1 13 "NumberContents$Row" "items" "[I") (by decide +kernel)) (fun _ h9 => h9) rfl dX1_reverse_13 ?_
        refine lv_iload_n hx hb dX1_reverse_16 rfl (lv_at hl 1 rfl) ?_
        refine va_iald hx hb hK hP 1 0 rfl rfl (vp_in_nI (by omega) (by omega)) dX1_reverse_17 ?_
        refine lv_topi (fun x17 e17 => ?_)
        obtain rfl : x17 = nI (f2 i) := e17.trans (atg (by omega))
        refine lv_istore_n (lv' := [(2, .int (nI (f2 i))), (0, .ref h0), (1, .int (nI i))]) hx hb dX1_reverse_18 rfl hl (by decide) rfl (fun ls hl => ?_)
        refine lv_aload_n hx hb dX1_reverse_19 rfl (lv_at hl 1 rfl) ?_
        refine va_get (D := (dC, dI)) (ci := 1) (v := .ref q1) (C := RX1) (T := TX1) (N := 2) hx hb hts hinX1 hown hK hP 0 rfl rfl 0 (by decide) (hts (.fieldLink RX1 13 "NumberContents$Row" "items" "[I") (by decide +kernel)) (fun _ h9 => h9) rfl dX1_reverse_20 ?_
        refine lv_iload_n hx hb dX1_reverse_23 rfl (lv_at hl 2 rfl) ?_
        refine lv_aload_n hx hb dX1_reverse_24 rfl (lv_at hl 1 rfl) ?_
        refine va_get (D := (dC, dI)) (ci := 1) (v := .ref q1) (C := RX1) (T := TX1) (N := 2) hx hb hts hinX1 hown hK hP 0 rfl rfl 0 (by decide) (hts (.fieldLink RX1 13 "NumberContents$Row" "items" "[I") (by decide +kernel)) (fun _ h9 => h9) rfl dX1_reverse_25 ?_
        refine lv_aload_n hx hb dX1_reverse_28 rfl (lv_at hl 1 rfl) ?_
        refine va_get (D := (dC, dI)) (ci := 1) (v := .int (nI n)) (C := RX1) (T := TX1) (N := 2) hx hb hts hinX1 hown hK hP 0 rfl rfl 1 (by decide) (hts (.fieldLink RX1 19 "NumberContents$Row" "used" "I") (by decide +kernel)) (fun _ h9 => h9) rfl dX1_reverse_29 ?_
        refine lv_iconst (v := 1) hx hb dX1_reverse_32 (by decide) ?_
        refine lv_isub hx hb dX1_reverse_33 ?_
        refine lv_topi (fun x33 e33 => ?_)
        obtain rfl : x33 = nI (n - 1) := e33.trans (nI_m1 (by omega))
        refine lv_iload_n hx hb dX1_reverse_34 rfl (lv_at hl 2 rfl) ?_
        refine lv_isub hx hb dX1_reverse_35 ?_
        refine lv_topi (fun x35 e35 => ?_)
        obtain rfl : x35 = nI (n - 1 - i) := e35.trans (pk_sub (by omega))
        refine va_iald hx hb hK hP 1 0 rfl rfl (vp_in_nI (by omega) (by omega)) dX1_reverse_36 ?_
        refine lv_topi (fun x36 e36 => ?_)
        obtain rfl : x36 = nI (f2 (n - 1 - i)) := e36.trans (atg (by omega))
        refine va_iast hx hb hK hP hD hS 1 0 rfl rfl (vp_in_nI (by omega) (by omega)) dX1_reverse_37 (fun H locs hP hD hS => ?_)
        have hP : va_P (dC, dI) vwCl [(h0, .inr (1, [.ref q1, .int (nI n)])), (q1, .inl (cI, L, .inl (upd (fun j => nI (f2 j)) (nI i).toNatClampNeg (nI (f2 (n - 1 - i))))))] H := hP
        have hD : va_D A [(h0, .inr (1, [.ref q1, .int (nI n)])), (q1, .inl (cI, L, .inl (upd (fun j => nI (f2 j)) (nI i).toNatClampNeg (nI (f2 (n - 1 - i))))))] := hD
        obtain ⟨f37, e37⟩ : ∃ zz9 : Nat → Int32, zz9 = upd (fun j => nI (f2 j)) (nI i).toNatClampNeg (nI (f2 (n - 1 - i))) := ⟨_, rfl⟩
        rw [← e37] at hP hD
        obtain rfl : f37 = fun j => nI (va_up f2 i (f2 (n - 1 - i)) j) := e37.trans (upg (by omega))
        refine lv_aload_n hx hb dX1_reverse_38 rfl (lv_at hl 1 rfl) ?_
        refine va_get (D := (dC, dI)) (ci := 1) (v := .ref q1) (C := RX1) (T := TX1) (N := 2) hx hb hts hinX1 hown hK hP 0 rfl rfl 0 (by decide) (hts (.fieldLink RX1 13 "NumberContents$Row" "items" "[I") (by decide +kernel)) (fun _ h9 => h9) rfl dX1_reverse_39 ?_
        refine lv_aload_n hx hb dX1_reverse_42 rfl (lv_at hl 1 rfl) ?_
        refine va_get (D := (dC, dI)) (ci := 1) (v := .int (nI n)) (C := RX1) (T := TX1) (N := 2) hx hb hts hinX1 hown hK hP 0 rfl rfl 1 (by decide) (hts (.fieldLink RX1 19 "NumberContents$Row" "used" "I") (by decide +kernel)) (fun _ h9 => h9) rfl dX1_reverse_43 ?_
        refine lv_iconst (v := 1) hx hb dX1_reverse_46 (by decide) ?_
        refine lv_isub hx hb dX1_reverse_47 ?_
        refine lv_topi (fun x47 e47 => ?_)
        obtain rfl : x47 = nI (n - 1) := e47.trans (nI_m1 (by omega))
        refine lv_iload_n hx hb dX1_reverse_48 rfl (lv_at hl 2 rfl) ?_
        refine lv_isub hx hb dX1_reverse_49 ?_
        refine lv_topi (fun x49 e49 => ?_)
        obtain rfl : x49 = nI (n - 1 - i) := e49.trans (pk_sub (by omega))
        refine lv_iload_n hx hb dX1_reverse_50 rfl (lv_at hl 0 rfl) ?_
        refine va_iast hx hb hK hP hD hS 1 0 rfl rfl (vp_in_nI (by omega) (by omega)) dX1_reverse_51 (fun H locs hP hD hS => ?_)
        have hP : va_P (dC, dI) vwCl [(h0, .inr (1, [.ref q1, .int (nI n)])), (q1, .inl (cI, L, .inl (upd (fun j => nI (va_up f2 i (f2 (n - 1 - i)) j)) (nI (n - 1 - i)).toNatClampNeg (nI (f2 i)))))] H := hP
        have hD : va_D A [(h0, .inr (1, [.ref q1, .int (nI n)])), (q1, .inl (cI, L, .inl (upd (fun j => nI (va_up f2 i (f2 (n - 1 - i)) j)) (nI (n - 1 - i)).toNatClampNeg (nI (f2 i)))))] := hD
        obtain ⟨f51, e51⟩ : ∃ zz9 : Nat → Int32, zz9 = upd (fun j => nI (va_up f2 i (f2 (n - 1 - i)) j)) (nI (n - 1 - i)).toNatClampNeg (nI (f2 i)) := ⟨_, rfl⟩
        rw [← e51] at hP hD
        obtain rfl : f51 = fun j => nI (va_up (va_up f2 i (f2 (n - 1 - i))) (n - 1 - i) (f2 i) j) := e51.trans (upg (by omega))
        obtain ⟨x52, e52⟩ : ∃ zz9 : Int32, zz9 = (nI i) + 1 := ⟨_, rfl⟩
        refine lv_iinc (v := x52) (lv' := [(1, .int x52), (2, .int (nI (f2 i))), (0, .ref h0)]) hx hb dX1_reverse_52 hl (k := 2) rfl (by rw [e52]; rfl) (by decide) rfl (fun ls hl => ?_)
        obtain rfl : x52 = nI (i + 1) := e52.trans (nI_1 i)
        refine lv_goto (tgt := 2) hx hb dX1_reverse_55 (by decide) ?_
        exact ih2 (i + 1) (va_up (va_up f2 i (f2 (n - 1 - i))) (n - 1 - i) (f2 i)) (by omega) (by omega) (fun j h => rv_stepg hlt ha h) (fun j h => by rw [va_up_ne _ _ (by omega), va_up_ne _ _ (by omega)]; exact hb2 j h) _ _ _ (hP.sub [0, 1] rfl) (hD.sub [0, 1] (by decide) rfl) hS (lv_sub hl [2, 0] rfl)
  exact LP2 _ 0 f (Nat.lt_succ_self _) (by omega) (fun j h => by rw [if_neg (by omega)]) (fun j h => rfl) _ _ _ (hP.sub [0, 1] rfl) (hD.sub [0, 1] (by decide) rfl) hS (lv_sub hl [1, 0] rfl)

