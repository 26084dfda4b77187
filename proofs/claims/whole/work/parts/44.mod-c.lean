theorem tn_step {wn i f0 : Nat} {f f2 : Nat → Nat} (hi1 : f0 ≤ i) (hlt : i < wn - 1 - (i - f0)) (ha : ∀ j, f0 ≤ j → j < wn → f2 j = if j < i ∨ wn - (i - f0) ≤ j then f (wn - 1 - (j - f0)) else f j) :
    ∀ j, f0 ≤ j → j < wn → va_up (va_up f2 i (f2 (wn - 1 - (i - f0)))) (wn - 1 - (i - f0)) (f2 i) j = if j < i + 1 ∨ wn - (i + 1 - f0) ≤ j then f (wn - 1 - (j - f0)) else f j := by
  intro j hj0 hj
  by_cases h1 : j = wn - 1 - (i - f0)
  · subst h1
    rw [va_up_self, if_pos (by omega), ha i (by omega) (by omega), if_neg (by omega)]
    congr 1; omega
  · rw [va_up_ne _ _ h1]
    by_cases h2 : j = i
    · subst h2
      rw [va_up_self, if_pos (by omega), ha _ (by omega) (by omega), if_neg (by omega)]
    · rw [va_up_ne _ _ h2, ha j hj0 hj]
      by_cases h3 : j < i ∨ wn - (i - f0) ≤ j
      · rw [if_pos h3, if_pos (by omega)]
      · rw [if_neg h3, if_neg (by omega)]

set_option maxHeartbeats 4000000 in
set_option maxRecDepth 100000 in
theorem c_X4_turn (l : Launch) (dC : Nat → ClassId) (dI : Nat → Nat → Nat) (cI : ClassId) (mx m5 m6 m7 m8 m9 m10 m11 n dn bn wn : Nat) (th : Int32) (wr : Nat → Nat) (f0 : Nat) (sz : Nat) (hwn : f0 + 1 ≤ wn ∧ wn ≤ 490) (hwr : ∀ j, wr j < 256) : Met l yX4_turn wsX4_turn ({ frames := 0, cells := 0, slots := 0, locals := 0 } : Room) (va_Pc [.ref mx, .int (nI f0)] (fun U => U.heap.size = sz ∧ va_P (dC, dI) vwCl [(mx, .inr (4, [.int th, .int (nI n), .int (nI dn), .int (nI bn), .int (nI wn), .ref m5, .ref m6, .ref m7, .ref m8, .ref m9, .ref m10, .ref m11])), (m8, .inl (cI, 500, .inl (fun j => nI (wr j))))] U.heap ∧ va_K (dC, dI) vwCl [(cI, .int)] U ∧ va_D (fun _ => True) [(mx, .inr (4, [.int th, .int (nI n), .int (nI dn), .int (nI bn), .int (nI wn), .ref m5, .ref m6, .ref m7, .ref m8, .ref m9, .ref m10, .ref m11])), (m8, .inl (cI, 500, .inl (fun j => nI (wr j))))])) (va_Qv (fun (g2 : Nat → Nat) => (∀ j, g2 j < 256) ∧ (∀ j, j < f0 → g2 j = wr j) ∧ (∀ j, f0 ≤ j → j < wn → g2 j = wr (wn - 1 - (j - f0))) ∧ (∀ j, wn ≤ j → g2 j = wr j)) (fun (g2 : Nat → Nat) (tS : State) => va_P (dC, dI) vwCl [(mx, .inr (4, [.int th, .int (nI n), .int (nI dn), .int (nI bn), .int (nI wn), .ref m5, .ref m6, .ref m7, .ref m8, .ref m9, .ref m10, .ref m11])), (m8, .inl (cI, 500, .inl (fun j => nI (g2 j))))] tS.heap ∧ va_K (dC, dI) vwCl [(cI, .int)] tS ∧ va_D (va_A [(mx, .inr (4, [.int th, .int (nI n), .int (nI dn), .int (nI bn), .int (nI wn), .ref m5, .ref m6, .ref m7, .ref m8, .ref m9, .ref m10, .ref m11])), (m8, .inl (cI, 500, .inl (fun j => nI (wr j))))] sz) [(mx, .inr (4, [.int th, .int (nI n), .int (nI dn), .int (nI bn), .int (nI wn), .ref m5, .ref m6, .ref m7, .ref m8, .ref m9, .ref m10, .ref m11])), (m8, .inl (cI, 500, .inl (fun j => nI (g2 j))))]) (va_A [(mx, .inr (4, [.int th, .int (nI n), .int (nI dn), .int (nI bn), .int (nI wn), .ref m5, .ref m6, .ref m7, .ref m8, .ref m9, .ref m10, .ref m11])), (m8, .inl (cI, 500, .inl (fun j => nI (wr j))))] sz)) 0 0 (va_A [(mx, .inr (4, [.int th, .int (nI n), .int (nI dn), .int (nI bn), .int (nI wn), .ref m5, .ref m6, .ref m7, .ref m8, .ref m9, .ref m10, .ref m11])), (m8, .inl (cI, 500, .inl (fun j => nI (wr j))))] sz) := by
  refine Met.ofW (cc := cX4_turn) (maxL := 5) (ret := none) (by decide) rfl ?_
  intro p e s m args below meth c s₁ B hml hv
  obtain ⟨rfl, hsz, hP, hK, hD0⟩ := hv
  have hx := B.exec
  have hb := B.bytes
  have hr := B.returns
  have hts := atoms_spec (ws := wsX4_turn) B.pre
  have hown : s.vm.findClass RX4 = some m.cls := findClass_of_methodNamed B.named
  have hlocks := B.notSynchronized
  subst hsz
  have hD := hD0.self (sz := s.heap.size)
  generalize hAe : va_A [(mx, .inr (4, [.int th, .int (nI n), .int (nI dn), .int (nI bn), .int (nI wn), .ref m5, .ref m6, .ref m7, .ref m8, .ref m9, .ref m10, .ref m11])), (m8, .inl (cI, 500, .inl (fun j => nI (wr j))))] s.heap.size = A at hD ⊢
  have hA : ∀ q : Nat, s.heap.size ≤ q → A q := fun q h => by rw [← hAe]; exact Or.inr h
  have hS : va_S A s.heap s.heap [] := va_S.rf
  have hinX4 : ∀ w ∈ wsX40, w ∈ wsX4_turn := by decide +kernel
  have hl := lv_entry ([.ref mx, .int (nI f0)]) (n := 5) (Nat.le_of_ble_eq_true rfl)
  rw [lg_entry_eq]
  generalize (lg_sl ([.ref mx, .int (nI f0)]) ++ List.replicate (5 - (lg_sl ([.ref mx, .int (nI f0)])).length) Slot.unset).toArray = ls at hl ⊢
  have hl : lv_has ls 5 [(0, .ref mx), (1, .int (nI f0))] := hl
  refine lv_iload_n hx hb dX4_turn_0 rfl (lv_at hl 1 rfl) ?_
  refine lv_istore_n (lv' := [(2, .int (nI f0)), (0, .ref mx), (1, .int (nI f0))]) hx hb dX4_turn_1 rfl hl (by decide) rfl (fun ls hl => ?_)
  have LP2 : ∀ (n9 : Nat) (i : Nat) (f2 : Nat → Nat) (hm : (wn - i) < n9) (hi1 : f0 ≤ i) (hi : i - f0 ≤ (wn - f0) / 2) (hp : ∀ j, j < f0 → f2 j = wr j) (ha2 : ∀ j, f0 ≤ j → j < wn → f2 j = if j < i ∨ wn - (i - f0) ≤ j then wr (wn - 1 - (j - f0)) else wr j) (hb2 : ∀ j, wn ≤ j → f2 j = wr j) (hf2 : ∀ j, f2 j < 256) (H : Heap) (locs : List Loc) (ls : Array Slot) (hP : va_P (dC, dI) vwCl [(mx, .inr (4, [.int th, .int (nI n), .int (nI dn), .int (nI bn), .int (nI wn), .ref m5, .ref m6, .ref m7, .ref m8, .ref m9, .ref m10, .ref m11])), (m8, .inl (cI, 500, .inl (fun j => nI (f2 j))))] H) (hD : va_D A [(mx, .inr (4, [.int th, .int (nI n), .int (nI dn), .int (nI bn), .int (nI wn), .ref m5, .ref m6, .ref m7, .ref m8, .ref m9, .ref m10, .ref m11])), (m8, .inl (cI, 500, .inl (fun j => nI (f2 j))))]) (hS : va_S A s.heap H locs) (hl : lv_has ls 5 [(0, .ref mx), (1, .int (nI f0)), (2, .int (nI i))]), W p l e (headSpec wsX4_turn ({ frames := 0, cells := 0, slots := 0, locals := 0 } : Room)).room s m ([.ref mx, .int (nI f0)]).toArray below meth c H locs 0 0 (MQ below (va_Qv (fun (g2 : Nat → Nat) => (∀ j, g2 j < 256) ∧ (∀ j, j < f0 → g2 j = wr j) ∧ (∀ j, f0 ≤ j → j < wn → g2 j = wr (wn - 1 - (j - f0))) ∧ (∀ j, wn ≤ j → g2 j = wr j)) (fun (g2 : Nat → Nat) (tS : State) => va_P (dC, dI) vwCl [(mx, .inr (4, [.int th, .int (nI n), .int (nI dn), .int (nI bn), .int (nI wn), .ref m5, .ref m6, .ref m7, .ref m8, .ref m9, .ref m10, .ref m11])), (m8, .inl (cI, 500, .inl (fun j => nI (g2 j))))] tS.heap ∧ va_K (dC, dI) vwCl [(cI, .int)] tS ∧ va_D A [(mx, .inr (4, [.int th, .int (nI n), .int (nI dn), .int (nI bn), .int (nI wn), .ref m5, .ref m6, .ref m7, .ref m8, .ref m9, .ref m10, .ref m11])), (m8, .inl (cI, 500, .inl (fun j => nI (g2 j))))]) A) ([.ref mx, .int (nI f0)]).toArray s 0 0 A) (F0 m 2 ls []) := by
    intro n9
    induction n9 with
    | zero => intro i f2 hm; exact absurd hm (Nat.not_lt_zero _)
    | succ n9 ih =>
      intro i f2 hm hi1 hi hp ha2 hb2 hf2 H locs ls hP hD hS hl
      have ih2 := ih
      refine lv_iload_n hx hb dX4_turn_2 rfl (lv_at hl 2 rfl) ?_
      refine lv_aload_n hx hb dX4_turn_3 rfl (lv_at hl 0 rfl) ?_
      refine va_get (D := (dC, dI)) (ci := 4) (v := .int (nI wn)) (C := RX4) (T := TX4) (N := 12) hx hb hts hinX4 hown hK hP 0 rfl rfl 4 (by decide) (hts (.fieldLink RX4 75 "NumberContentsModel" "outMany" "I") (by decide +kernel)) (fun _ h9 => h9) rfl dX4_turn_4 ?_
      refine lv_iconst (v := 1) hx hb dX4_turn_7 (by decide) ?_
      refine lv_isub hx hb dX4_turn_8 ?_
      refine lv_topi (fun x8 e8 => ?_)
      obtain rfl : x8 = nI (wn - 1) := e8.trans (nI_m1 (by omega))
      refine lv_iload_n hx hb dX4_turn_9 rfl (lv_at hl 2 rfl) ?_
      refine lv_iload_n hx hb dX4_turn_10 rfl (lv_at hl 1 rfl) ?_
      refine lv_isub hx hb dX4_turn_11 ?_
      refine lv_topi (fun x11 e11 => ?_)
      obtain rfl : x11 = nI (i - f0) := e11.trans (pk_sub (by omega))
      refine lv_isub hx hb dX4_turn_12 ?_
      refine lv_topi (fun x12 e12 => ?_)
      obtain rfl : x12 = nI (wn - 1 - (i - f0)) := e12.trans (pk_sub (by omega))
      refine lv_icmp_ge (tgt := 61) hx hb dX4_turn_13 (by decide) (fun c13 => ?_) (fun c13 => ?_)
      · have hP9 := hP.sub (ws' := [(mx, .inr (4, [.int th, .int (nI n), .int (nI dn), .int (nI bn), .int (nI wn), .ref m5, .ref m6, .ref m7, .ref m8, .ref m9, .ref m10, .ref m11])), (m8, .inl (cI, 500, .inl (fun j => nI (f2 j))))]) [0, 1] rfl
        have hD9 := hD.sub (ws' := [(mx, .inr (4, [.int th, .int (nI n), .int (nI dn), .int (nI bn), .int (nI wn), .ref m5, .ref m6, .ref m7, .ref m8, .ref m9, .ref m10, .ref m11])), (m8, .inl (cI, 500, .inl (fun j => nI (f2 j))))]) [0, 1] (by decide) rfl
        have hK9 := hK.sub (tys' := [(cI, .int)]) [0] rfl
        exact W.vret hx hb hr (fun tS htS hW => ⟨⟨f2, rfl, (by have hge : wn - 1 - (i - f0) ≤ i := (nI_leI (by omega) (by omega)).mp c13; exact ⟨hf2, hp, fun j h h2 => (by rw [ha2 j h h2]; by_cases h3 : j < i ∨ wn - (i - f0) ≤ j; rw [if_pos h3]; rw [if_neg h3]; congr 1; omega), hb2⟩), by rw [htS]; exact hP9, va_K.moved hW.alike hK9, hD9⟩, hS.F htS⟩) hS.2.2 dX4_turn_61
      · have hlt : i < wn - 1 - (i - f0) := Nat.lt_of_not_le (fun h => c13 (nI_le h (by omega)))
        refine lv_aload_n hx hb dX4_turn_16 rfl (lv_at hl 0 rfl) ?_
        refine va_get (D := (dC, dI)) (ci := 4) (v := .int (nI wn)) (C := RX4) (T := TX4) (N := 12) hx hb hts hinX4 hown hK hP 0 rfl rfl 4 (by decide) (hts (.fieldLink RX4 75 "NumberContentsModel" "outMany" "I") (by decide +kernel)) (fun _ h9 => h9) rfl dX4_turn_17 ?_
        refine lv_iconst (v := 1) hx hb dX4_turn_20 (by decide) ?_
        refine lv_isub hx hb dX4_turn_21 ?_
        refine lv_topi (fun x21 e21 => ?_)
        obtain rfl : x21 = nI (wn - 1) := e21.trans (nI_m1 (by omega))
        refine lv_iload_n hx hb dX4_turn_22 rfl (lv_at hl 2 rfl) ?_
        refine lv_iload_n hx hb dX4_turn_23 rfl (lv_at hl 1 rfl) ?_
        refine lv_isub hx hb dX4_turn_24 ?_
        refine lv_topi (fun x24 e24 => ?_)
        obtain rfl : x24 = nI (i - f0) := e24.trans (pk_sub (by omega))
        refine lv_isub hx hb dX4_turn_25 ?_
        refine lv_topi (fun x25 e25 => ?_)
        obtain rfl : x25 = nI (wn - 1 - (i - f0)) := e25.trans (pk_sub (by omega))
        refine lv_istore_n (lv' := [(3, .int (nI (wn - 1 - (i - f0)))), (0, .ref mx), (1, .int (nI f0)), (2, .int (nI i))]) hx hb dX4_turn_26 rfl hl (by decide) rfl (fun ls hl => ?_)
        refine lv_aload_n hx hb dX4_turn_27 rfl (lv_at hl 1 rfl) ?_
        refine va_get (D := (dC, dI)) (ci := 4) (v := .ref m8) (C := RX4) (T := TX4) (N := 12) hx hb hts hinX4 hown hK hP 0 rfl rfl 8 (by decide) (hts (.fieldLink RX4 19 "NumberContentsModel" "out" "[I") (by decide +kernel)) (fun _ h9 => h9) rfl dX4_turn_28 ?_
        refine lv_iload_n hx hb dX4_turn_31 rfl (lv_at hl 3 rfl) ?_
        refine va_iald hx hb hK hP 1 0 rfl rfl (vp_in_nI (by omega) (by omega)) dX4_turn_32 ?_
        refine lv_topi (fun x32 e32 => ?_)
        obtain rfl : x32 = nI (f2 i) := e32.trans (atg (by omega))
        refine lv_istore (lv' := [(4, .int (nI (f2 i))), (3, .int (nI (wn - 1 - (i - f0)))), (0, .ref mx), (1, .int (nI f0)), (2, .int (nI i))]) hx hb dX4_turn_33 hl (by decide) rfl (fun ls hl => ?_)
        refine lv_aload_n hx hb dX4_turn_35 rfl (lv_at hl 2 rfl) ?_
        refine va_get (D := (dC, dI)) (ci := 4) (v := .ref m8) (C := RX4) (T := TX4) (N := 12) hx hb hts hinX4 hown hK hP 0 rfl rfl 8 (by decide) (hts (.fieldLink RX4 19 "NumberContentsModel" "out" "[I") (by decide +kernel)) (fun _ h9 => h9) rfl dX4_turn_36 ?_
        refine lv_iload_n hx hb dX4_turn_39 rfl (lv_at hl 4 rfl) ?_
        refine lv_aload_n hx hb dX4_turn_40 rfl (lv_at hl 2 rfl) ?_
        refine va_get (D := (dC, dI)) (ci := 4) (v := .ref m8) (C := RX4) (T := TX4) (N := 12) hx hb hts hinX4 hown hK hP 0 rfl rfl 8 (by decide) (hts (.fieldLink RX4 19 "NumberContentsModel" "out" "[I") (by decide +kernel)) (fun _ h9 => h9) rfl dX4_turn_41 ?_
        refine lv_iload_n hx hb dX4_turn_44 rfl (lv_at hl 1 rfl) ?_
        refine va_iald hx hb hK hP 1 0 rfl rfl (vp_in_nI (by omega) (by omega)) dX4_turn_45 ?_
        refine lv_topi (fun x45 e45 => ?_)
        obtain rfl : x45 = nI (f2 (wn - 1 - (i - f0))) := e45.trans (atg (by omega))
        refine va_iast hx hb hK hP hD hS 1 0 rfl rfl (vp_in_nI (by omega) (by omega)) dX4_turn_46 (fun H locs hP hD hS => ?_)
        have hP : va_P (dC, dI) vwCl [(mx, .inr (4, [.int th, .int (nI n), .int (nI dn), .int (nI bn), .int (nI wn), .ref m5, .ref m6, .ref m7, .ref m8, .ref m9, .ref m10, .ref m11])), (m8, .inl (cI, 500, .inl (upd (fun j => nI (f2 j)) (nI i).toNatClampNeg (nI (f2 (wn - 1 - (i - f0)))))))] H := hP
        have hD : va_D A [(mx, .inr (4, [.int th, .int (nI n), .int (nI dn), .int (nI bn), .int (nI wn), .ref m5, .ref m6, .ref m7, .ref m8, .ref m9, .ref m10, .ref m11])), (m8, .inl (cI, 500, .inl (upd (fun j => nI (f2 j)) (nI i).toNatClampNeg (nI (f2 (wn - 1 - (i - f0)))))))] := hD
        obtain ⟨f46, e46⟩ : ∃ zz9 : Nat → Int32, zz9 = upd (fun j => nI (f2 j)) (nI i).toNatClampNeg (nI (f2 (wn - 1 - (i - f0)))) := ⟨_, rfl⟩
        rw [← e46] at hP hD
        obtain rfl : f46 = fun j => nI (va_up f2 i (f2 (wn - 1 - (i - f0))) j) := e46.trans (upg (by omega))
        refine lv_aload_n hx hb dX4_turn_47 rfl (lv_at hl 2 rfl) ?_
        refine va_get (D := (dC, dI)) (ci := 4) (v := .ref m8) (C := RX4) (T := TX4) (N := 12) hx hb hts hinX4 hown hK hP 0 rfl rfl 8 (by decide) (hts (.fieldLink RX4 19 "NumberContentsModel" "out" "[I") (by decide +kernel)) (fun _ h9 => h9) rfl dX4_turn_48 ?_
        refine lv_iload_n hx hb dX4_turn_51 rfl (lv_at hl 1 rfl) ?_
        refine lv_iload hx hb dX4_turn_52 (lv_at hl 0 rfl) ?_
        refine va_iast hx hb hK hP hD hS 1 0 rfl rfl (vp_in_nI (by omega) (by omega)) dX4_turn_54 (fun H locs hP hD hS => ?_)
        have hP : va_P (dC, dI) vwCl [(mx, .inr (4, [.int th, .int (nI n), .int (nI dn), .int (nI bn), .int (nI wn), .ref m5, .ref m6, .ref m7, .ref m8, .ref m9, .ref m10, .ref m11])), (m8, .inl (cI, 500, .inl (upd (fun j => nI (va_up f2 i (f2 (wn - 1 - (i - f0))) j)) (nI (wn - 1 - (i - f0))).toNatClampNeg (nI (f2 i)))))] H := hP
        have hD : va_D A [(mx, .inr (4, [.int th, .int (nI n), .int (nI dn), .int (nI bn), .int (nI wn), .ref m5, .ref m6, .ref m7, .ref m8, .ref m9, .ref m10, .ref m11])), (m8, .inl (cI, 500, .inl (upd (fun j => nI (va_up f2 i (f2 (wn - 1 - (i - f0))) j)) (nI (wn - 1 - (i - f0))).toNatClampNeg (nI (f2 i)))))] := hD
        obtain ⟨f54, e54⟩ : ∃ zz9 : Nat → Int32, zz9 = upd (fun j => nI (va_up f2 i (f2 (wn - 1 - (i - f0))) j)) (nI (wn - 1 - (i - f0))).toNatClampNeg (nI (f2 i)) := ⟨_, rfl⟩
        rw [← e54] at hP hD
        obtain rfl : f54 = fun j => nI (va_up (va_up f2 i (f2 (wn - 1 - (i - f0)))) (wn - 1 - (i - f0)) (f2 i) j) := e54.trans (upg (by omega))
        obtain ⟨x55, e55⟩ : ∃ zz9 : Int32, zz9 = (nI i) + 1 := ⟨_, rfl⟩
        refine lv_iinc (v := x55) (lv' := [(2, .int x55), (4, .int (nI (f2 i))), (3, .int (nI (wn - 1 - (i - f0)))), (0, .ref mx), (1, .int (nI f0))]) hx hb dX4_turn_55 hl (k := 4) rfl (by rw [e55]; rfl) (by decide) rfl (fun ls hl => ?_)
        obtain rfl : x55 = nI (i + 1) := e55.trans (nI_1 i)
        refine lv_goto (tgt := 2) hx hb dX4_turn_58 (by decide) ?_
        exact ih2 (i + 1) (va_up (va_up f2 i (f2 (wn - 1 - (i - f0)))) (wn - 1 - (i - f0)) (f2 i)) (by omega) (by omega) (by omega) (fun j h => by rw [va_up_ne _ _ (by omega), va_up_ne _ _ (by omega)]; exact hp j h) (tn_step hi1 hlt ha2) (fun j h => by rw [va_up_ne _ _ (by omega), va_up_ne _ _ (by omega)]; exact hb2 j h) (up_lt (up_lt hf2 (hf2 _)) (hf2 _)) _ _ _ (hP.sub [0, 1] rfl) (hD.sub [0, 1] (by decide) rfl) hS (lv_sub hl [3, 4, 0] rfl)
  exact LP2 _ f0 wr (Nat.lt_succ_self _) (by omega) (by omega) (fun j h => rfl) (fun j h h2 => by rw [if_neg (by omega)]) (fun j h => rfl) hwr _ _ _ (hP.sub [0, 1] rfl) (hD.sub [0, 1] (by decide) rfl) hS (lv_sub hl [1, 2, 0] rfl)

set_option maxHeartbeats 4000000 in
set_option maxRecDepth 100000 in
theorem c_X4_size (l : Launch) (dC : Nat → ClassId) (dI : Nat → Nat → Nat) (cI : ClassId) (mx m5 m6 m7 m8 m9 m10 m11 n dn bn wn : Nat) (th : Int32) (g z : Nat → Nat) (a9 : Int32) (sz : Nat) (hI : XM n g z) : Met l yX4_size wsX4_size ({ frames := 1, cells := 0, slots := 0, locals := 21 } : Room) (va_Pc [.ref mx, .int a9] (fun U => U.heap.size = sz ∧ va_P (dC, dI) vwCl [(mx, .inr (4, [.int th, .int (nI n), .int (nI dn), .int (nI bn), .int (nI wn), .ref m5, .ref m6, .ref m7, .ref m8, .ref m9, .ref m10, .ref m11])), (m5, .inl (cI, 40, .inl (fun j => nI (z j))))] U.heap ∧ va_K (dC, dI) vwCl [(cI, .int)] U ∧ va_D (fun _ => True) [(mx, .inr (4, [.int th, .int (nI n), .int (nI dn), .int (nI bn), .int (nI wn), .ref m5, .ref m6, .ref m7, .ref m8, .ref m9, .ref m10, .ref m11])), (m5, .inl (cI, 40, .inl (fun j => nI (z j))))])) (va_Qi (fun (r : Int32) (th3 : Int32) => (th3 = 0 ∧ ∃ aA, a9 = nI aA ∧ aA < n ∧ r = nI (z aA)) ∨ (th3 = 1 ∧ ¬ vp_in a9 n)) (fun (th3 : Int32) (tS : State) => va_P (dC, dI) vwCl [(mx, .inr (4, [.int th3, .int (nI n), .int (nI dn), .int (nI bn), .int (nI wn), .ref m5, .ref m6, .ref m7, .ref m8, .ref m9, .ref m10, .ref m11])), (m5, .inl (cI, 40, .inl (fun j => nI (z j))))] tS.heap ∧ va_K (dC, dI) vwCl [(cI, .int)] tS ∧ va_D (va_A [(mx, .inr (4, [.int th, .int (nI n), .int (nI dn), .int (nI bn), .int (nI wn), .ref m5, .ref m6, .ref m7, .ref m8, .ref m9, .ref m10, .ref m11])), (m5, .inl (cI, 40, .inl (fun j => nI (z j))))] sz) [(mx, .inr (4, [.int th3, .int (nI n), .int (nI dn), .int (nI bn), .int (nI wn), .ref m5, .ref m6, .ref m7, .ref m8, .ref m9, .ref m10, .ref m11])), (m5, .inl (cI, 40, .inl (fun j => nI (z j))))]) (va_A [(mx, .inr (4, [.int th, .int (nI n), .int (nI dn), .int (nI bn), .int (nI wn), .ref m5, .ref m6, .ref m7, .ref m8, .ref m9, .ref m10, .ref m11])), (m5, .inl (cI, 40, .inl (fun j => nI (z j))))] sz)) 0 0 (va_A [(mx, .inr (4, [.int th, .int (nI n), .int (nI dn), .int (nI bn), .int (nI wn), .ref m5, .ref m6, .ref m7, .ref m8, .ref m9, .ref m10, .ref m11])), (m5, .inl (cI, 40, .inl (fun j => nI (z j))))] sz) := by
  refine Met.ofW (cc := cX4_size) (maxL := 2) (ret := (some .int)) (by decide) rfl ?_
  intro p e s m args below meth c s₁ B hml hv
  obtain ⟨rfl, hsz, hP, hK, hD0⟩ := hv
  have hx := B.exec
  have hb := B.bytes
  have hr := B.returns
  have hts := atoms_spec (ws := wsX4_size) B.pre
  have hown : s.vm.findClass RX4 = some m.cls := findClass_of_methodNamed B.named
  have hlocks := B.notSynchronized
  subst hsz
  have hD := hD0.self (sz := s.heap.size)
  generalize hAe : va_A [(mx, .inr (4, [.int th, .int (nI n), .int (nI dn), .int (nI bn), .int (nI wn), .ref m5, .ref m6, .ref m7, .ref m8, .ref m9, .ref m10, .ref m11])), (m5, .inl (cI, 40, .inl (fun j => nI (z j))))] s.heap.size = A at hD ⊢
  have hA : ∀ q : Nat, s.heap.size ≤ q → A q := fun q h => by rw [← hAe]; exact Or.inr h
  have hS : va_S A s.heap s.heap [] := va_S.rf
  have hinX4 : ∀ w ∈ wsX40, w ∈ wsX4_size := by decide +kernel
  have hl := lv_entry ([.ref mx, .int a9]) (n := 2) (Nat.le_of_ble_eq_true rfl)
  rw [lg_entry_eq]
  generalize (lg_sl ([.ref mx, .int a9]) ++ List.replicate (2 - (lg_sl ([.ref mx, .int a9])).length) Slot.unset).toArray = ls at hl ⊢
  have hl : lv_has ls 2 [(0, .ref mx), (1, .int a9)] := hl
  obtain ⟨hg, hn, hz, hq⟩ := id hI
  refine lv_aload_n hx hb dX4_size_0 rfl (lv_at hl 0 rfl) ?_
  refine lv_aload_n hx hb dX4_size_1 rfl (lv_at hl 0 rfl) ?_
  refine lv_iload_n hx hb dX4_size_2 rfl (lv_at hl 1 rfl) ?_
  have hPc := hP.sub (ws' := [(mx, .inr (4, [.int th, .int (nI n), .int (nI dn), .int (nI bn), .int (nI wn), .ref m5, .ref m6, .ref m7, .ref m8, .ref m9, .ref m10, .ref m11]))]) [0] rfl
  have hKc := hK.sub (tys' := []) [] rfl
  refine vp_callSi (W.runV (As := [.int a9]) (rest := [.ref mx]) ⟨hx, hb, hml, hown, hts⟩ (c_X4_isPlace l dC dI cI mx m5 m6 m7 m8 m9 m10 m11 n dn bn wn th a9 hn) (cwV 1 hts gX4_size_X4_isPlace rfl rfl rfl (by decide +kernel) ⟨Nat.le_of_ble_eq_true rfl, Nat.le_of_ble_eq_true rfl⟩) ⟨fun a U g mk q => by obtain ⟨q0, qP, qK⟩ := q; exact ⟨q0, qP, va_K.moved (u := U) (U := U.calling g mk a) (Vm.Alike.refl U.vm) qK⟩, va_recv hK hP (ci := 4) (q0 := 0) rfl rfl, fun U hU hW => ⟨rfl, by rw [hU]; exact hPc, va_K.moved hW.alike hKc⟩⟩ rfl rfl hl.1 rfl (lv_room (Nat.le_of_ble_eq_true rfl)) dX4_size_3 ⟨Nat.le_of_ble_eq_true rfl, Nat.le_of_ble_eq_true rfl⟩) (fun r3 h3 => ?_)
  refine lv_if_ne (tgt := 13) hx hb dX4_size_6 (by decide) (fun c6 => ?_) (fun c6 => ?_)
  · refine lv_iconst (v := 0) hx hb dX4_size_13 (by decide) ?_
    refine va_put (D := (dC, dI)) (ci := 4) (v := .int 0) (ty := .int) (C := RX4) (T := TX4) (N := 12) hx hb hts hinX4 tyX4 tyX4_ok nmX4 hown hK hP hD hS 0 rfl rfl 0 (by decide) (hts (.fieldLink RX4 32 "NumberContentsModel" "thrown" "I") (by decide +kernel)) (fun _ h9 => h9) rfl (by decide +kernel) rfl rfl (Nat.le_of_ble_eq_true rfl) dX4_size_14 (fun H locs hP hD hS => ?_)
    have hP : va_P (dC, dI) vwCl [(mx, .inr (4, [.int 0, .int (nI n), .int (nI dn), .int (nI bn), .int (nI wn), .ref m5, .ref m6, .ref m7, .ref m8, .ref m9, .ref m10, .ref m11])), (m5, .inl (cI, 40, .inl (fun j => nI (z j))))] H := hP
    have hD : va_D A [(mx, .inr (4, [.int 0, .int (nI n), .int (nI dn), .int (nI bn), .int (nI wn), .ref m5, .ref m6, .ref m7, .ref m8, .ref m9, .ref m10, .ref m11])), (m5, .inl (cI, 40, .inl (fun j => nI (z j))))] := hD
    refine lv_aload_n hx hb dX4_size_17 rfl (lv_at hl 0 rfl) ?_
    refine va_get (D := (dC, dI)) (ci := 4) (v := .int 0) (C := RX4) (T := TX4) (N := 12) hx hb hts hinX4 hown hK hP 0 rfl rfl 0 (by decide) (hts (.fieldLink RX4 32 "NumberContentsModel" "thrown" "I") (by decide +kernel)) (fun _ h9 => h9) rfl dX4_size_18 ?_
    refine lv_if_le (tgt := 28) hx hb dX4_size_21 (by decide) (fun c21 => ?_) (fun c21 => ?_)
    · obtain ⟨a, ha, rfl⟩ := vp_in_of (ite_s h3 c6) (by omega)
      refine lv_aload_n hx hb dX4_size_28 rfl (lv_at hl 0 rfl) ?_
      refine va_get (D := (dC, dI)) (ci := 4) (v := .ref m5) (C := RX4) (T := TX4) (N := 12) hx hb hts hinX4 hown hK hP 0 rfl rfl 5 (by decide) (hts (.fieldLink RX4 7 "NumberContentsModel" "sizes" "[I") (by decide +kernel)) (fun _ h9 => h9) rfl dX4_size_29 ?_
      refine lv_iload_n hx hb dX4_size_32 rfl (lv_at hl 1 rfl) ?_
      refine va_iald hx hb hK hP 1 0 rfl rfl (vp_in_nI (by omega) (by omega)) dX4_size_33 ?_
      refine lv_topi (fun x33 e33 => ?_)
      obtain rfl : x33 = nI (z a) := e33.trans (atg (by omega))
      have hP9 := hP.sub (ws' := [(mx, .inr (4, [.int 0, .int (nI n), .int (nI dn), .int (nI bn), .int (nI wn), .ref m5, .ref m6, .ref m7, .ref m8, .ref m9, .ref m10, .ref m11])), (m5, .inl (cI, 40, .inl (fun j => nI (z j))))]) [0, 1] rfl
      have hD9 := hD.sub (ws' := [(mx, .inr (4, [.int 0, .int (nI n), .int (nI dn), .int (nI bn), .int (nI wn), .ref m5, .ref m6, .ref m7, .ref m8, .ref m9, .ref m10, .ref m11])), (m5, .inl (cI, 40, .inl (fun j => nI (z j))))]) [0, 1] (by decide) rfl
      have hK9 := hK.sub (tys' := [(cI, .int)]) [0] rfl
      exact W.iret (v := (nI (z a))) hx hb hr (fun tS htS hW => ⟨⟨(nI (z a)), 0, rfl, (by first | exact Or.inl ⟨rfl, a, rfl, ha, rfl⟩ | exact Or.inr ⟨rfl, ite_r h3 c6⟩), by rw [htS]; exact hP9, va_K.moved hW.alike hK9, hD9⟩, hS.F htS⟩) hS.2.2 dX4_size_34
    · first | exact absurd c21 (by decide) | exact (c21 (by decide)).elim
  · refine lv_iconst (v := 1) hx hb dX4_size_9 (by decide) ?_
    refine lv_goto (tgt := 14) hx hb dX4_size_10 (by decide) ?_
    refine va_put (D := (dC, dI)) (ci := 4) (v := .int 1) (ty := .int) (C := RX4) (T := TX4) (N := 12) hx hb hts hinX4 tyX4 tyX4_ok nmX4 hown hK hP hD hS 0 rfl rfl 0 (by decide) (hts (.fieldLink RX4 32 "NumberContentsModel" "thrown" "I") (by decide +kernel)) (fun _ h9 => h9) rfl (by decide +kernel) rfl rfl (Nat.le_of_ble_eq_true rfl) dX4_size_14 (fun H locs hP hD hS => ?_)
    have hP : va_P (dC, dI) vwCl [(mx, .inr (4, [.int 1, .int (nI n), .int (nI dn), .int (nI bn), .int (nI wn), .ref m5, .ref m6, .ref m7, .ref m8, .ref m9, .ref m10, .ref m11])), (m5, .inl (cI, 40, .inl (fun j => nI (z j))))] H := hP
    have hD : va_D A [(mx, .inr (4, [.int 1, .int (nI n), .int (nI dn), .int (nI bn), .int (nI wn), .ref m5, .ref m6, .ref m7, .ref m8, .ref m9, .ref m10, .ref m11])), (m5, .inl (cI, 40, .inl (fun j => nI (z j))))] := hD
    refine lv_aload_n hx hb dX4_size_17 rfl (lv_at hl 0 rfl) ?_
    refine va_get (D := (dC, dI)) (ci := 4) (v := .int 1) (C := RX4) (T := TX4) (N := 12) hx hb hts hinX4 hown hK hP 0 rfl rfl 0 (by decide) (hts (.fieldLink RX4 32 "NumberContentsModel" "thrown" "I") (by decide +kernel)) (fun _ h9 => h9) rfl dX4_size_18 ?_
    refine lv_if_le (tgt := 28) hx hb dX4_size_21 (by decide) (fun c21 => ?_) (fun c21 => ?_)
    · first | exact absurd c21 (by decide) | exact (c21 (by decide)).elim
    · refine lv_iconst (v := 0) hx hb dX4_size_24 (by decide) ?_
      refine lv_goto (tgt := 34) hx hb dX4_size_25 (by decide) ?_
      have hP9 := hP.sub (ws' := [(mx, .inr (4, [.int 1, .int (nI n), .int (nI dn), .int (nI bn), .int (nI wn), .ref m5, .ref m6, .ref m7, .ref m8, .ref m9, .ref m10, .ref m11])), (m5, .inl (cI, 40, .inl (fun j => nI (z j))))]) [0, 1] rfl
      have hD9 := hD.sub (ws' := [(mx, .inr (4, [.int 1, .int (nI n), .int (nI dn), .int (nI bn), .int (nI wn), .ref m5, .ref m6, .ref m7, .ref m8, .ref m9, .ref m10, .ref m11])), (m5, .inl (cI, 40, .inl (fun j => nI (z j))))]) [0, 1] (by decide) rfl
      have hK9 := hK.sub (tys' := [(cI, .int)]) [0] rfl
      exact W.iret (v := 0) hx hb hr (fun tS htS hW => ⟨⟨0, 1, rfl, (by first | exact Or.inl ⟨rfl, a, rfl, ha, rfl⟩ | exact Or.inr ⟨rfl, ite_r h3 c6⟩), by rw [htS]; exact hP9, va_K.moved hW.alike hK9, hD9⟩, hS.F htS⟩) hS.2.2 dX4_size_34

set_option maxHeartbeats 4000000 in
set_option maxRecDepth 100000 in
theorem c_X4_byteAt (l : Launch) (dC : Nat → ClassId) (dI : Nat → Nat → Nat) (cI cB : ClassId) (mx m5 m6 m7 m8 m9 m10 m11 n dn bn wn : Nat) (th : Int32) (g z : Nat → Nat) (a9 i9 : Int32) (sz : Nat) (hI : XM n g z) : Met l yX4_byteAt wsX4_byteAt ({ frames := 1, cells := 0, slots := 0, locals := 22 } : Room) (va_Pc [.ref mx, .int a9, .int i9] (fun U => U.heap.size = sz ∧ va_P (dC, dI) vwCl [(mx, .inr (4, [.int th, .int (nI n), .int (nI dn), .int (nI bn), .int (nI wn), .ref m5, .ref m6, .ref m7, .ref m8, .ref m9, .ref m10, .ref m11])), (m5, .inl (cI, 40, .inl (fun j => nI (z j)))), (m9, .inl (cB, 8000, .inl (fun j => sb_b (g j))))] U.heap ∧ va_K (dC, dI) vwCl [(cI, .int), (cB, .byte)] U ∧ va_D (fun _ => True) [(mx, .inr (4, [.int th, .int (nI n), .int (nI dn), .int (nI bn), .int (nI wn), .ref m5, .ref m6, .ref m7, .ref m8, .ref m9, .ref m10, .ref m11])), (m5, .inl (cI, 40, .inl (fun j => nI (z j)))), (m9, .inl (cB, 8000, .inl (fun j => sb_b (g j))))])) (va_Qi (fun (r : Int32) (th3 : Int32) => (th3 = 0 ∧ ∃ aA iI, a9 = nI aA ∧ aA < n ∧ i9 = nI iI ∧ iI < z aA ∧ r = nI (g (200 * aA + iI))) ∨ (th3 = 1 ∧ ¬ ∃ aA iI, a9 = nI aA ∧ aA < n ∧ i9 = nI iI ∧ iI < z aA)) (fun (th3 : Int32) (tS : State) => va_P (dC, dI) vwCl [(mx, .inr (4, [.int th3, .int (nI n), .int (nI dn), .int (nI bn), .int (nI wn), .ref m5, .ref m6, .ref m7, .ref m8, .ref m9, .ref m10, .ref m11])), (m5, .inl (cI, 40, .inl (fun j => nI (z j)))), (m9, .inl (cB, 8000, .inl (fun j => sb_b (g j))))] tS.heap ∧ va_K (dC, dI) vwCl [(cI, .int), (cB, .byte)] tS ∧ va_D (va_A [(mx, .inr (4, [.int th, .int (nI n), .int (nI dn), .int (nI bn), .int (nI wn), .ref m5, .ref m6, .ref m7, .ref m8, .ref m9, .ref m10, .ref m11])), (m5, .inl (cI, 40, .inl (fun j => nI (z j)))), (m9, .inl (cB, 8000, .inl (fun j => sb_b (g j))))] sz) [(mx, .inr (4, [.int th3, .int (nI n), .int (nI dn), .int (nI bn), .int (nI wn), .ref m5, .ref m6, .ref m7, .ref m8, .ref m9, .ref m10, .ref m11])), (m5, .inl (cI, 40, .inl (fun j => nI (z j)))), (m9, .inl (cB, 8000, .inl (fun j => sb_b (g j))))]) (va_A [(mx, .inr (4, [.int th, .int (nI n), .int (nI dn), .int (nI bn), .int (nI wn), .ref m5, .ref m6, .ref m7, .ref m8, .ref m9, .ref m10, .ref m11])), (m5, .inl (cI, 40, .inl (fun j => nI (z j)))), (m9, .inl (cB, 8000, .inl (fun j => sb_b (g j))))] sz)) 0 0 (va_A [(mx, .inr (4, [.int th, .int (nI n), .int (nI dn), .int (nI bn), .int (nI wn), .ref m5, .ref m6, .ref m7, .ref m8, .ref m9, .ref m10, .ref m11])), (m5, .inl (cI, 40, .inl (fun j => nI (z j)))), (m9, .inl (cB, 8000, .inl (fun j => sb_b (g j))))] sz) := by
  refine Met.ofW (cc := cX4_byteAt) (maxL := 3) (ret := (some .int)) (by decide) rfl ?_
  intro p e s m args below meth c s₁ B hml hv
  obtain ⟨rfl, hsz, hP, hK, hD0⟩ := hv
  have hx := B.exec
  have hb := B.bytes
  have hr := B.returns
  have hts := atoms_spec (ws := wsX4_byteAt) B.pre
  have hown : s.vm.findClass RX4 = some m.cls := findClass_of_methodNamed B.named
  have hlocks := B.notSynchronized
  subst hsz
  have hD := hD0.self (sz := s.heap.size)
  generalize hAe : va_A [(mx, .inr (4, [.int th, .int (nI n), .int (nI dn), .int (nI bn), .int (nI wn), .ref m5, .ref m6, .ref m7, .ref m8, .ref m9, .ref m10, .ref m11])), (m5, .inl (cI, 40, .inl (fun j => nI (z j)))), (m9, .inl (cB, 8000, .inl (fun j => sb_b (g j))))] s.heap.size = A at hD ⊢
  have hA : ∀ q : Nat, s.heap.size ≤ q → A q := fun q h => by rw [← hAe]; exact Or.inr h
  have hS : va_S A s.heap s.heap [] := va_S.rf
  have hinX4 : ∀ w ∈ wsX40, w ∈ wsX4_byteAt := by decide +kernel
  have hl := lv_entry ([.ref mx, .int a9, .int i9]) (n := 3) (Nat.le_of_ble_eq_true rfl)
  rw [lg_entry_eq]
  generalize (lg_sl ([.ref mx, .int a9, .int i9]) ++ List.replicate (3 - (lg_sl ([.ref mx, .int a9, .int i9])).length) Slot.unset).toArray = ls at hl ⊢
  have hl : lv_has ls 3 [(0, .ref mx), (1, .int a9), (2, .int i9)] := hl
  obtain ⟨hg, hn, hz, hq⟩ := id hI
  refine lv_aload_n hx hb dX4_byteAt_0 rfl (lv_at hl 0 rfl) ?_
  refine lv_aload_n hx hb dX4_byteAt_1 rfl (lv_at hl 0 rfl) ?_
  refine lv_iload_n hx hb dX4_byteAt_2 rfl (lv_at hl 1 rfl) ?_
  have hPc := hP.sub (ws' := [(mx, .inr (4, [.int th, .int (nI n), .int (nI dn), .int (nI bn), .int (nI wn), .ref m5, .ref m6, .ref m7, .ref m8, .ref m9, .ref m10, .ref m11]))]) [0] rfl
  have hKc := hK.sub (tys' := []) [] rfl
  refine vp_callSi (W.runV (As := [.int a9]) (rest := [.ref mx]) ⟨hx, hb, hml, hown, hts⟩ (c_X4_isPlace l dC dI cI mx m5 m6 m7 m8 m9 m10 m11 n dn bn wn th a9 hn) (cwV 1 hts gX4_byteAt_X4_isPlace rfl rfl rfl (by decide +kernel) ⟨Nat.le_of_ble_eq_true rfl, Nat.le_of_ble_eq_true rfl⟩) ⟨fun a U g mk q => by obtain ⟨q0, qP, qK⟩ := q; exact ⟨q0, qP, va_K.moved (u := U) (U := U.calling g mk a) (Vm.Alike.refl U.vm) qK⟩, va_recv hK hP (ci := 4) (q0 := 0) rfl rfl, fun U hU hW => ⟨rfl, by rw [hU]; exact hPc, va_K.moved hW.alike hKc⟩⟩ rfl rfl hl.1 rfl (lv_room (Nat.le_of_ble_eq_true rfl)) dX4_byteAt_3 ⟨Nat.le_of_ble_eq_true rfl, Nat.le_of_ble_eq_true rfl⟩) (fun r3 h3 => ?_)
  refine lv_if_eq (tgt := 35) hx hb dX4_byteAt_6 (by decide) (fun c6 => ?_) (fun c6 => ?_)
  · refine lv_iconst (v := 1) hx hb dX4_byteAt_35 (by decide) ?_
    refine lv_goto (tgt := 40) hx hb dX4_byteAt_36 (by decide) ?_
    refine va_put (D := (dC, dI)) (ci := 4) (v := .int 1) (ty := .int) (C := RX4) (T := TX4) (N := 12) hx hb hts hinX4 tyX4 tyX4_ok nmX4 hown hK hP hD hS 0 rfl rfl 0 (by decide) (hts (.fieldLink RX4 32 "NumberContentsModel" "thrown" "I") (by decide +kernel)) (fun _ h9 => h9) rfl (by decide +kernel) rfl rfl (Nat.le_of_ble_eq_true rfl) dX4_byteAt_40 (fun H locs hP hD hS => ?_)
    have hP : va_P (dC, dI) vwCl [(mx, .inr (4, [.int 1, .int (nI n), .int (nI dn), .int (nI bn), .int (nI wn), .ref m5, .ref m6, .ref m7, .ref m8, .ref m9, .ref m10, .ref m11])), (m5, .inl (cI, 40, .inl (fun j => nI (z j)))), (m9, .inl (cB, 8000, .inl (fun j => sb_b (g j))))] H := hP
    have hD : va_D A [(mx, .inr (4, [.int 1, .int (nI n), .int (nI dn), .int (nI bn), .int (nI wn), .ref m5, .ref m6, .ref m7, .ref m8, .ref m9, .ref m10, .ref m11])), (m5, .inl (cI, 40, .inl (fun j => nI (z j)))), (m9, .inl (cB, 8000, .inl (fun j => sb_b (g j))))] := hD
    refine lv_aload_n hx hb dX4_byteAt_43 rfl (lv_at hl 0 rfl) ?_
    refine va_get (D := (dC, dI)) (ci := 4) (v := .int 1) (C := RX4) (T := TX4) (N := 12) hx hb hts hinX4 hown hK hP 0 rfl rfl 0 (by decide) (hts (.fieldLink RX4 32 "NumberContentsModel" "thrown" "I") (by decide +kernel)) (fun _ h9 => h9) rfl dX4_byteAt_44 ?_
    refine lv_if_le (tgt := 54) hx hb dX4_byteAt_47 (by decide) (fun c47 => ?_) (fun c47 => ?_)
    · first | exact absurd c47 (by decide) | exact (c47 (by decide)).elim
    · refine lv_iconst (v := 0) hx hb dX4_byteAt_50 (by decide) ?_
      refine lv_goto (tgt := 70) hx hb dX4_byteAt_51 (by decide) ?_
      have hP9 := hP.sub (ws' := [(mx, .inr (4, [.int 1, .int (nI n), .int (nI dn), .int (nI bn), .int (nI wn), .ref m5, .ref m6, .ref m7, .ref m8, .ref m9, .ref m10, .ref m11])), (m5, .inl (cI, 40, .inl (fun j => nI (z j)))), (m9, .inl (cB, 8000, .inl (fun j => sb_b (g j))))]) [0, 1, 2] rfl
      have hD9 := hD.sub (ws' := [(mx, .inr (4, [.int 1, .int (nI n), .int (nI dn), .int (nI bn), .int (nI wn), .ref m5, .ref m6, .ref m7, .ref m8, .ref m9, .ref m10, .ref m11])), (m5, .inl (cI, 40, .inl (fun j => nI (z j)))), (m9, .inl (cB, 8000, .inl (fun j => sb_b (g j))))]) [0, 1, 2] (by decide) rfl
      have hK9 := hK.sub (tys' := [(cI, .int), (cB, .byte)]) [0, 1] rfl
      exact W.iret (v := 0) hx hb hr (fun tS htS hW => ⟨⟨0, 1, rfl, (by first | exact Or.inl ⟨rfl, a, i, rfl, ha, rfl, hi, rfl⟩ | exact Or.inr ⟨rfl, fun ⟨a2, i2, e1, e2, e3, e4⟩ => vi_ge (by omega) (Int32.not_lt.mp c32) (by have ea : a = a2 := (nI_eq (by omega) (by omega)).mp e1; rw [e3, ea]; rw [ea] at hza; exact vp_in_nI e4 (by omega))⟩ | exact Or.inr ⟨rfl, fun ⟨a2, i2, e1, e2, e3, e4⟩ => nI_pos (n := i2) (by have := hz a2 e2; omega) (e3 ▸ c10)⟩ | exact Or.inr ⟨rfl, fun ⟨a2, i2, e1, e2, e3, e4⟩ => ite_r h3 c6 (e1 ▸ vp_in_nI e2 (by omega))⟩), by rw [htS]; exact hP9, va_K.moved hW.alike hK9, hD9⟩, hS.F htS⟩) hS.2.2 dX4_byteAt_70
  · obtain ⟨a, ha, rfl⟩ := vp_in_of (ite_s h3 c6) (by omega)
    have hza := hz a ha
    refine lv_iload_n hx hb dX4_byteAt_9 rfl (lv_at hl 2 rfl) ?_
    refine lv_if_lt (tgt := 35) hx hb dX4_byteAt_10 (by decide) (fun c10 => ?_) (fun c10 => ?_)
    · refine lv_iconst (v := 1) hx hb dX4_byteAt_35 (by decide) ?_
      refine lv_goto (tgt := 40) hx hb dX4_byteAt_36 (by decide) ?_
      refine va_put (D := (dC, dI)) (ci := 4) (v := .int 1) (ty := .int) (C := RX4) (T := TX4) (N := 12) hx hb hts hinX4 tyX4 tyX4_ok nmX4 hown hK hP hD hS 0 rfl rfl 0 (by decide) (hts (.fieldLink RX4 32 "NumberContentsModel" "thrown" "I") (by decide +kernel)) (fun _ h9 => h9) rfl (by decide +kernel) rfl rfl (Nat.le_of_ble_eq_true rfl) dX4_byteAt_40 (fun H locs hP hD hS => ?_)
      have hP : va_P (dC, dI) vwCl [(mx, .inr (4, [.int 1, .int (nI n), .int (nI dn), .int (nI bn), .int (nI wn), .ref m5, .ref m6, .ref m7, .ref m8, .ref m9, .ref m10, .ref m11])), (m5, .inl (cI, 40, .inl (fun j => nI (z j)))), (m9, .inl (cB, 8000, .inl (fun j => sb_b (g j))))] H := hP
      have hD : va_D A [(mx, .inr (4, [.int 1, .int (nI n), .int (nI dn), .int (nI bn), .int (nI wn), .ref m5, .ref m6, .ref m7, .ref m8, .ref m9, .ref m10, .ref m11])), (m5, .inl (cI, 40, .inl (fun j => nI (z j)))), (m9, .inl (cB, 8000, .inl (fun j => sb_b (g j))))] := hD
      refine lv_aload_n hx hb dX4_byteAt_43 rfl (lv_at hl 0 rfl) ?_
      refine va_get (D := (dC, dI)) (ci := 4) (v := .int 1) (C := RX4) (T := TX4) (N := 12) hx hb hts hinX4 hown hK hP 0 rfl rfl 0 (by decide) (hts (.fieldLink RX4 32 "NumberContentsModel" "thrown" "I") (by decide +kernel)) (fun _ h9 => h9) rfl dX4_byteAt_44 ?_
      refine lv_if_le (tgt := 54) hx hb dX4_byteAt_47 (by decide) (fun c47 => ?_) (fun c47 => ?_)
      · first | exact absurd c47 (by decide) | exact (c47 (by decide)).elim
      · refine lv_iconst (v := 0) hx hb dX4_byteAt_50 (by decide) ?_
        refine lv_goto (tgt := 70) hx hb dX4_byteAt_51 (by decide) ?_
        have hP9 := hP.sub (ws' := [(mx, .inr (4, [.int 1, .int (nI n), .int (nI dn), .int (nI bn), .int (nI wn), .ref m5, .ref m6, .ref m7, .ref m8, .ref m9, .ref m10, .ref m11])), (m5, .inl (cI, 40, .inl (fun j => nI (z j)))), (m9, .inl (cB, 8000, .inl (fun j => sb_b (g j))))]) [0, 1, 2] rfl
        have hD9 := hD.sub (ws' := [(mx, .inr (4, [.int 1, .int (nI n), .int (nI dn), .int (nI bn), .int (nI wn), .ref m5, .ref m6, .ref m7, .ref m8, .ref m9, .ref m10, .ref m11])), (m5, .inl (cI, 40, .inl (fun j => nI (z j)))), (m9, .inl (cB, 8000, .inl (fun j => sb_b (g j))))]) [0, 1, 2] (by decide) rfl
        have hK9 := hK.sub (tys' := [(cI, .int), (cB, .byte)]) [0, 1] rfl
        exact W.iret (v := 0) hx hb hr (fun tS htS hW => ⟨⟨0, 1, rfl, (by first | exact Or.inl ⟨rfl, a, i, rfl, ha, rfl, hi, rfl⟩ | exact Or.inr ⟨rfl, fun ⟨a2, i2, e1, e2, e3, e4⟩ => vi_ge (by omega) (Int32.not_lt.mp c32) (by have ea : a = a2 := (nI_eq (by omega) (by omega)).mp e1; rw [e3, ea]; rw [ea] at hza; exact vp_in_nI e4 (by omega))⟩ | exact Or.inr ⟨rfl, fun ⟨a2, i2, e1, e2, e3, e4⟩ => nI_pos (n := i2) (by have := hz a2 e2; omega) (e3 ▸ c10)⟩ | exact Or.inr ⟨rfl, fun ⟨a2, i2, e1, e2, e3, e4⟩ => ite_r h3 c6 (e1 ▸ vp_in_nI e2 (by omega))⟩), by rw [htS]; exact hP9, va_K.moved hW.alike hK9, hD9⟩, hS.F htS⟩) hS.2.2 dX4_byteAt_70
    · refine lv_iload_n hx hb dX4_byteAt_13 rfl (lv_at hl 2 rfl) ?_
      refine lv_aload_n hx hb dX4_byteAt_14 rfl (lv_at hl 0 rfl) ?_
      refine va_get (D := (dC, dI)) (ci := 4) (v := .ref m5) (C := RX4) (T := TX4) (N := 12) hx hb hts hinX4 hown hK hP 0 rfl rfl 5 (by decide) (hts (.fieldLink RX4 7 "NumberContentsModel" "sizes" "[I") (by decide +kernel)) (fun _ h9 => h9) rfl dX4_byteAt_15 ?_
      refine lv_aload_n hx hb dX4_byteAt_18 rfl (lv_at hl 0 rfl) ?_
      refine lv_iload_n hx hb dX4_byteAt_19 rfl (lv_at hl 1 rfl) ?_
      have hPc := hP.sub (ws' := [(mx, .inr (4, [.int th, .int (nI n), .int (nI dn), .int (nI bn), .int (nI wn), .ref m5, .ref m6, .ref m7, .ref m8, .ref m9, .ref m10, .ref m11]))]) [0] rfl
      have hKc := hK.sub (tys' := []) [] rfl
      refine vp_callSi (W.runV (As := [.int (nI a)]) (rest := [.ref m5, .int i9, .ref mx]) ⟨hx, hb, hml, hown, hts⟩ (c_X4_isPlace l dC dI cI mx m5 m6 m7 m8 m9 m10 m11 n dn bn wn th (nI a) hn) (cwV 1 hts gX4_byteAt_X4_isPlace rfl rfl rfl (by decide +kernel) ⟨Nat.le_of_ble_eq_true rfl, Nat.le_of_ble_eq_true rfl⟩) ⟨fun a U g mk q => by obtain ⟨q0, qP, qK⟩ := q; exact ⟨q0, qP, va_K.moved (u := U) (U := U.calling g mk a) (Vm.Alike.refl U.vm) qK⟩, va_recv hK hP (ci := 4) (q0 := 0) rfl rfl, fun U hU hW => ⟨rfl, by rw [hU]; exact hPc, va_K.moved hW.alike hKc⟩⟩ rfl rfl hl.1 rfl (lv_room (Nat.le_of_ble_eq_true rfl)) dX4_byteAt_20 ⟨Nat.le_of_ble_eq_true rfl, Nat.le_of_ble_eq_true rfl⟩) (fun r20 h20 => ?_)
      refine lv_if_eq (tgt := 30) hx hb dX4_byteAt_23 (by decide) (fun c23 => ?_) (fun c23 => ?_)
      · exact absurd c23 (fun y => ite_r h20 y (vp_in_nI ha (by omega)))
      · refine lv_iload_n hx hb dX4_byteAt_26 rfl (lv_at hl 1 rfl) ?_
        refine lv_goto (tgt := 31) hx hb dX4_byteAt_27 (by decide) ?_
        refine va_iald hx hb hK hP 1 0 rfl rfl (vp_in_nI (by omega) (by omega)) dX4_byteAt_31 ?_
        refine lv_topi (fun x31 e31 => ?_)
        obtain rfl : x31 = nI (z a) := e31.trans (atg (by omega))
        refine lv_icmp_lt (tgt := 39) hx hb dX4_byteAt_32 (by decide) (fun c32 => ?_) (fun c32 => ?_)
        · refine lv_iconst (v := 0) hx hb dX4_byteAt_39 (by decide) ?_
          refine va_put (D := (dC, dI)) (ci := 4) (v := .int 0) (ty := .int) (C := RX4) (T := TX4) (N := 12) hx hb hts hinX4 tyX4 tyX4_ok nmX4 hown hK hP hD hS 0 rfl rfl 0 (by decide) (hts (.fieldLink RX4 32 "NumberContentsModel" "thrown" "I") (by decide +kernel)) (fun _ h9 => h9) rfl (by decide +kernel) rfl rfl (Nat.le_of_ble_eq_true rfl) dX4_byteAt_40 (fun H locs hP hD hS => ?_)
          have hP : va_P (dC, dI) vwCl [(mx, .inr (4, [.int 0, .int (nI n), .int (nI dn), .int (nI bn), .int (nI wn), .ref m5, .ref m6, .ref m7, .ref m8, .ref m9, .ref m10, .ref m11])), (m5, .inl (cI, 40, .inl (fun j => nI (z j)))), (m9, .inl (cB, 8000, .inl (fun j => sb_b (g j))))] H := hP
          have hD : va_D A [(mx, .inr (4, [.int 0, .int (nI n), .int (nI dn), .int (nI bn), .int (nI wn), .ref m5, .ref m6, .ref m7, .ref m8, .ref m9, .ref m10, .ref m11])), (m5, .inl (cI, 40, .inl (fun j => nI (z j)))), (m9, .inl (cB, 8000, .inl (fun j => sb_b (g j))))] := hD
          refine lv_aload_n hx hb dX4_byteAt_43 rfl (lv_at hl 0 rfl) ?_
          refine va_get (D := (dC, dI)) (ci := 4) (v := .int 0) (C := RX4) (T := TX4) (N := 12) hx hb hts hinX4 hown hK hP 0 rfl rfl 0 (by decide) (hts (.fieldLink RX4 32 "NumberContentsModel" "thrown" "I") (by decide +kernel)) (fun _ h9 => h9) rfl dX4_byteAt_44 ?_
          refine lv_if_le (tgt := 54) hx hb dX4_byteAt_47 (by decide) (fun c47 => ?_) (fun c47 => ?_)
          · obtain ⟨i, hi, rfl⟩ := vp_in_of (vi_lt c10 (by omega) (Int32.not_le.mpr c32)) (by omega)
            refine lv_aload_n hx hb dX4_byteAt_54 rfl (lv_at hl 0 rfl) ?_
            refine va_get (D := (dC, dI)) (ci := 4) (v := .ref m9) (C := RX4) (T := TX4) (N := 12) hx hb hts hinX4 hown hK hP 0 rfl rfl 9 (by decide) (hts (.fieldLink RX4 22 "NumberContentsModel" "kept" "[B") (by decide +kernel)) (fun _ h9 => h9) rfl dX4_byteAt_55 ?_
            refine lv_sipush (v := (nI 200)) hx hb dX4_byteAt_58 (by decide) ?_
            refine lv_iload_n hx hb dX4_byteAt_61 rfl (lv_at hl 1 rfl) ?_
            refine lv_imul hx hb dX4_byteAt_62 ?_
            refine lv_topi (fun x62 e62 => ?_)
            obtain rfl : x62 = nI (200 * a) := e62.trans (pk_mul 200 a)
            refine lv_iload_n hx hb dX4_byteAt_63 rfl (lv_at hl 2 rfl) ?_
            refine lv_iadd hx hb dX4_byteAt_64 ?_
            refine lv_topi (fun x64 e64 => ?_)
            obtain rfl : x64 = nI (200 * a + i) := e64.trans (nI_add _ _)
            refine va_bald hx hb hK hP 2 1 rfl rfl (vp_in_nI (by omega) (by omega)) dX4_byteAt_65 ?_
            refine lv_topi (fun x65 e65 => ?_)
            obtain rfl : x65 = sb_b (g (200 * a + i)) := e65.trans (atsb (by omega))
            refine lv_sipush (v := 255) hx hb dX4_byteAt_66 (by decide) ?_
            refine lv_iand hx hb dX4_byteAt_69 ?_
            refine lv_topi (fun x69 e69 => ?_)
            obtain rfl : x69 = nI (g (200 * a + i)) := e69.trans (sb_and (hg _))
            have hP9 := hP.sub (ws' := [(mx, .inr (4, [.int 0, .int (nI n), .int (nI dn), .int (nI bn), .int (nI wn), .ref m5, .ref m6, .ref m7, .ref m8, .ref m9, .ref m10, .ref m11])), (m5, .inl (cI, 40, .inl (fun j => nI (z j)))), (m9, .inl (cB, 8000, .inl (fun j => sb_b (g j))))]) [0, 1, 2] rfl
            have hD9 := hD.sub (ws' := [(mx, .inr (4, [.int 0, .int (nI n), .int (nI dn), .int (nI bn), .int (nI wn), .ref m5, .ref m6, .ref m7, .ref m8, .ref m9, .ref m10, .ref m11])), (m5, .inl (cI, 40, .inl (fun j => nI (z j)))), (m9, .inl (cB, 8000, .inl (fun j => sb_b (g j))))]) [0, 1, 2] (by decide) rfl
            have hK9 := hK.sub (tys' := [(cI, .int), (cB, .byte)]) [0, 1] rfl
            exact W.iret (v := (nI (g (200 * a + i)))) hx hb hr (fun tS htS hW => ⟨⟨(nI (g (200 * a + i))), 0, rfl, (by first | exact Or.inl ⟨rfl, a, i, rfl, ha, rfl, hi, rfl⟩ | exact Or.inr ⟨rfl, fun ⟨a2, i2, e1, e2, e3, e4⟩ => vi_ge (by omega) (Int32.not_lt.mp c32) (by have ea : a = a2 := (nI_eq (by omega) (by omega)).mp e1; rw [e3, ea]; rw [ea] at hza; exact vp_in_nI e4 (by omega))⟩ | exact Or.inr ⟨rfl, fun ⟨a2, i2, e1, e2, e3, e4⟩ => nI_pos (n := i2) (by have := hz a2 e2; omega) (e3 ▸ c10)⟩ | exact Or.inr ⟨rfl, fun ⟨a2, i2, e1, e2, e3, e4⟩ => ite_r h3 c6 (e1 ▸ vp_in_nI e2 (by omega))⟩), by rw [htS]; exact hP9, va_K.moved hW.alike hK9, hD9⟩, hS.F htS⟩) hS.2.2 dX4_byteAt_70
          · first | exact absurd c47 (by decide) | exact (c47 (by decide)).elim
        · refine lv_iconst (v := 1) hx hb dX4_byteAt_35 (by decide) ?_
          refine lv_goto (tgt := 40) hx hb dX4_byteAt_36 (by decide) ?_
          refine va_put (D := (dC, dI)) (ci := 4) (v := .int 1) (ty := .int) (C := RX4) (T := TX4) (N := 12) hx hb hts hinX4 tyX4 tyX4_ok nmX4 hown hK hP hD hS 0 rfl rfl 0 (by decide) (hts (.fieldLink RX4 32 "NumberContentsModel" "thrown" "I") (by decide +kernel)) (fun _ h9 => h9) rfl (by decide +kernel) rfl rfl (Nat.le_of_ble_eq_true rfl) dX4_byteAt_40 (fun H locs hP hD hS => ?_)
          have hP : va_P (dC, dI) vwCl [(mx, .inr (4, [.int 1, .int (nI n), .int (nI dn), .int (nI bn), .int (nI wn), .ref m5, .ref m6, .ref m7, .ref m8, .ref m9, .ref m10, .ref m11])), (m5, .inl (cI, 40, .inl (fun j => nI (z j)))), (m9, .inl (cB, 8000, .inl (fun j => sb_b (g j))))] H := hP
          have hD : va_D A [(mx, .inr (4, [.int 1, .int (nI n), .int (nI dn), .int (nI bn), .int (nI wn), .ref m5, .ref m6, .ref m7, .ref m8, .ref m9, .ref m10, .ref m11])), (m5, .inl (cI, 40, .inl (fun j => nI (z j)))), (m9, .inl (cB, 8000, .inl (fun j => sb_b (g j))))] := hD
          refine lv_aload_n hx hb dX4_byteAt_43 rfl (lv_at hl 0 rfl) ?_
          refine va_get (D := (dC, dI)) (ci := 4) (v := .int 1) (C := RX4) (T := TX4) (N := 12) hx hb hts hinX4 hown hK hP 0 rfl rfl 0 (by decide) (hts (.fieldLink RX4 32 "NumberContentsModel" "thrown" "I") (by decide +kernel)) (fun _ h9 => h9) rfl dX4_byteAt_44 ?_
          refine lv_if_le (tgt := 54) hx hb dX4_byteAt_47 (by decide) (fun c47 => ?_) (fun c47 => ?_)
          · first | exact absurd c47 (by decide) | exact (c47 (by decide)).elim
          · refine lv_iconst (v := 0) hx hb dX4_byteAt_50 (by decide) ?_
            refine lv_goto (tgt := 70) hx hb dX4_byteAt_51 (by decide) ?_
            have hP9 := hP.sub (ws' := [(mx, .inr (4, [.int 1, .int (nI n), .int (nI dn), .int (nI bn), .int (nI wn), .ref m5, .ref m6, .ref m7, .ref m8, .ref m9, .ref m10, .ref m11])), (m5, .inl (cI, 40, .inl (fun j => nI (z j)))), (m9, .inl (cB, 8000, .inl (fun j => sb_b (g j))))]) [0, 1, 2] rfl
            have hD9 := hD.sub (ws' := [(mx, .inr (4, [.int 1, .int (nI n), .int (nI dn), .int (nI bn), .int (nI wn), .ref m5, .ref m6, .ref m7, .ref m8, .ref m9, .ref m10, .ref m11])), (m5, .inl (cI, 40, .inl (fun j => nI (z j)))), (m9, .inl (cB, 8000, .inl (fun j => sb_b (g j))))]) [0, 1, 2] (by decide) rfl
            have hK9 := hK.sub (tys' := [(cI, .int), (cB, .byte)]) [0, 1] rfl
            exact W.iret (v := 0) hx hb hr (fun tS htS hW => ⟨⟨0, 1, rfl, (by first | exact Or.inl ⟨rfl, a, i, rfl, ha, rfl, hi, rfl⟩ | exact Or.inr ⟨rfl, fun ⟨a2, i2, e1, e2, e3, e4⟩ => vi_ge (by omega) (Int32.not_lt.mp c32) (by have ea : a = a2 := (nI_eq (by omega) (by omega)).mp e1; rw [e3, ea]; rw [ea] at hza; exact vp_in_nI e4 (by omega))⟩ | exact Or.inr ⟨rfl, fun ⟨a2, i2, e1, e2, e3, e4⟩ => nI_pos (n := i2) (by have := hz a2 e2; omega) (e3 ▸ c10)⟩ | exact Or.inr ⟨rfl, fun ⟨a2, i2, e1, e2, e3, e4⟩ => ite_r h3 c6 (e1 ▸ vp_in_nI e2 (by omega))⟩), by rw [htS]; exact hP9, va_K.moved hW.alike hK9, hD9⟩, hS.F htS⟩) hS.2.2 dX4_byteAt_70

set_option maxHeartbeats 4000000 in
set_option maxRecDepth 100000 in
theorem c_X4_out (l : Launch) (dC : Nat → ClassId) (dI : Nat → Nat → Nat) (cI : ClassId) (mx m5 m6 m7 m8 m9 m10 m11 n dn bn wn : Nat) (th : Int32) (wr : Nat → Nat) (i9 : Int32) (sz : Nat) (hwn : wn ≤ 490) : Met l yX4_out wsX4_out ({ frames := 0, cells := 0, slots := 0, locals := 0 } : Room) (va_Pc [.ref mx, .int i9] (fun U => U.heap.size = sz ∧ va_P (dC, dI) vwCl [(mx, .inr (4, [.int th, .int (nI n), .int (nI dn), .int (nI bn), .int (nI wn), .ref m5, .ref m6, .ref m7, .ref m8, .ref m9, .ref m10, .ref m11])), (m8, .inl (cI, 500, .inl (fun j => nI (wr j))))] U.heap ∧ va_K (dC, dI) vwCl [(cI, .int)] U ∧ va_D (fun _ => True) [(mx, .inr (4, [.int th, .int (nI n), .int (nI dn), .int (nI bn), .int (nI wn), .ref m5, .ref m6, .ref m7, .ref m8, .ref m9, .ref m10, .ref m11])), (m8, .inl (cI, 500, .inl (fun j => nI (wr j))))])) (va_Qi (fun (r : Int32) (th3 : Int32) => (th3 = 0 ∧ ∃ iI, i9 = nI iI ∧ iI < wn ∧ r = nI (wr iI)) ∨ (th3 = 1 ∧ ¬ vp_in i9 wn)) (fun (th3 : Int32) (tS : State) => va_P (dC, dI) vwCl [(mx, .inr (4, [.int th3, .int (nI n), .int (nI dn), .int (nI bn), .int (nI wn), .ref m5, .ref m6, .ref m7, .ref m8, .ref m9, .ref m10, .ref m11])), (m8, .inl (cI, 500, .inl (fun j => nI (wr j))))] tS.heap ∧ va_K (dC, dI) vwCl [(cI, .int)] tS ∧ va_D (va_A [(mx, .inr (4, [.int th, .int (nI n), .int (nI dn), .int (nI bn), .int (nI wn), .ref m5, .ref m6, .ref m7, .ref m8, .ref m9, .ref m10, .ref m11])), (m8, .inl (cI, 500, .inl (fun j => nI (wr j))))] sz) [(mx, .inr (4, [.int th3, .int (nI n), .int (nI dn), .int (nI bn), .int (nI wn), .ref m5, .ref m6, .ref m7, .ref m8, .ref m9, .ref m10, .ref m11])), (m8, .inl (cI, 500, .inl (fun j => nI (wr j))))]) (va_A [(mx, .inr (4, [.int th, .int (nI n), .int (nI dn), .int (nI bn), .int (nI wn), .ref m5, .ref m6, .ref m7, .ref m8, .ref m9, .ref m10, .ref m11])), (m8, .inl (cI, 500, .inl (fun j => nI (wr j))))] sz)) 0 0 (va_A [(mx, .inr (4, [.int th, .int (nI n), .int (nI dn), .int (nI bn), .int (nI wn), .ref m5, .ref m6, .ref m7, .ref m8, .ref m9, .ref m10, .ref m11])), (m8, .inl (cI, 500, .inl (fun j => nI (wr j))))] sz) := by
  refine Met.ofW (cc := cX4_out) (maxL := 2) (ret := (some .int)) (by decide) rfl ?_
  intro p e s m args below meth c s₁ B hml hv
  obtain ⟨rfl, hsz, hP, hK, hD0⟩ := hv
  have hx := B.exec
  have hb := B.bytes
  have hr := B.returns
  have hts := atoms_spec (ws := wsX4_out) B.pre
  have hown : s.vm.findClass RX4 = some m.cls := findClass_of_methodNamed B.named
  have hlocks := B.notSynchronized
  subst hsz
  have hD := hD0.self (sz := s.heap.size)
  generalize hAe : va_A [(mx, .inr (4, [.int th, .int (nI n), .int (nI dn), .int (nI bn), .int (nI wn), .ref m5, .ref m6, .ref m7, .ref m8, .ref m9, .ref m10, .ref m11])), (m8, .inl (cI, 500, .inl (fun j => nI (wr j))))] s.heap.size = A at hD ⊢
  have hA : ∀ q : Nat, s.heap.size ≤ q → A q := fun q h => by rw [← hAe]; exact Or.inr h
  have hS : va_S A s.heap s.heap [] := va_S.rf
  have hinX4 : ∀ w ∈ wsX40, w ∈ wsX4_out := by decide +kernel
  have hl := lv_entry ([.ref mx, .int i9]) (n := 2) (Nat.le_of_ble_eq_true rfl)
  rw [lg_entry_eq]
  generalize (lg_sl ([.ref mx, .int i9]) ++ List.replicate (2 - (lg_sl ([.ref mx, .int i9])).length) Slot.unset).toArray = ls at hl ⊢
  have hl : lv_has ls 2 [(0, .ref mx), (1, .int i9)] := hl
  refine lv_aload_n hx hb dX4_out_0 rfl (lv_at hl 0 rfl) ?_
  refine lv_iload_n hx hb dX4_out_1 rfl (lv_at hl 1 rfl) ?_
  refine lv_if_lt (tgt := 13) hx hb dX4_out_2 (by decide) (fun c2 => ?_) (fun c2 => ?_)
  · refine lv_iconst (v := 1) hx hb dX4_out_13 (by decide) ?_
    refine lv_goto (tgt := 18) hx hb dX4_out_14 (by decide) ?_
    refine va_put (D := (dC, dI)) (ci := 4) (v := .int 1) (ty := .int) (C := RX4) (T := TX4) (N := 12) hx hb hts hinX4 tyX4 tyX4_ok nmX4 hown hK hP hD hS 0 rfl rfl 0 (by decide) (hts (.fieldLink RX4 32 "NumberContentsModel" "thrown" "I") (by decide +kernel)) (fun _ h9 => h9) rfl (by decide +kernel) rfl rfl (Nat.le_of_ble_eq_true rfl) dX4_out_18 (fun H locs hP hD hS => ?_)
    have hP : va_P (dC, dI) vwCl [(mx, .inr (4, [.int 1, .int (nI n), .int (nI dn), .int (nI bn), .int (nI wn), .ref m5, .ref m6, .ref m7, .ref m8, .ref m9, .ref m10, .ref m11])), (m8, .inl (cI, 500, .inl (fun j => nI (wr j))))] H := hP
    have hD : va_D A [(mx, .inr (4, [.int 1, .int (nI n), .int (nI dn), .int (nI bn), .int (nI wn), .ref m5, .ref m6, .ref m7, .ref m8, .ref m9, .ref m10, .ref m11])), (m8, .inl (cI, 500, .inl (fun j => nI (wr j))))] := hD
    refine lv_aload_n hx hb dX4_out_21 rfl (lv_at hl 0 rfl) ?_
    refine va_get (D := (dC, dI)) (ci := 4) (v := .int 1) (C := RX4) (T := TX4) (N := 12) hx hb hts hinX4 hown hK hP 0 rfl rfl 0 (by decide) (hts (.fieldLink RX4 32 "NumberContentsModel" "thrown" "I") (by decide +kernel)) (fun _ h9 => h9) rfl dX4_out_22 ?_
    refine lv_if_le (tgt := 32) hx hb dX4_out_25 (by decide) (fun c25 => ?_) (fun c25 => ?_)
    · first | exact absurd c25 (by decide) | exact (c25 (by decide)).elim
    · refine lv_iconst (v := 0) hx hb dX4_out_28 (by decide) ?_
      refine lv_goto (tgt := 38) hx hb dX4_out_29 (by decide) ?_
      have hP9 := hP.sub (ws' := [(mx, .inr (4, [.int 1, .int (nI n), .int (nI dn), .int (nI bn), .int (nI wn), .ref m5, .ref m6, .ref m7, .ref m8, .ref m9, .ref m10, .ref m11])), (m8, .inl (cI, 500, .inl (fun j => nI (wr j))))]) [0, 1] rfl
      have hD9 := hD.sub (ws' := [(mx, .inr (4, [.int 1, .int (nI n), .int (nI dn), .int (nI bn), .int (nI wn), .ref m5, .ref m6, .ref m7, .ref m8, .ref m9, .ref m10, .ref m11])), (m8, .inl (cI, 500, .inl (fun j => nI (wr j))))]) [0, 1] (by decide) rfl
      have hK9 := hK.sub (tys' := [(cI, .int)]) [0] rfl
      exact W.iret (v := 0) hx hb hr (fun tS htS hW => ⟨⟨0, 1, rfl, (by first | exact Or.inl ⟨rfl, i, rfl, hi, rfl⟩ | exact Or.inr ⟨rfl, vi_ge (by omega) (Int32.not_lt.mp c10)⟩ | exact Or.inr ⟨rfl, vi_neg c2⟩), by rw [htS]; exact hP9, va_K.moved hW.alike hK9, hD9⟩, hS.F htS⟩) hS.2.2 dX4_out_38
  · refine lv_iload_n hx hb dX4_out_5 rfl (lv_at hl 1 rfl) ?_
    refine lv_aload_n hx hb dX4_out_6 rfl (lv_at hl 0 rfl) ?_
    refine va_get (D := (dC, dI)) (ci := 4) (v := .int (nI wn)) (C := RX4) (T := TX4) (N := 12) hx hb hts hinX4 hown hK hP 0 rfl rfl 4 (by decide) (hts (.fieldLink RX4 75 "NumberContentsModel" "outMany" "I") (by decide +kernel)) (fun _ h9 => h9) rfl dX4_out_7 ?_
    refine lv_icmp_lt (tgt := 17) hx hb dX4_out_10 (by decide) (fun c10 => ?_) (fun c10 => ?_)
    · refine lv_iconst (v := 0) hx hb dX4_out_17 (by decide) ?_
      refine va_put (D := (dC, dI)) (ci := 4) (v := .int 0) (ty := .int) (C := RX4) (T := TX4) (N := 12) hx hb hts hinX4 tyX4 tyX4_ok nmX4 hown hK hP hD hS 0 rfl rfl 0 (by decide) (hts (.fieldLink RX4 32 "NumberContentsModel" "thrown" "I") (by decide +kernel)) (fun _ h9 => h9) rfl (by decide +kernel) rfl rfl (Nat.le_of_ble_eq_true rfl) dX4_out_18 (fun H locs hP hD hS => ?_)
      have hP : va_P (dC, dI) vwCl [(mx, .inr (4, [.int 0, .int (nI n), .int (nI dn), .int (nI bn), .int (nI wn), .ref m5, .ref m6, .ref m7, .ref m8, .ref m9, .ref m10, .ref m11])), (m8, .inl (cI, 500, .inl (fun j => nI (wr j))))] H := hP
      have hD : va_D A [(mx, .inr (4, [.int 0, .int (nI n), .int (nI dn), .int (nI bn), .int (nI wn), .ref m5, .ref m6, .ref m7, .ref m8, .ref m9, .ref m10, .ref m11])), (m8, .inl (cI, 500, .inl (fun j => nI (wr j))))] := hD
      refine lv_aload_n hx hb dX4_out_21 rfl (lv_at hl 0 rfl) ?_
      refine va_get (D := (dC, dI)) (ci := 4) (v := .int 0) (C := RX4) (T := TX4) (N := 12) hx hb hts hinX4 hown hK hP 0 rfl rfl 0 (by decide) (hts (.fieldLink RX4 32 "NumberContentsModel" "thrown" "I") (by decide +kernel)) (fun _ h9 => h9) rfl dX4_out_22 ?_
      refine lv_if_le (tgt := 32) hx hb dX4_out_25 (by decide) (fun c25 => ?_) (fun c25 => ?_)
      · obtain ⟨i, hi, rfl⟩ := vp_in_of (vi_lt c2 (by omega) (Int32.not_le.mpr c10)) (by omega)
        refine lv_aload_n hx hb dX4_out_32 rfl (lv_at hl 0 rfl) ?_
        refine va_get (D := (dC, dI)) (ci := 4) (v := .ref m8) (C := RX4) (T := TX4) (N := 12) hx hb hts hinX4 hown hK hP 0 rfl rfl 8 (by decide) (hts (.fieldLink RX4 19 "NumberContentsModel" "out" "[I") (by decide +kernel)) (fun _ h9 => h9) rfl dX4_out_33 ?_
        refine lv_iload_n hx hb dX4_out_36 rfl (lv_at hl 1 rfl) ?_
        refine va_iald hx hb hK hP 1 0 rfl rfl (vp_in_nI (by omega) (by omega)) dX4_out_37 ?_
        refine lv_topi (fun x37 e37 => ?_)
        obtain rfl : x37 = nI (wr i) := e37.trans (atg (by omega))
        have hP9 := hP.sub (ws' := [(mx, .inr (4, [.int 0, .int (nI n), .int (nI dn), .int (nI bn), .int (nI wn), .ref m5, .ref m6, .ref m7, .ref m8, .ref m9, .ref m10, .ref m11])), (m8, .inl (cI, 500, .inl (fun j => nI (wr j))))]) [0, 1] rfl
        have hD9 := hD.sub (ws' := [(mx, .inr (4, [.int 0, .int (nI n), .int (nI dn), .int (nI bn), .int (nI wn), .ref m5, .ref m6, .ref m7, .ref m8, .ref m9, .ref m10, .ref m11])), (m8, .inl (cI, 500, .inl (fun j => nI (wr j))))]) [0, 1] (by decide) rfl
        have hK9 := hK.sub (tys' := [(cI, .int)]) [0] rfl
        exact W.iret (v := (nI (wr i))) hx hb hr (fun tS htS hW => ⟨⟨(nI (wr i)), 0, rfl, (by first | exact Or.inl ⟨rfl, i, rfl, hi, rfl⟩ | exact Or.inr ⟨rfl, vi_ge (by omega) (Int32.not_lt.mp c10)⟩ | exact Or.inr ⟨rfl, vi_neg c2⟩), by rw [htS]; exact hP9, va_K.moved hW.alike hK9, hD9⟩, hS.F htS⟩) hS.2.2 dX4_out_38
      · first | exact absurd c25 (by decide) | exact (c25 (by decide)).elim
    · refine lv_iconst (v := 1) hx hb dX4_out_13 (by decide) ?_
      refine lv_goto (tgt := 18) hx hb dX4_out_14 (by decide) ?_
      refine va_put (D := (dC, dI)) (ci := 4) (v := .int 1) (ty := .int) (C := RX4) (T := TX4) (N := 12) hx hb hts hinX4 tyX4 tyX4_ok nmX4 hown hK hP hD hS 0 rfl rfl 0 (by decide) (hts (.fieldLink RX4 32 "NumberContentsModel" "thrown" "I") (by decide +kernel)) (fun _ h9 => h9) rfl (by decide +kernel) rfl rfl (Nat.le_of_ble_eq_true rfl) dX4_out_18 (fun H locs hP hD hS => ?_)
      have hP : va_P (dC, dI) vwCl [(mx, .inr (4, [.int 1, .int (nI n), .int (nI dn), .int (nI bn), .int (nI wn), .ref m5, .ref m6, .ref m7, .ref m8, .ref m9, .ref m10, .ref m11])), (m8, .inl (cI, 500, .inl (fun j => nI (wr j))))] H := hP
      have hD : va_D A [(mx, .inr (4, [.int 1, .int (nI n), .int (nI dn), .int (nI bn), .int (nI wn), .ref m5, .ref m6, .ref m7, .ref m8, .ref m9, .ref m10, .ref m11])), (m8, .inl (cI, 500, .inl (fun j => nI (wr j))))] := hD
      refine lv_aload_n hx hb dX4_out_21 rfl (lv_at hl 0 rfl) ?_
      refine va_get (D := (dC, dI)) (ci := 4) (v := .int 1) (C := RX4) (T := TX4) (N := 12) hx hb hts hinX4 hown hK hP 0 rfl rfl 0 (by decide) (hts (.fieldLink RX4 32 "NumberContentsModel" "thrown" "I") (by decide +kernel)) (fun _ h9 => h9) rfl dX4_out_22 ?_
      refine lv_if_le (tgt := 32) hx hb dX4_out_25 (by decide) (fun c25 => ?_) (fun c25 => ?_)
      · first | exact absurd c25 (by decide) | exact (c25 (by decide)).elim
      · refine lv_iconst (v := 0) hx hb dX4_out_28 (by decide) ?_
        refine lv_goto (tgt := 38) hx hb dX4_out_29 (by decide) ?_
        have hP9 := hP.sub (ws' := [(mx, .inr (4, [.int 1, .int (nI n), .int (nI dn), .int (nI bn), .int (nI wn), .ref m5, .ref m6, .ref m7, .ref m8, .ref m9, .ref m10, .ref m11])), (m8, .inl (cI, 500, .inl (fun j => nI (wr j))))]) [0, 1] rfl
        have hD9 := hD.sub (ws' := [(mx, .inr (4, [.int 1, .int (nI n), .int (nI dn), .int (nI bn), .int (nI wn), .ref m5, .ref m6, .ref m7, .ref m8, .ref m9, .ref m10, .ref m11])), (m8, .inl (cI, 500, .inl (fun j => nI (wr j))))]) [0, 1] (by decide) rfl
        have hK9 := hK.sub (tys' := [(cI, .int)]) [0] rfl
        exact W.iret (v := 0) hx hb hr (fun tS htS hW => ⟨⟨0, 1, rfl, (by first | exact Or.inl ⟨rfl, i, rfl, hi, rfl⟩ | exact Or.inr ⟨rfl, vi_ge (by omega) (Int32.not_lt.mp c10)⟩ | exact Or.inr ⟨rfl, vi_neg c2⟩), by rw [htS]; exact hP9, va_K.moved hW.alike hK9, hD9⟩, hS.F htS⟩) hS.2.2 dX4_out_38

set_option maxHeartbeats 4000000 in
set_option maxRecDepth 100000 in
theorem c_X4_clear (l : Launch) (dC : Nat → ClassId) (dI : Nat → Nat → Nat) (cI : ClassId) (mx m5 m6 m7 m8 m9 m10 m11 n dn bn wn : Nat) (th : Int32) (sz : Nat)  : Met l yX4_clear wsX4_clear ({ frames := 0, cells := 0, slots := 0, locals := 0 } : Room) (va_Pc [.ref mx] (fun U => U.heap.size = sz ∧ va_P (dC, dI) vwCl [(mx, .inr (4, [.int th, .int (nI n), .int (nI dn), .int (nI bn), .int (nI wn), .ref m5, .ref m6, .ref m7, .ref m8, .ref m9, .ref m10, .ref m11]))] U.heap ∧ va_K (dC, dI) vwCl [] U ∧ va_D (fun _ => True) [(mx, .inr (4, [.int th, .int (nI n), .int (nI dn), .int (nI bn), .int (nI wn), .ref m5, .ref m6, .ref m7, .ref m8, .ref m9, .ref m10, .ref m11]))])) (va_Qi (fun (r : Int32) (_ : Unit) => r = nI n) (fun (_ : Unit) (tS : State) => va_P (dC, dI) vwCl [(mx, .inr (4, [.int 0, .int (nI 0), .int (nI dn), .int (nI bn), .int (nI wn), .ref m5, .ref m6, .ref m7, .ref m8, .ref m9, .ref m10, .ref m11]))] tS.heap ∧ va_K (dC, dI) vwCl [] tS ∧ va_D (va_A [(mx, .inr (4, [.int th, .int (nI n), .int (nI dn), .int (nI bn), .int (nI wn), .ref m5, .ref m6, .ref m7, .ref m8, .ref m9, .ref m10, .ref m11]))] sz) [(mx, .inr (4, [.int 0, .int (nI 0), .int (nI dn), .int (nI bn), .int (nI wn), .ref m5, .ref m6, .ref m7, .ref m8, .ref m9, .ref m10, .ref m11]))]) (va_A [(mx, .inr (4, [.int th, .int (nI n), .int (nI dn), .int (nI bn), .int (nI wn), .ref m5, .ref m6, .ref m7, .ref m8, .ref m9, .ref m10, .ref m11]))] sz)) 0 0 (va_A [(mx, .inr (4, [.int th, .int (nI n), .int (nI dn), .int (nI bn), .int (nI wn), .ref m5, .ref m6, .ref m7, .ref m8, .ref m9, .ref m10, .ref m11]))] sz) := by
  refine Met.ofW (cc := cX4_clear) (maxL := 2) (ret := (some .int)) (by decide) rfl ?_
  intro p e s m args below meth c s₁ B hml hv
  obtain ⟨rfl, hsz, hP, hK, hD0⟩ := hv
  have hx := B.exec
  have hb := B.bytes
  have hr := B.returns
  have hts := atoms_spec (ws := wsX4_clear) B.pre
  have hown : s.vm.findClass RX4 = some m.cls := findClass_of_methodNamed B.named
  have hlocks := B.notSynchronized
  subst hsz
  have hD := hD0.self (sz := s.heap.size)
  generalize hAe : va_A [(mx, .inr (4, [.int th, .int (nI n), .int (nI dn), .int (nI bn), .int (nI wn), .ref m5, .ref m6, .ref m7, .ref m8, .ref m9, .ref m10, .ref m11]))] s.heap.size = A at hD ⊢
  have hA : ∀ q : Nat, s.heap.size ≤ q → A q := fun q h => by rw [← hAe]; exact Or.inr h
  have hS : va_S A s.heap s.heap [] := va_S.rf
  have hinX4 : ∀ w ∈ wsX40, w ∈ wsX4_clear := by decide +kernel
  have hl := lv_entry ([.ref mx]) (n := 2) (Nat.le_of_ble_eq_true rfl)
  rw [lg_entry_eq]
  generalize (lg_sl ([.ref mx]) ++ List.replicate (2 - (lg_sl ([.ref mx])).length) Slot.unset).toArray = ls at hl ⊢
  have hl : lv_has ls 2 [(0, .ref mx)] := hl
  refine lv_aload_n hx hb dX4_clear_0 rfl (lv_at hl 0 rfl) ?_
  refine lv_iconst (v := 0) hx hb dX4_clear_1 (by decide) ?_
  refine va_put (D := (dC, dI)) (ci := 4) (v := .int 0) (ty := .int) (C := RX4) (T := TX4) (N := 12) hx hb hts hinX4 tyX4 tyX4_ok nmX4 hown hK hP hD hS 0 rfl rfl 0 (by decide) (hts (.fieldLink RX4 32 "NumberContentsModel" "thrown" "I") (by decide +kernel)) (fun _ h9 => h9) rfl (by decide +kernel) rfl rfl (Nat.le_of_ble_eq_true rfl) dX4_clear_2 (fun H locs hP hD hS => ?_)
  have hP : va_P (dC, dI) vwCl [(mx, .inr (4, [.int 0, .int (nI n), .int (nI dn), .int (nI bn), .int (nI wn), .ref m5, .ref m6, .ref m7, .ref m8, .ref m9, .ref m10, .ref m11]))] H := hP
  have hD : va_D A [(mx, .inr (4, [.int 0, .int (nI n), .int (nI dn), .int (nI bn), .int (nI wn), .ref m5, .ref m6, .ref m7, .ref m8, .ref m9, .ref m10, .ref m11]))] := hD
  refine lv_aload_n hx hb dX4_clear_5 rfl (lv_at hl 0 rfl) ?_
  refine va_get (D := (dC, dI)) (ci := 4) (v := .int (nI n)) (C := RX4) (T := TX4) (N := 12) hx hb hts hinX4 hown hK hP 0 rfl rfl 1 (by decide) (hts (.fieldLink RX4 52 "NumberContentsModel" "many" "I") (by decide +kernel)) (fun _ h9 => h9) rfl dX4_clear_6 ?_
  refine lv_istore_n (lv' := [(1, .int (nI n)), (0, .ref mx)]) hx hb dX4_clear_9 rfl hl (by decide) rfl (fun ls hl => ?_)
  refine lv_aload_n hx hb dX4_clear_10 rfl (lv_at hl 1 rfl) ?_
  refine lv_iconst (v := (nI 0)) hx hb dX4_clear_11 (by decide) ?_
  refine va_put (D := (dC, dI)) (ci := 4) (v := .int (nI 0)) (ty := .int) (C := RX4) (T := TX4) (N := 12) hx hb hts hinX4 tyX4 tyX4_ok nmX4 hown hK hP hD hS 0 rfl rfl 1 (by decide) (hts (.fieldLink RX4 52 "NumberContentsModel" "many" "I") (by decide +kernel)) (fun _ h9 => h9) rfl (by decide +kernel) rfl rfl (Nat.le_of_ble_eq_true rfl) dX4_clear_12 (fun H locs hP hD hS => ?_)
  have hP : va_P (dC, dI) vwCl [(mx, .inr (4, [.int 0, .int (nI 0), .int (nI dn), .int (nI bn), .int (nI wn), .ref m5, .ref m6, .ref m7, .ref m8, .ref m9, .ref m10, .ref m11]))] H := hP
  have hD : va_D A [(mx, .inr (4, [.int 0, .int (nI 0), .int (nI dn), .int (nI bn), .int (nI wn), .ref m5, .ref m6, .ref m7, .ref m8, .ref m9, .ref m10, .ref m11]))] := hD
  refine lv_iload_n hx hb dX4_clear_15 rfl (lv_at hl 0 rfl) ?_
  have hP9 := hP.sub (ws' := [(mx, .inr (4, [.int 0, .int (nI 0), .int (nI dn), .int (nI bn), .int (nI wn), .ref m5, .ref m6, .ref m7, .ref m8, .ref m9, .ref m10, .ref m11]))]) [0] rfl
  have hD9 := hD.sub (ws' := [(mx, .inr (4, [.int 0, .int (nI 0), .int (nI dn), .int (nI bn), .int (nI wn), .ref m5, .ref m6, .ref m7, .ref m8, .ref m9, .ref m10, .ref m11]))]) [0] (by decide) rfl
  have hK9 := hK.sub (tys' := []) [] rfl
  exact W.iret (v := (nI n)) hx hb hr (fun tS htS hW => ⟨⟨(nI n), (), rfl, rfl, by rw [htS]; exact hP9, va_K.moved hW.alike hK9, hD9⟩, hS.F htS⟩) hS.2.2 dX4_clear_16

set_option maxHeartbeats 4000000 in
set_option maxRecDepth 100000 in
theorem c_X4_count (l : Launch) (dC : Nat → ClassId) (dI : Nat → Nat → Nat) (cI : ClassId) (mx m5 m6 m7 m8 m9 m10 m11 n dn bn wn : Nat) (th : Int32) (w9 : Int32) (sz : Nat)  : Met l yX4_count wsX4_count ({ frames := 0, cells := 0, slots := 0, locals := 0 } : Room) (va_Pc [.ref mx, .int w9] (fun U => U.heap.size = sz ∧ va_P (dC, dI) vwCl [(mx, .inr (4, [.int th, .int (nI n), .int (nI dn), .int (nI bn), .int (nI wn), .ref m5, .ref m6, .ref m7, .ref m8, .ref m9, .ref m10, .ref m11]))] U.heap ∧ va_K (dC, dI) vwCl [] U ∧ va_D (fun _ => True) [(mx, .inr (4, [.int th, .int (nI n), .int (nI dn), .int (nI bn), .int (nI wn), .ref m5, .ref m6, .ref m7, .ref m8, .ref m9, .ref m10, .ref m11]))])) (va_Qi (fun (r : Int32) (_ : Unit) => (w9 = 0 ∧ r = nI n) ∨ (w9 = 1 ∧ r = nI dn) ∨ (w9 = 2 ∧ r = nI bn) ∨ (w9 = 3 ∧ r = nI wn) ∨ (¬ w9 = 0 ∧ ¬ w9 = 1 ∧ ¬ w9 = 2 ∧ ¬ w9 = 3 ∧ r = -1)) (fun (_ : Unit) (tS : State) => va_P (dC, dI) vwCl [(mx, .inr (4, [.int 0, .int (nI n), .int (nI dn), .int (nI bn), .int (nI wn), .ref m5, .ref m6, .ref m7, .ref m8, .ref m9, .ref m10, .ref m11]))] tS.heap ∧ va_K (dC, dI) vwCl [] tS ∧ va_D (va_A [(mx, .inr (4, [.int th, .int (nI n), .int (nI dn), .int (nI bn), .int (nI wn), .ref m5, .ref m6, .ref m7, .ref m8, .ref m9, .ref m10, .ref m11]))] sz) [(mx, .inr (4, [.int 0, .int (nI n), .int (nI dn), .int (nI bn), .int (nI wn), .ref m5, .ref m6, .ref m7, .ref m8, .ref m9, .ref m10, .ref m11]))]) (va_A [(mx, .inr (4, [.int th, .int (nI n), .int (nI dn), .int (nI bn), .int (nI wn), .ref m5, .ref m6, .ref m7, .ref m8, .ref m9, .ref m10, .ref m11]))] sz)) 0 0 (va_A [(mx, .inr (4, [.int th, .int (nI n), .int (nI dn), .int (nI bn), .int (nI wn), .ref m5, .ref m6, .ref m7, .ref m8, .ref m9, .ref m10, .ref m11]))] sz) := by
  refine Met.ofW (cc := cX4_count) (maxL := 2) (ret := (some .int)) (by decide) rfl ?_
  intro p e s m args below meth c s₁ B hml hv
  obtain ⟨rfl, hsz, hP, hK, hD0⟩ := hv
  have hx := B.exec
  have hb := B.bytes
  have hr := B.returns
  have hts := atoms_spec (ws := wsX4_count) B.pre
  have hown : s.vm.findClass RX4 = some m.cls := findClass_of_methodNamed B.named
  have hlocks := B.notSynchronized
  subst hsz
  have hD := hD0.self (sz := s.heap.size)
  generalize hAe : va_A [(mx, .inr (4, [.int th, .int (nI n), .int (nI dn), .int (nI bn), .int (nI wn), .ref m5, .ref m6, .ref m7, .ref m8, .ref m9, .ref m10, .ref m11]))] s.heap.size = A at hD ⊢
  have hA : ∀ q : Nat, s.heap.size ≤ q → A q := fun q h => by rw [← hAe]; exact Or.inr h
  have hS : va_S A s.heap s.heap [] := va_S.rf
  have hinX4 : ∀ w ∈ wsX40, w ∈ wsX4_count := by decide +kernel
  have hl := lv_entry ([.ref mx, .int w9]) (n := 2) (Nat.le_of_ble_eq_true rfl)
  rw [lg_entry_eq]
  generalize (lg_sl ([.ref mx, .int w9]) ++ List.replicate (2 - (lg_sl ([.ref mx, .int w9])).length) Slot.unset).toArray = ls at hl ⊢
  have hl : lv_has ls 2 [(0, .ref mx), (1, .int w9)] := hl
  refine lv_aload_n hx hb dX4_count_0 rfl (lv_at hl 0 rfl) ?_
  refine lv_iconst (v := 0) hx hb dX4_count_1 (by decide) ?_
  refine va_put (D := (dC, dI)) (ci := 4) (v := .int 0) (ty := .int) (C := RX4) (T := TX4) (N := 12) hx hb hts hinX4 tyX4 tyX4_ok nmX4 hown hK hP hD hS 0 rfl rfl 0 (by decide) (hts (.fieldLink RX4 32 "NumberContentsModel" "thrown" "I") (by decide +kernel)) (fun _ h9 => h9) rfl (by decide +kernel) rfl rfl (Nat.le_of_ble_eq_true rfl) dX4_count_2 (fun H locs hP hD hS => ?_)
  have hP : va_P (dC, dI) vwCl [(mx, .inr (4, [.int 0, .int (nI n), .int (nI dn), .int (nI bn), .int (nI wn), .ref m5, .ref m6, .ref m7, .ref m8, .ref m9, .ref m10, .ref m11]))] H := hP
  have hD : va_D A [(mx, .inr (4, [.int 0, .int (nI n), .int (nI dn), .int (nI bn), .int (nI wn), .ref m5, .ref m6, .ref m7, .ref m8, .ref m9, .ref m10, .ref m11]))] := hD
  refine lv_iload_n hx hb dX4_count_5 rfl (lv_at hl 1 rfl) ?_
  refine lv_if_ne (tgt := 16) hx hb dX4_count_6 (by decide) (fun c6 => ?_) (fun c6 => ?_)
  · refine lv_iload_n hx hb dX4_count_16 rfl (lv_at hl 1 rfl) ?_
    refine lv_iconst (v := 1) hx hb dX4_count_17 (by decide) ?_
    refine lv_icmp_ne (tgt := 28) hx hb dX4_count_18 (by decide) (fun c18 => ?_) (fun c18 => ?_)
    · refine lv_iload_n hx hb dX4_count_28 rfl (lv_at hl 1 rfl) ?_
      refine lv_iconst (v := 2) hx hb dX4_count_29 (by decide) ?_
      refine lv_icmp_ne (tgt := 40) hx hb dX4_count_30 (by decide) (fun c30 => ?_) (fun c30 => ?_)
      · refine lv_iload_n hx hb dX4_count_40 rfl (lv_at hl 1 rfl) ?_
        refine lv_iconst (v := 3) hx hb dX4_count_41 (by decide) ?_
        refine lv_icmp_ne (tgt := 52) hx hb dX4_count_42 (by decide) (fun c42 => ?_) (fun c42 => ?_)
        · refine lv_iconst (v := (-1)) hx hb dX4_count_52 (by decide) ?_
          have hP9 := hP.sub (ws' := [(mx, .inr (4, [.int 0, .int (nI n), .int (nI dn), .int (nI bn), .int (nI wn), .ref m5, .ref m6, .ref m7, .ref m8, .ref m9, .ref m10, .ref m11]))]) [0] rfl
          have hD9 := hD.sub (ws' := [(mx, .inr (4, [.int 0, .int (nI n), .int (nI dn), .int (nI bn), .int (nI wn), .ref m5, .ref m6, .ref m7, .ref m8, .ref m9, .ref m10, .ref m11]))]) [0] (by decide) rfl
          have hK9 := hK.sub (tys' := []) [] rfl
          exact W.iret (v := (-1)) hx hb hr (fun tS htS hW => ⟨⟨(-1), (), rfl, (by first | exact Or.inr (Or.inr (Or.inr (Or.inr ⟨c6, c18, c30, c42, rfl⟩))) | exact Or.inr (Or.inr (Or.inr (Or.inl ⟨c42, rfl⟩))) | exact Or.inr (Or.inr (Or.inl ⟨c30, rfl⟩)) | exact Or.inr (Or.inl ⟨c18, rfl⟩) | exact Or.inl ⟨c6, rfl⟩), by rw [htS]; exact hP9, va_K.moved hW.alike hK9, hD9⟩, hS.F htS⟩) hS.2.2 dX4_count_53
        · refine lv_aload_n hx hb dX4_count_45 rfl (lv_at hl 0 rfl) ?_
          refine va_get (D := (dC, dI)) (ci := 4) (v := .int (nI wn)) (C := RX4) (T := TX4) (N := 12) hx hb hts hinX4 hown hK hP 0 rfl rfl 4 (by decide) (hts (.fieldLink RX4 75 "NumberContentsModel" "outMany" "I") (by decide +kernel)) (fun _ h9 => h9) rfl dX4_count_46 ?_
          refine lv_goto (tgt := 53) hx hb dX4_count_49 (by decide) ?_
          have hP9 := hP.sub (ws' := [(mx, .inr (4, [.int 0, .int (nI n), .int (nI dn), .int (nI bn), .int (nI wn), .ref m5, .ref m6, .ref m7, .ref m8, .ref m9, .ref m10, .ref m11]))]) [0] rfl
          have hD9 := hD.sub (ws' := [(mx, .inr (4, [.int 0, .int (nI n), .int (nI dn), .int (nI bn), .int (nI wn), .ref m5, .ref m6, .ref m7, .ref m8, .ref m9, .ref m10, .ref m11]))]) [0] (by decide) rfl
          have hK9 := hK.sub (tys' := []) [] rfl
          exact W.iret (v := (nI wn)) hx hb hr (fun tS htS hW => ⟨⟨(nI wn), (), rfl, (by first | exact Or.inr (Or.inr (Or.inr (Or.inr ⟨c6, c18, c30, c42, rfl⟩))) | exact Or.inr (Or.inr (Or.inr (Or.inl ⟨c42, rfl⟩))) | exact Or.inr (Or.inr (Or.inl ⟨c30, rfl⟩)) | exact Or.inr (Or.inl ⟨c18, rfl⟩) | exact Or.inl ⟨c6, rfl⟩), by rw [htS]; exact hP9, va_K.moved hW.alike hK9, hD9⟩, hS.F htS⟩) hS.2.2 dX4_count_53
      · refine lv_aload_n hx hb dX4_count_33 rfl (lv_at hl 0 rfl) ?_
        refine va_get (D := (dC, dI)) (ci := 4) (v := .int (nI bn)) (C := RX4) (T := TX4) (N := 12) hx hb hts hinX4 hown hK hP 0 rfl rfl 3 (by decide) (hts (.fieldLink RX4 39 "NumberContentsModel" "byteMany" "I") (by decide +kernel)) (fun _ h9 => h9) rfl dX4_count_34 ?_
        refine lv_goto (tgt := 53) hx hb dX4_count_37 (by decide) ?_
        have hP9 := hP.sub (ws' := [(mx, .inr (4, [.int 0, .int (nI n), .int (nI dn), .int (nI bn), .int (nI wn), .ref m5, .ref m6, .ref m7, .ref m8, .ref m9, .ref m10, .ref m11]))]) [0] rfl
        have hD9 := hD.sub (ws' := [(mx, .inr (4, [.int 0, .int (nI n), .int (nI dn), .int (nI bn), .int (nI wn), .ref m5, .ref m6, .ref m7, .ref m8, .ref m9, .ref m10, .ref m11]))]) [0] (by decide) rfl
        have hK9 := hK.sub (tys' := []) [] rfl
        exact W.iret (v := (nI bn)) hx hb hr (fun tS htS hW => ⟨⟨(nI bn), (), rfl, (by first | exact Or.inr (Or.inr (Or.inr (Or.inr ⟨c6, c18, c30, c42, rfl⟩))) | exact Or.inr (Or.inr (Or.inr (Or.inl ⟨c42, rfl⟩))) | exact Or.inr (Or.inr (Or.inl ⟨c30, rfl⟩)) | exact Or.inr (Or.inl ⟨c18, rfl⟩) | exact Or.inl ⟨c6, rfl⟩), by rw [htS]; exact hP9, va_K.moved hW.alike hK9, hD9⟩, hS.F htS⟩) hS.2.2 dX4_count_53
    · refine lv_aload_n hx hb dX4_count_21 rfl (lv_at hl 0 rfl) ?_
      refine va_get (D := (dC, dI)) (ci := 4) (v := .int (nI dn)) (C := RX4) (T := TX4) (N := 12) hx hb hts hinX4 hown hK hP 0 rfl rfl 2 (by decide) (hts (.fieldLink RX4 36 "NumberContentsModel" "digitMany" "I") (by decide +kernel)) (fun _ h9 => h9) rfl dX4_count_22 ?_
      refine lv_goto (tgt := 53) hx hb dX4_count_25 (by decide) ?_
      have hP9 := hP.sub (ws' := [(mx, .inr (4, [.int 0, .int (nI n), .int (nI dn), .int (nI bn), .int (nI wn), .ref m5, .ref m6, .ref m7, .ref m8, .ref m9, .ref m10, .ref m11]))]) [0] rfl
      have hD9 := hD.sub (ws' := [(mx, .inr (4, [.int 0, .int (nI n), .int (nI dn), .int (nI bn), .int (nI wn), .ref m5, .ref m6, .ref m7, .ref m8, .ref m9, .ref m10, .ref m11]))]) [0] (by decide) rfl
      have hK9 := hK.sub (tys' := []) [] rfl
      exact W.iret (v := (nI dn)) hx hb hr (fun tS htS hW => ⟨⟨(nI dn), (), rfl, (by first | exact Or.inr (Or.inr (Or.inr (Or.inr ⟨c6, c18, c30, c42, rfl⟩))) | exact Or.inr (Or.inr (Or.inr (Or.inl ⟨c42, rfl⟩))) | exact Or.inr (Or.inr (Or.inl ⟨c30, rfl⟩)) | exact Or.inr (Or.inl ⟨c18, rfl⟩) | exact Or.inl ⟨c6, rfl⟩), by rw [htS]; exact hP9, va_K.moved hW.alike hK9, hD9⟩, hS.F htS⟩) hS.2.2 dX4_count_53
  · refine lv_aload_n hx hb dX4_count_9 rfl (lv_at hl 0 rfl) ?_
    refine va_get (D := (dC, dI)) (ci := 4) (v := .int (nI n)) (C := RX4) (T := TX4) (N := 12) hx hb hts hinX4 hown hK hP 0 rfl rfl 1 (by decide) (hts (.fieldLink RX4 52 "NumberContentsModel" "many" "I") (by decide +kernel)) (fun _ h9 => h9) rfl dX4_count_10 ?_
    refine lv_goto (tgt := 53) hx hb dX4_count_13 (by decide) ?_
    have hP9 := hP.sub (ws' := [(mx, .inr (4, [.int 0, .int (nI n), .int (nI dn), .int (nI bn), .int (nI wn), .ref m5, .ref m6, .ref m7, .ref m8, .ref m9, .ref m10, .ref m11]))]) [0] rfl
    have hD9 := hD.sub (ws' := [(mx, .inr (4, [.int 0, .int (nI n), .int (nI dn), .int (nI bn), .int (nI wn), .ref m5, .ref m6, .ref m7, .ref m8, .ref m9, .ref m10, .ref m11]))]) [0] (by decide) rfl
    have hK9 := hK.sub (tys' := []) [] rfl
    exact W.iret (v := (nI n)) hx hb hr (fun tS htS hW => ⟨⟨(nI n), (), rfl, (by first | exact Or.inr (Or.inr (Or.inr (Or.inr ⟨c6, c18, c30, c42, rfl⟩))) | exact Or.inr (Or.inr (Or.inr (Or.inl ⟨c42, rfl⟩))) | exact Or.inr (Or.inr (Or.inl ⟨c30, rfl⟩)) | exact Or.inr (Or.inl ⟨c18, rfl⟩) | exact Or.inl ⟨c6, rfl⟩), by rw [htS]; exact hP9, va_K.moved hW.alike hK9, hD9⟩, hS.F htS⟩) hS.2.2 dX4_count_53

theorem f200_210 {x : Int} (h : fitz x 204) : fitz x 210 := fitz_mono h (by decide)
theorem smm_ex {n : Nat} {w w3 g z : Nat → Nat} {o : Nat → Nat} {a b : Nat} {mi : Int32} (hI : XM n g z) (ha : a < n) (hb : b < n) (h4 : (∀ j, w j < 256) ∧ sv w 210 = mval g z a) (h5 : (∀ j, o j < 256) ∧ sv o 210 = mval g z b)
    (h3 : (∀ j, w3 j < 256) ∧ ∃ q : Int, sv w3 210 + q * ((256 ^ 210 : Nat) : Int) = sv w 210 + (if mi = 0 then 1 else -1) * sv o 210) : sv w3 210 = mval g z a + (if mi = 0 then 1 else -1) * mval g z b := by
  obtain ⟨h3, q, h⟩ := h3
  rw [h4.2, h5.2] at h
  exact sv_of_md h3 (by decide) h (f200_210 (sm_fit (mval_fit hI.1 (hI.2.2.1 a ha)) (mval_fit hI.1 (hI.2.2.1 b hb)) (by by_cases y : mi = 0; exact Or.inl (if_pos y); exact Or.inr (if_neg y))))
theorem mam_ex {g g3 : Nat → Nat} {v w : Int} {y : Int} (h : (∀ j, g3 j < 256) ∧ ∃ q : Int, (bv g3 210 : Int) + q * ((256 ^ 210 : Nat) : Int) = bv g 210 * v + w) (e : sv g 210 * v + w = y) (hy : fitz y 204) : sv g3 210 = y := ma_ex h.1 (by decide) h.2 e (f200_210 hy)

set_option maxHeartbeats 4000000 in
set_option maxRecDepth 100000 in
theorem c_X4_sum (l : Launch) (dC : Nat → ClassId) (dI : Nat → Nat → Nat) (cI cB : ClassId) (mx m5 m6 m7 m8 m9 m10 m11 n dn bn wn : Nat) (th : Int32) (g z rw ot : Nat → Nat) (a9 b9 mi : Int32) (sz : Nat) (hI : XM n g z) (hrw : ∀ j, rw j < 256) (hot : ∀ j, ot j < 256) : Met l yX4_sum wsX4_sum ({ frames := 3, cells := 0, slots := 0, locals := 66 } : Room) (va_Pc [.ref mx, .int a9, .int b9, .int mi] (fun U => U.heap.size = sz ∧ va_P (dC, dI) vwCl [(mx, .inr (4, [.int th, .int (nI n), .int (nI dn), .int (nI bn), .int (nI wn), .ref m5, .ref m6, .ref m7, .ref m8, .ref m9, .ref m10, .ref m11])), (m5, .inl (cI, 40, .inl (fun j => nI (z j)))), (m6, .inl (cI, 210, .inl (fun j => nI (rw j)))), (m7, .inl (cI, 210, .inl (fun j => nI (ot j)))), (m9, .inl (cB, 8000, .inl (fun j => sb_b (g j))))] U.heap ∧ va_K (dC, dI) vwCl [(cI, .int), (cB, .byte)] U ∧ va_D (fun _ => True) [(mx, .inr (4, [.int th, .int (nI n), .int (nI dn), .int (nI bn), .int (nI wn), .ref m5, .ref m6, .ref m7, .ref m8, .ref m9, .ref m10, .ref m11])), (m5, .inl (cI, 40, .inl (fun j => nI (z j)))), (m6, .inl (cI, 210, .inl (fun j => nI (rw j)))), (m7, .inl (cI, 210, .inl (fun j => nI (ot j)))), (m9, .inl (cB, 8000, .inl (fun j => sb_b (g j))))])) (va_Qi (fun (r : Int32) (uS : Int32 × Nat × (Nat → Nat) × (Nat → Nat) × (Nat → Nat) × (Nat → Nat)) => match uS with | (th3, n3, g3, z3, rw3, ot3) => (∀ j, rw3 j < 256) ∧ (∀ j, ot3 j < 256) ∧ ((th3 = 1 ∧ n3 = n ∧ g3 = g ∧ z3 = z ∧ ¬ (vp_in a9 n ∧ vp_in b9 n)) ∨ (th3 = 0 ∧ n3 = n + 1 ∧ (∃ aA bB, a9 = nI aA ∧ aA < n ∧ b9 = nI bB ∧ bB < n ∧ KEPTM n g z g3 z3 (mval g z aA + (if mi = 0 then 1 else -1) * mval g z bB) r)) ∨ (th3 = 2 ∧ n3 = n ∧ g3 = g ∧ z3 = z ∧ (∃ aA bB, a9 = nI aA ∧ aA < n ∧ b9 = nI bB ∧ bB < n ∧ NOKEEP n (mval g z aA + (if mi = 0 then 1 else -1) * mval g z bB))))) (fun (uS : Int32 × Nat × (Nat → Nat) × (Nat → Nat) × (Nat → Nat) × (Nat → Nat)) (tS : State) => match uS with | (th3, n3, g3, z3, rw3, ot3) => va_P (dC, dI) vwCl [(mx, .inr (4, [.int th3, .int (nI n3), .int (nI dn), .int (nI bn), .int (nI wn), .ref m5, .ref m6, .ref m7, .ref m8, .ref m9, .ref m10, .ref m11])), (m5, .inl (cI, 40, .inl (fun j => nI (z3 j)))), (m6, .inl (cI, 210, .inl (fun j => nI (rw3 j)))), (m7, .inl (cI, 210, .inl (fun j => nI (ot3 j)))), (m9, .inl (cB, 8000, .inl (fun j => sb_b (g3 j))))] tS.heap ∧ va_K (dC, dI) vwCl [(cI, .int), (cB, .byte)] tS ∧ va_D (va_A [(mx, .inr (4, [.int th, .int (nI n), .int (nI dn), .int (nI bn), .int (nI wn), .ref m5, .ref m6, .ref m7, .ref m8, .ref m9, .ref m10, .ref m11])), (m5, .inl (cI, 40, .inl (fun j => nI (z j)))), (m6, .inl (cI, 210, .inl (fun j => nI (rw j)))), (m7, .inl (cI, 210, .inl (fun j => nI (ot j)))), (m9, .inl (cB, 8000, .inl (fun j => sb_b (g j))))] sz) [(mx, .inr (4, [.int th3, .int (nI n3), .int (nI dn), .int (nI bn), .int (nI wn), .ref m5, .ref m6, .ref m7, .ref m8, .ref m9, .ref m10, .ref m11])), (m5, .inl (cI, 40, .inl (fun j => nI (z3 j)))), (m6, .inl (cI, 210, .inl (fun j => nI (rw3 j)))), (m7, .inl (cI, 210, .inl (fun j => nI (ot3 j)))), (m9, .inl (cB, 8000, .inl (fun j => sb_b (g3 j))))]) (va_A [(mx, .inr (4, [.int th, .int (nI n), .int (nI dn), .int (nI bn), .int (nI wn), .ref m5, .ref m6, .ref m7, .ref m8, .ref m9, .ref m10, .ref m11])), (m5, .inl (cI, 40, .inl (fun j => nI (z j)))), (m6, .inl (cI, 210, .inl (fun j => nI (rw j)))), (m7, .inl (cI, 210, .inl (fun j => nI (ot j)))), (m9, .inl (cB, 8000, .inl (fun j => sb_b (g j))))] sz)) 0 0 (va_A [(mx, .inr (4, [.int th, .int (nI n), .int (nI dn), .int (nI bn), .int (nI wn), .ref m5, .ref m6, .ref m7, .ref m8, .ref m9, .ref m10, .ref m11])), (m5, .inl (cI, 40, .inl (fun j => nI (z j)))), (m6, .inl (cI, 210, .inl (fun j => nI (rw j)))), (m7, .inl (cI, 210, .inl (fun j => nI (ot j)))), (m9, .inl (cB, 8000, .inl (fun j => sb_b (g j))))] sz) := by
  refine Met.ofW (cc := cX4_sum) (maxL := 4) (ret := (some .int)) (by decide) rfl ?_
  intro p e s m args below meth c s₁ B hml hv
  obtain ⟨rfl, hsz, hP, hK, hD0⟩ := hv
  have hx := B.exec
  have hb := B.bytes
  have hr := B.returns
  have hts := atoms_spec (ws := wsX4_sum) B.pre
  have hown : s.vm.findClass RX4 = some m.cls := findClass_of_methodNamed B.named
  have hlocks := B.notSynchronized
  subst hsz
  have hD := hD0.self (sz := s.heap.size)
  generalize hAe : va_A [(mx, .inr (4, [.int th, .int (nI n), .int (nI dn), .int (nI bn), .int (nI wn), .ref m5, .ref m6, .ref m7, .ref m8, .ref m9, .ref m10, .ref m11])), (m5, .inl (cI, 40, .inl (fun j => nI (z j)))), (m6, .inl (cI, 210, .inl (fun j => nI (rw j)))), (m7, .inl (cI, 210, .inl (fun j => nI (ot j)))), (m9, .inl (cB, 8000, .inl (fun j => sb_b (g j))))] s.heap.size = A at hD ⊢
  have hA : ∀ q : Nat, s.heap.size ≤ q → A q := fun q h => by rw [← hAe]; exact Or.inr h
  have hS : va_S A s.heap s.heap [] := va_S.rf
  have hinX4 : ∀ w ∈ wsX40, w ∈ wsX4_sum := by decide +kernel
  have hl := lv_entry ([.ref mx, .int a9, .int b9, .int mi]) (n := 4) (Nat.le_of_ble_eq_true rfl)
  rw [lg_entry_eq]
  generalize (lg_sl ([.ref mx, .int a9, .int b9, .int mi]) ++ List.replicate (4 - (lg_sl ([.ref mx, .int a9, .int b9, .int mi])).length) Slot.unset).toArray = ls at hl ⊢
  have hl : lv_has ls 4 [(0, .ref mx), (1, .int a9), (2, .int b9), (3, .int mi)] := hl
  obtain ⟨hg, hn, hz, hq⟩ := id hI
  refine lv_aload_n hx hb dX4_sum_0 rfl (lv_at hl 0 rfl) ?_
  refine lv_aload_n hx hb dX4_sum_1 rfl (lv_at hl 0 rfl) ?_
  refine lv_iload_n hx hb dX4_sum_2 rfl (lv_at hl 1 rfl) ?_
  have hPc := hP.sub (ws' := [(mx, .inr (4, [.int th, .int (nI n), .int (nI dn), .int (nI bn), .int (nI wn), .ref m5, .ref m6, .ref m7, .ref m8, .ref m9, .ref m10, .ref m11]))]) [0] rfl
  have hKc := hK.sub (tys' := []) [] rfl
  refine vp_callSi (W.runV (As := [.int a9]) (rest := [.ref mx]) ⟨hx, hb, hml, hown, hts⟩ (c_X4_isPlace l dC dI cI mx m5 m6 m7 m8 m9 m10 m11 n dn bn wn th a9 hn) (cwV 1 hts gX4_sum_X4_isPlace rfl rfl rfl (by decide +kernel) ⟨Nat.le_of_ble_eq_true rfl, Nat.le_of_ble_eq_true rfl⟩) ⟨fun a U g mk q => by obtain ⟨q0, qP, qK⟩ := q; exact ⟨q0, qP, va_K.moved (u := U) (U := U.calling g mk a) (Vm.Alike.refl U.vm) qK⟩, va_recv hK hP (ci := 4) (q0 := 0) rfl rfl, fun U hU hW => ⟨rfl, by rw [hU]; exact hPc, va_K.moved hW.alike hKc⟩⟩ rfl rfl hl.1 rfl (lv_room (Nat.le_of_ble_eq_true rfl)) dX4_sum_3 ⟨Nat.le_of_ble_eq_true rfl, Nat.le_of_ble_eq_true rfl⟩) (fun r3 h3 => ?_)
  refine lv_if_eq (tgt := 17) hx hb dX4_sum_6 (by decide) (fun c6 => ?_) (fun c6 => ?_)
  · refine lv_iconst (v := 1) hx hb dX4_sum_17 (by decide) ?_
    refine lv_goto (tgt := 22) hx hb dX4_sum_18 (by decide) ?_
    refine va_put (D := (dC, dI)) (ci := 4) (v := .int 1) (ty := .int) (C := RX4) (T := TX4) (N := 12) hx hb hts hinX4 tyX4 tyX4_ok nmX4 hown hK hP hD hS 0 rfl rfl 0 (by decide) (hts (.fieldLink RX4 32 "NumberContentsModel" "thrown" "I") (by decide +kernel)) (fun _ h9 => h9) rfl (by decide +kernel) rfl rfl (Nat.le_of_ble_eq_true rfl) dX4_sum_22 (fun H locs hP hD hS => ?_)
    have hP : va_P (dC, dI) vwCl [(mx, .inr (4, [.int 1, .int (nI n), .int (nI dn), .int (nI bn), .int (nI wn), .ref m5, .ref m6, .ref m7, .ref m8, .ref m9, .ref m10, .ref m11])), (m5, .inl (cI, 40, .inl (fun j => nI (z j)))), (m6, .inl (cI, 210, .inl (fun j => nI (rw j)))), (m7, .inl (cI, 210, .inl (fun j => nI (ot j)))), (m9, .inl (cB, 8000, .inl (fun j => sb_b (g j))))] H := hP
    have hD : va_D A [(mx, .inr (4, [.int 1, .int (nI n), .int (nI dn), .int (nI bn), .int (nI wn), .ref m5, .ref m6, .ref m7, .ref m8, .ref m9, .ref m10, .ref m11])), (m5, .inl (cI, 40, .inl (fun j => nI (z j)))), (m6, .inl (cI, 210, .inl (fun j => nI (rw j)))), (m7, .inl (cI, 210, .inl (fun j => nI (ot j)))), (m9, .inl (cB, 8000, .inl (fun j => sb_b (g j))))] := hD
    refine lv_aload_n hx hb dX4_sum_25 rfl (lv_at hl 0 rfl) ?_
    refine va_get (D := (dC, dI)) (ci := 4) (v := .int 1) (C := RX4) (T := TX4) (N := 12) hx hb hts hinX4 hown hK hP 0 rfl rfl 0 (by decide) (hts (.fieldLink RX4 32 "NumberContentsModel" "thrown" "I") (by decide +kernel)) (fun _ h9 => h9) rfl dX4_sum_26 ?_
    refine lv_if_le (tgt := 34) hx hb dX4_sum_29 (by decide) (fun c29 => ?_) (fun c29 => ?_)
    · first | exact absurd c29 (by decide) | exact (c29 (by decide)).elim
    · refine lv_iconst (v := 0) hx hb dX4_sum_32 (by decide) ?_
      have hP9 := hP.sub (ws' := [(mx, .inr (4, [.int 1, .int (nI n), .int (nI dn), .int (nI bn), .int (nI wn), .ref m5, .ref m6, .ref m7, .ref m8, .ref m9, .ref m10, .ref m11])), (m5, .inl (cI, 40, .inl (fun j => nI (z j)))), (m6, .inl (cI, 210, .inl (fun j => nI (rw j)))), (m7, .inl (cI, 210, .inl (fun j => nI (ot j)))), (m9, .inl (cB, 8000, .inl (fun j => sb_b (g j))))]) [0, 1, 2, 3, 4] rfl
      have hD9 := hD.sub (ws' := [(mx, .inr (4, [.int 1, .int (nI n), .int (nI dn), .int (nI bn), .int (nI wn), .ref m5, .ref m6, .ref m7, .ref m8, .ref m9, .ref m10, .ref m11])), (m5, .inl (cI, 40, .inl (fun j => nI (z j)))), (m6, .inl (cI, 210, .inl (fun j => nI (rw j)))), (m7, .inl (cI, 210, .inl (fun j => nI (ot j)))), (m9, .inl (cB, 8000, .inl (fun j => sb_b (g j))))]) [0, 1, 2, 3, 4] (by decide) rfl
      have hK9 := hK.sub (tys' := [(cI, .int), (cB, .byte)]) [0, 1] rfl
      exact W.iret (v := 0) hx hb hr (fun tS htS hW => ⟨⟨0, (1, n, g, z, rw, ot), rfl, (by first | exact ⟨hrw, hot, Or.inl ⟨rfl, rfl, rfl, rfl, fun y => ite_r h11 c14 y.2⟩⟩ | exact ⟨hrw, hot, Or.inl ⟨rfl, rfl, rfl, rfl, fun y => ite_r h3 c6 y.1⟩⟩), by rw [htS]; exact hP9, va_K.moved hW.alike hK9, hD9⟩, hS.F htS⟩) hS.2.2 dX4_sum_33
  · refine lv_aload_n hx hb dX4_sum_9 rfl (lv_at hl 0 rfl) ?_
    refine lv_iload_n hx hb dX4_sum_10 rfl (lv_at hl 2 rfl) ?_
    have hPc := hP.sub (ws' := [(mx, .inr (4, [.int th, .int (nI n), .int (nI dn), .int (nI bn), .int (nI wn), .ref m5, .ref m6, .ref m7, .ref m8, .ref m9, .ref m10, .ref m11]))]) [0] rfl
    have hKc := hK.sub (tys' := []) [] rfl
    refine vp_callSi (W.runV (As := [.int b9]) (rest := [.ref mx]) ⟨hx, hb, hml, hown, hts⟩ (c_X4_isPlace l dC dI cI mx m5 m6 m7 m8 m9 m10 m11 n dn bn wn th b9 hn) (cwV 1 hts gX4_sum_X4_isPlace rfl rfl rfl (by decide +kernel) ⟨Nat.le_of_ble_eq_true rfl, Nat.le_of_ble_eq_true rfl⟩) ⟨fun a U g mk q => by obtain ⟨q0, qP, qK⟩ := q; exact ⟨q0, qP, va_K.moved (u := U) (U := U.calling g mk a) (Vm.Alike.refl U.vm) qK⟩, va_recv hK hP (ci := 4) (q0 := 0) rfl rfl, fun U hU hW => ⟨rfl, by rw [hU]; exact hPc, va_K.moved hW.alike hKc⟩⟩ rfl rfl hl.1 rfl (lv_room (Nat.le_of_ble_eq_true rfl)) dX4_sum_11 ⟨Nat.le_of_ble_eq_true rfl, Nat.le_of_ble_eq_true rfl⟩) (fun r11 h11 => ?_)
    refine lv_if_ne (tgt := 21) hx hb dX4_sum_14 (by decide) (fun c14 => ?_) (fun c14 => ?_)
    · refine lv_iconst (v := 0) hx hb dX4_sum_21 (by decide) ?_
      refine va_put (D := (dC, dI)) (ci := 4) (v := .int 0) (ty := .int) (C := RX4) (T := TX4) (N := 12) hx hb hts hinX4 tyX4 tyX4_ok nmX4 hown hK hP hD hS 0 rfl rfl 0 (by decide) (hts (.fieldLink RX4 32 "NumberContentsModel" "thrown" "I") (by decide +kernel)) (fun _ h9 => h9) rfl (by decide +kernel) rfl rfl (Nat.le_of_ble_eq_true rfl) dX4_sum_22 (fun H locs hP hD hS => ?_)
      have hP : va_P (dC, dI) vwCl [(mx, .inr (4, [.int 0, .int (nI n), .int (nI dn), .int (nI bn), .int (nI wn), .ref m5, .ref m6, .ref m7, .ref m8, .ref m9, .ref m10, .ref m11])), (m5, .inl (cI, 40, .inl (fun j => nI (z j)))), (m6, .inl (cI, 210, .inl (fun j => nI (rw j)))), (m7, .inl (cI, 210, .inl (fun j => nI (ot j)))), (m9, .inl (cB, 8000, .inl (fun j => sb_b (g j))))] H := hP
      have hD : va_D A [(mx, .inr (4, [.int 0, .int (nI n), .int (nI dn), .int (nI bn), .int (nI wn), .ref m5, .ref m6, .ref m7, .ref m8, .ref m9, .ref m10, .ref m11])), (m5, .inl (cI, 40, .inl (fun j => nI (z j)))), (m6, .inl (cI, 210, .inl (fun j => nI (rw j)))), (m7, .inl (cI, 210, .inl (fun j => nI (ot j)))), (m9, .inl (cB, 8000, .inl (fun j => sb_b (g j))))] := hD
      refine lv_aload_n hx hb dX4_sum_25 rfl (lv_at hl 0 rfl) ?_
      refine va_get (D := (dC, dI)) (ci := 4) (v := .int 0) (C := RX4) (T := TX4) (N := 12) hx hb hts hinX4 hown hK hP 0 rfl rfl 0 (by decide) (hts (.fieldLink RX4 32 "NumberContentsModel" "thrown" "I") (by decide +kernel)) (fun _ h9 => h9) rfl dX4_sum_26 ?_
      refine lv_if_le (tgt := 34) hx hb dX4_sum_29 (by decide) (fun c29 => ?_) (fun c29 => ?_)
      · obtain ⟨a, ha, rfl⟩ := vp_in_of (ite_s h3 c6) (by omega)
        obtain ⟨b, hb9, rfl⟩ := vp_in_of (ite_s h11 c14) (by omega)
        refine lv_aload_n hx hb dX4_sum_34 rfl (lv_at hl 0 rfl) ?_
        refine lv_aload_n hx hb dX4_sum_35 rfl (lv_at hl 0 rfl) ?_
        refine va_get (D := (dC, dI)) (ci := 4) (v := .ref m6) (C := RX4) (T := TX4) (N := 12) hx hb hts hinX4 hown hK hP 0 rfl rfl 6 (by decide) (hts (.fieldLink RX4 13 "NumberContentsModel" "row" "[I") (by decide +kernel)) (fun _ h9 => h9) rfl dX4_sum_36 ?_
        refine lv_iload_n hx hb dX4_sum_39 rfl (lv_at hl 1 rfl) ?_
        have hPc := hP.sub (ws' := [(mx, .inr (4, [.int 0, .int (nI n), .int (nI dn), .int (nI bn), .int (nI wn), .ref m5, .ref m6, .ref m7, .ref m8, .ref m9, .ref m10, .ref m11])), (m5, .inl (cI, 40, .inl (fun j => nI (z j)))), (m9, .inl (cB, 8000, .inl (fun j => sb_b (g j)))), (m6, .inl (cI, 210, .inl (fun j => nI (rw j))))]) [0, 1, 4, 2] rfl
        have hKc := hK.sub (tys' := [(cI, .int), (cB, .byte)]) [0, 1] rfl
        have hDc := hD.sub (ws' := [(mx, .inr (4, [.int 0, .int (nI n), .int (nI dn), .int (nI bn), .int (nI wn), .ref m5, .ref m6, .ref m7, .ref m8, .ref m9, .ref m10, .ref m11])), (m5, .inl (cI, 40, .inl (fun j => nI (z j)))), (m9, .inl (cB, 8000, .inl (fun j => sb_b (g j)))), (m6, .inl (cI, 210, .inl (fun j => nI (rw j))))]) [0, 1, 4, 2] (by decide) rfl
        have hFc := va_free (wc := [(mx, .inr (4, [.int 0, .int (nI n), .int (nI dn), .int (nI bn), .int (nI wn), .ref m5, .ref m6, .ref m7, .ref m8, .ref m9, .ref m10, .ref m11])), (m5, .inl (cI, 40, .inl (fun j => nI (z j)))), (m9, .inl (cB, 8000, .inl (fun j => sb_b (g j)))), (m6, .inl (cI, 210, .inl (fun j => nI (rw j))))]) hD hS hA [0, 1, 4, 2] rfl
        refine va_callv (va_runV (As := [.ref m6, .int (nI a)]) (rest := []) ⟨hx, hb, hml, hown, hts⟩ (c_X4_fill l dC dI cI cB mx m5 m6 m7 m8 m9 m10 m11 n dn bn wn 0 g z rw m6 a H.size hI ha hrw) (cwV 2 hts gX4_sum_X4_fill rfl rfl rfl (by decide +kernel) ⟨Nat.le_of_ble_eq_true rfl, Nat.le_of_ble_eq_true rfl⟩) ⟨fun a U g mk q => by obtain ⟨q0, q1, qP, qK, qD⟩ := q; exact ⟨q0, q1, qP, va_K.moved (u := U) (U := U.calling g mk a) (Vm.Alike.refl U.vm) qK, qD⟩, va_recv hKc hPc (ci := 4) (q0 := 0) rfl rfl, fun U hU hW => ⟨rfl, by rw [hU], by rw [hU]; exact hPc, va_K.moved hW.alike hKc, hDc.weaken (fun _ _ _ _ => trivial)⟩⟩ rfl rfl hl.1 rfl (lv_room (Nat.le_of_ble_eq_true rfl)) dX4_sum_40 ⟨Nat.le_of_ble_eq_true rfl, Nat.le_of_ble_eq_true rfl⟩) hS (fun q _ h => hFc q h) hFc (fun uS tS H1 locs htS hvm h40 hB hzS hkS hS => ?_)
        obtain ⟨f3_40, rfl⟩ : ∃ z, z = uS := ⟨_, rfl⟩
        obtain ⟨hP1, hK1, hD1⟩ := hB
        rw [htS] at hP1
        have hK1 := va_K.moved hvm.symm hK1
        try dsimp only at h40
        obtain ⟨hP, hD⟩ := va_join (wr := [(m7, .inl (cI, 210, .inl (fun j => nI (ot j))))]) (w1 := [(mx, .inr (4, [.int 0, .int (nI n), .int (nI dn), .int (nI bn), .int (nI wn), .ref m5, .ref m6, .ref m7, .ref m8, .ref m9, .ref m10, .ref m11])), (m5, .inl (cI, 40, .inl (fun j => nI (z j)))), (m9, .inl (cB, 8000, .inl (fun j => sb_b (g j)))), (m6, .inl (cI, 210, .inl (fun j => nI (f3_40 j))))]) hP hD [0, 1, 4, 2] [3] rfl rfl (by decide) (by decide) hkS hFc hP1 hD1
        generalize H1 = H at hP hS ⊢
        have hP : va_P (dC, dI) vwCl [(m7, .inl (cI, 210, .inl (fun j => nI (ot j)))), (mx, .inr (4, [.int 0, .int (nI n), .int (nI dn), .int (nI bn), .int (nI wn), .ref m5, .ref m6, .ref m7, .ref m8, .ref m9, .ref m10, .ref m11])), (m5, .inl (cI, 40, .inl (fun j => nI (z j)))), (m9, .inl (cB, 8000, .inl (fun j => sb_b (g j)))), (m6, .inl (cI, 210, .inl (fun j => nI (f3_40 j))))] H := hP
        have hD : va_D A [(m7, .inl (cI, 210, .inl (fun j => nI (ot j)))), (mx, .inr (4, [.int 0, .int (nI n), .int (nI dn), .int (nI bn), .int (nI wn), .ref m5, .ref m6, .ref m7, .ref m8, .ref m9, .ref m10, .ref m11])), (m5, .inl (cI, 40, .inl (fun j => nI (z j)))), (m9, .inl (cB, 8000, .inl (fun j => sb_b (g j)))), (m6, .inl (cI, 210, .inl (fun j => nI (f3_40 j))))] := hD
        refine lv_aload_n hx hb dX4_sum_43 rfl (lv_at hl 0 rfl) ?_
        refine lv_aload_n hx hb dX4_sum_44 rfl (lv_at hl 0 rfl) ?_
        refine va_get (D := (dC, dI)) (ci := 4) (v := .ref m7) (C := RX4) (T := TX4) (N := 12) hx hb hts hinX4 hown hK hP 1 rfl rfl 7 (by decide) (hts (.fieldLink RX4 16 "NumberContentsModel" "other" "[I") (by decide +kernel)) (fun _ h9 => h9) rfl dX4_sum_45 ?_
        refine lv_iload_n hx hb dX4_sum_48 rfl (lv_at hl 2 rfl) ?_
        have hPc := hP.sub (ws' := [(mx, .inr (4, [.int 0, .int (nI n), .int (nI dn), .int (nI bn), .int (nI wn), .ref m5, .ref m6, .ref m7, .ref m8, .ref m9, .ref m10, .ref m11])), (m5, .inl (cI, 40, .inl (fun j => nI (z j)))), (m9, .inl (cB, 8000, .inl (fun j => sb_b (g j)))), (m7, .inl (cI, 210, .inl (fun j => nI (ot j))))]) [1, 2, 3, 0] rfl
        have hKc := hK.sub (tys' := [(cI, .int), (cB, .byte)]) [0, 1] rfl
        have hDc := hD.sub (ws' := [(mx, .inr (4, [.int 0, .int (nI n), .int (nI dn), .int (nI bn), .int (nI wn), .ref m5, .ref m6, .ref m7, .ref m8, .ref m9, .ref m10, .ref m11])), (m5, .inl (cI, 40, .inl (fun j => nI (z j)))), (m9, .inl (cB, 8000, .inl (fun j => sb_b (g j)))), (m7, .inl (cI, 210, .inl (fun j => nI (ot j))))]) [1, 2, 3, 0] (by decide) rfl
        have hFc := va_free (wc := [(mx, .inr (4, [.int 0, .int (nI n), .int (nI dn), .int (nI bn), .int (nI wn), .ref m5, .ref m6, .ref m7, .ref m8, .ref m9, .ref m10, .ref m11])), (m5, .inl (cI, 40, .inl (fun j => nI (z j)))), (m9, .inl (cB, 8000, .inl (fun j => sb_b (g j)))), (m7, .inl (cI, 210, .inl (fun j => nI (ot j))))]) hD hS hA [1, 2, 3, 0] rfl
        refine va_callv (va_runV (As := [.ref m7, .int (nI b)]) (rest := []) ⟨hx, hb, hml, hown, hts⟩ (c_X4_fill l dC dI cI cB mx m5 m6 m7 m8 m9 m10 m11 n dn bn wn 0 g z ot m7 b H.size hI hb9 hot) (cwV 2 hts gX4_sum_X4_fill rfl rfl rfl (by decide +kernel) ⟨Nat.le_of_ble_eq_true rfl, Nat.le_of_ble_eq_true rfl⟩) ⟨fun a U g mk q => by obtain ⟨q0, q1, qP, qK, qD⟩ := q; exact ⟨q0, q1, qP, va_K.moved (u := U) (U := U.calling g mk a) (Vm.Alike.refl U.vm) qK, qD⟩, va_recv hKc hPc (ci := 4) (q0 := 0) rfl rfl, fun U hU hW => ⟨rfl, by rw [hU], by rw [hU]; exact hPc, va_K.moved hW.alike hKc, hDc.weaken (fun _ _ _ _ => trivial)⟩⟩ rfl rfl hl.1 rfl (lv_room (Nat.le_of_ble_eq_true rfl)) dX4_sum_49 ⟨Nat.le_of_ble_eq_true rfl, Nat.le_of_ble_eq_true rfl⟩) hS (fun q _ h => hFc q h) hFc (fun uS tS H1 locs htS hvm h49 hB hzS hkS hS => ?_)
        obtain ⟨f3_49, rfl⟩ : ∃ z, z = uS := ⟨_, rfl⟩
        obtain ⟨hP1, hK1, hD1⟩ := hB
        rw [htS] at hP1
        have hK1 := va_K.moved hvm.symm hK1
        try dsimp only at h49
        obtain ⟨hP, hD⟩ := va_join (wr := [(m6, .inl (cI, 210, .inl (fun j => nI (f3_40 j))))]) (w1 := [(mx, .inr (4, [.int 0, .int (nI n), .int (nI dn), .int (nI bn), .int (nI wn), .ref m5, .ref m6, .ref m7, .ref m8, .ref m9, .ref m10, .ref m11])), (m5, .inl (cI, 40, .inl (fun j => nI (z j)))), (m9, .inl (cB, 8000, .inl (fun j => sb_b (g j)))), (m7, .inl (cI, 210, .inl (fun j => nI (f3_49 j))))]) hP hD [1, 2, 3, 0] [4] rfl rfl (by decide) (by decide) hkS hFc hP1 hD1
        generalize H1 = H at hP hS ⊢
        have hP : va_P (dC, dI) vwCl [(m6, .inl (cI, 210, .inl (fun j => nI (f3_40 j)))), (mx, .inr (4, [.int 0, .int (nI n), .int (nI dn), .int (nI bn), .int (nI wn), .ref m5, .ref m6, .ref m7, .ref m8, .ref m9, .ref m10, .ref m11])), (m5, .inl (cI, 40, .inl (fun j => nI (z j)))), (m9, .inl (cB, 8000, .inl (fun j => sb_b (g j)))), (m7, .inl (cI, 210, .inl (fun j => nI (f3_49 j))))] H := hP
        have hD : va_D A [(m6, .inl (cI, 210, .inl (fun j => nI (f3_40 j)))), (mx, .inr (4, [.int 0, .int (nI n), .int (nI dn), .int (nI bn), .int (nI wn), .ref m5, .ref m6, .ref m7, .ref m8, .ref m9, .ref m10, .ref m11])), (m5, .inl (cI, 40, .inl (fun j => nI (z j)))), (m9, .inl (cB, 8000, .inl (fun j => sb_b (g j)))), (m7, .inl (cI, 210, .inl (fun j => nI (f3_49 j))))] := hD
        refine lv_aload_n hx hb dX4_sum_52 rfl (lv_at hl 0 rfl) ?_
        refine lv_iload_n hx hb dX4_sum_53 rfl (lv_at hl 3 rfl) ?_
        have hPc := hP.sub (ws' := [(mx, .inr (4, [.int 0, .int (nI n), .int (nI dn), .int (nI bn), .int (nI wn), .ref m5, .ref m6, .ref m7, .ref m8, .ref m9, .ref m10, .ref m11])), (m6, .inl (cI, 210, .inl (fun j => nI (f3_40 j)))), (m7, .inl (cI, 210, .inl (fun j => nI (f3_49 j))))]) [1, 0, 4] rfl
        have hKc := hK.sub (tys' := [(cI, .int)]) [0] rfl
        have hDc := hD.sub (ws' := [(mx, .inr (4, [.int 0, .int (nI n), .int (nI dn), .int (nI bn), .int (nI wn), .ref m5, .ref m6, .ref m7, .ref m8, .ref m9, .ref m10, .ref m11])), (m6, .inl (cI, 210, .inl (fun j => nI (f3_40 j)))), (m7, .inl (cI, 210, .inl (fun j => nI (f3_49 j))))]) [1, 0, 4] (by decide) rfl
        have hFc := va_free (wc := [(mx, .inr (4, [.int 0, .int (nI n), .int (nI dn), .int (nI bn), .int (nI wn), .ref m5, .ref m6, .ref m7, .ref m8, .ref m9, .ref m10, .ref m11])), (m6, .inl (cI, 210, .inl (fun j => nI (f3_40 j)))), (m7, .inl (cI, 210, .inl (fun j => nI (f3_49 j))))]) hD hS hA [1, 0, 4] rfl
        refine va_callv (va_runV (As := [.int mi]) (rest := []) ⟨hx, hb, hml, hown, hts⟩ (c_X4_together l dC dI cI mx m5 m6 m7 m8 m9 m10 m11 n dn bn wn 0 f3_40 f3_49 mi H.size h40.1 h49.1) (cwV 1 hts gX4_sum_X4_together rfl rfl rfl (by decide +kernel) ⟨Nat.le_of_ble_eq_true rfl, Nat.le_of_ble_eq_true rfl⟩) ⟨fun a U g mk q => by obtain ⟨q0, q1, qP, qK, qD⟩ := q; exact ⟨q0, q1, qP, va_K.moved (u := U) (U := U.calling g mk a) (Vm.Alike.refl U.vm) qK, qD⟩, va_recv hKc hPc (ci := 4) (q0 := 0) rfl rfl, fun U hU hW => ⟨rfl, by rw [hU], by rw [hU]; exact hPc, va_K.moved hW.alike hKc, hDc.weaken (fun _ _ _ _ => trivial)⟩⟩ rfl rfl hl.1 rfl (lv_room (Nat.le_of_ble_eq_true rfl)) dX4_sum_54 ⟨Nat.le_of_ble_eq_true rfl, Nat.le_of_ble_eq_true rfl⟩) hS (fun q _ h => hFc q h) hFc (fun uS tS H1 locs htS hvm h54 hB hzS hkS hS => ?_)
        obtain ⟨w3_54, rfl⟩ : ∃ z, z = uS := ⟨_, rfl⟩
        obtain ⟨hP1, hK1, hD1⟩ := hB
        rw [htS] at hP1
        have hK1 := va_K.moved hvm.symm hK1
        try dsimp only at h54
        obtain ⟨hP, hD⟩ := va_join (wr := [(m5, .inl (cI, 40, .inl (fun j => nI (z j)))), (m9, .inl (cB, 8000, .inl (fun j => sb_b (g j))))]) (w1 := [(mx, .inr (4, [.int 0, .int (nI n), .int (nI dn), .int (nI bn), .int (nI wn), .ref m5, .ref m6, .ref m7, .ref m8, .ref m9, .ref m10, .ref m11])), (m6, .inl (cI, 210, .inl (fun j => nI (w3_54 j)))), (m7, .inl (cI, 210, .inl (fun j => nI (f3_49 j))))]) hP hD [1, 0, 4] [2, 3] rfl rfl (by decide) (by decide) hkS hFc hP1 hD1
        generalize H1 = H at hP hS ⊢
        have hP : va_P (dC, dI) vwCl [(m5, .inl (cI, 40, .inl (fun j => nI (z j)))), (m9, .inl (cB, 8000, .inl (fun j => sb_b (g j)))), (mx, .inr (4, [.int 0, .int (nI n), .int (nI dn), .int (nI bn), .int (nI wn), .ref m5, .ref m6, .ref m7, .ref m8, .ref m9, .ref m10, .ref m11])), (m6, .inl (cI, 210, .inl (fun j => nI (w3_54 j)))), (m7, .inl (cI, 210, .inl (fun j => nI (f3_49 j))))] H := hP
        have hD : va_D A [(m5, .inl (cI, 40, .inl (fun j => nI (z j)))), (m9, .inl (cB, 8000, .inl (fun j => sb_b (g j)))), (mx, .inr (4, [.int 0, .int (nI n), .int (nI dn), .int (nI bn), .int (nI wn), .ref m5, .ref m6, .ref m7, .ref m8, .ref m9, .ref m10, .ref m11])), (m6, .inl (cI, 210, .inl (fun j => nI (w3_54 j)))), (m7, .inl (cI, 210, .inl (fun j => nI (f3_49 j))))] := hD
        have hZ54 : sv w3_54 210 = mval g z a + (if mi = 0 then 1 else -1) * mval g z b := smm_ex hI ha hb9 h40 h49 h54
        refine lv_aload_n hx hb dX4_sum_57 rfl (lv_at hl 0 rfl) ?_
        refine lv_iconst (v := 2) hx hb dX4_sum_58 (by decide) ?_
        have hPc := hP.sub (ws' := [(mx, .inr (4, [.int 0, .int (nI n), .int (nI dn), .int (nI bn), .int (nI wn), .ref m5, .ref m6, .ref m7, .ref m8, .ref m9, .ref m10, .ref m11])), (m5, .inl (cI, 40, .inl (fun j => nI (z j)))), (m6, .inl (cI, 210, .inl (fun j => nI (w3_54 j)))), (m9, .inl (cB, 8000, .inl (fun j => sb_b (g j))))]) [2, 0, 3, 1] rfl
        have hKc := hK.sub (tys' := [(cI, .int), (cB, .byte)]) [0, 1] rfl
        have hDc := hD.sub (ws' := [(mx, .inr (4, [.int 0, .int (nI n), .int (nI dn), .int (nI bn), .int (nI wn), .ref m5, .ref m6, .ref m7, .ref m8, .ref m9, .ref m10, .ref m11])), (m5, .inl (cI, 40, .inl (fun j => nI (z j)))), (m6, .inl (cI, 210, .inl (fun j => nI (w3_54 j)))), (m9, .inl (cB, 8000, .inl (fun j => sb_b (g j))))]) [2, 0, 3, 1] (by decide) rfl
        have hFc := va_free (wc := [(mx, .inr (4, [.int 0, .int (nI n), .int (nI dn), .int (nI bn), .int (nI wn), .ref m5, .ref m6, .ref m7, .ref m8, .ref m9, .ref m10, .ref m11])), (m5, .inl (cI, 40, .inl (fun j => nI (z j)))), (m6, .inl (cI, 210, .inl (fun j => nI (w3_54 j)))), (m9, .inl (cB, 8000, .inl (fun j => sb_b (g j))))]) hD hS hA [2, 0, 3, 1] rfl
        refine va_calli (va_runV (As := [.int 2]) (rest := []) ⟨hx, hb, hml, hown, hts⟩ (c_X4_keep l dC dI cI cB mx m5 m6 m7 m8 m9 m10 m11 n dn bn wn 0 g z w3_54 2 H.size hI h54.1 (Or.inl rfl)) (cwV 1 hts gX4_sum_X4_keep rfl rfl rfl (by decide +kernel) ⟨Nat.le_of_ble_eq_true rfl, Nat.le_of_ble_eq_true rfl⟩) ⟨fun a U g mk q => by obtain ⟨q0, q1, qP, qK, qD⟩ := q; exact ⟨q0, q1, qP, va_K.moved (u := U) (U := U.calling g mk a) (Vm.Alike.refl U.vm) qK, qD⟩, va_recv hKc hPc (ci := 4) (q0 := 0) rfl rfl, fun U hU hW => ⟨rfl, by rw [hU], by rw [hU]; exact hPc, va_K.moved hW.alike hKc, hDc.weaken (fun _ _ _ _ => trivial)⟩⟩ rfl rfl hl.1 rfl (lv_room (Nat.le_of_ble_eq_true rfl)) dX4_sum_59 ⟨Nat.le_of_ble_eq_true rfl, Nat.le_of_ble_eq_true rfl⟩) hS (fun q _ h => hFc q h) hFc (fun r59 uS tS H1 locs htS hvm h59 hB hzS hkS hS => ?_)
        obtain ⟨th3_59, n3_59, g3_59, z3_59⟩ := uS
        obtain ⟨hP1, hK1, hD1⟩ := hB
        rw [htS] at hP1
        have hK1 := va_K.moved hvm.symm hK1
        try dsimp only at h59
        obtain ⟨hP, hD⟩ := va_join (wr := [(m7, .inl (cI, 210, .inl (fun j => nI (f3_49 j))))]) (w1 := [(mx, .inr (4, [.int th3_59, .int (nI n3_59), .int (nI dn), .int (nI bn), .int (nI wn), .ref m5, .ref m6, .ref m7, .ref m8, .ref m9, .ref m10, .ref m11])), (m5, .inl (cI, 40, .inl (fun j => nI (z3_59 j)))), (m6, .inl (cI, 210, .inl (fun j => nI (w3_54 j)))), (m9, .inl (cB, 8000, .inl (fun j => sb_b (g3_59 j))))]) hP hD [2, 0, 3, 1] [4] rfl rfl (by decide) (by decide) hkS hFc hP1 hD1
        generalize H1 = H at hP hS ⊢
        have hP : va_P (dC, dI) vwCl [(m7, .inl (cI, 210, .inl (fun j => nI (f3_49 j)))), (mx, .inr (4, [.int th3_59, .int (nI n3_59), .int (nI dn), .int (nI bn), .int (nI wn), .ref m5, .ref m6, .ref m7, .ref m8, .ref m9, .ref m10, .ref m11])), (m5, .inl (cI, 40, .inl (fun j => nI (z3_59 j)))), (m6, .inl (cI, 210, .inl (fun j => nI (w3_54 j)))), (m9, .inl (cB, 8000, .inl (fun j => sb_b (g3_59 j))))] H := hP
        have hD : va_D A [(m7, .inl (cI, 210, .inl (fun j => nI (f3_49 j)))), (mx, .inr (4, [.int th3_59, .int (nI n3_59), .int (nI dn), .int (nI bn), .int (nI wn), .ref m5, .ref m6, .ref m7, .ref m8, .ref m9, .ref m10, .ref m11])), (m5, .inl (cI, 40, .inl (fun j => nI (z3_59 j)))), (m6, .inl (cI, 210, .inl (fun j => nI (w3_54 j)))), (m9, .inl (cB, 8000, .inl (fun j => sb_b (g3_59 j))))] := hD
        rw [hZ54] at h59
        have hP9 := hP.sub (ws' := [(mx, .inr (4, [.int th3_59, .int (nI n3_59), .int (nI dn), .int (nI bn), .int (nI wn), .ref m5, .ref m6, .ref m7, .ref m8, .ref m9, .ref m10, .ref m11])), (m5, .inl (cI, 40, .inl (fun j => nI (z3_59 j)))), (m6, .inl (cI, 210, .inl (fun j => nI (w3_54 j)))), (m7, .inl (cI, 210, .inl (fun j => nI (f3_49 j)))), (m9, .inl (cB, 8000, .inl (fun j => sb_b (g3_59 j))))]) [1, 2, 3, 0, 4] rfl
        have hD9 := hD.sub (ws' := [(mx, .inr (4, [.int th3_59, .int (nI n3_59), .int (nI dn), .int (nI bn), .int (nI wn), .ref m5, .ref m6, .ref m7, .ref m8, .ref m9, .ref m10, .ref m11])), (m5, .inl (cI, 40, .inl (fun j => nI (z3_59 j)))), (m6, .inl (cI, 210, .inl (fun j => nI (w3_54 j)))), (m7, .inl (cI, 210, .inl (fun j => nI (f3_49 j)))), (m9, .inl (cB, 8000, .inl (fun j => sb_b (g3_59 j))))]) [1, 2, 3, 0, 4] (by decide) rfl
        have hK9 := hK.sub (tys' := [(cI, .int), (cB, .byte)]) [0, 1] rfl
        exact W.iret (v := r59) hx hb hr (fun tS htS hW => ⟨⟨r59, (th3_59, n3_59, g3_59, z3_59, w3_54, f3_49), rfl, ⟨h54.1, h49.1, Or.inr (h59.elim (fun y => Or.inl ⟨y.1, y.2.1, a, b, rfl, ha, rfl, hb9, y.2.2⟩) (fun y => Or.inr ⟨y.1, y.2.1, y.2.2.1, y.2.2.2.1, a, b, rfl, ha, rfl, hb9, y.2.2.2.2⟩))⟩, by rw [htS]; exact hP9, va_K.moved hW.alike hK9, hD9⟩, hS.F htS⟩) hS.2.2 dX4_sum_62
      · first | exact absurd c29 (by decide) | exact (c29 (by decide)).elim
    · refine lv_iconst (v := 1) hx hb dX4_sum_17 (by decide) ?_
      refine lv_goto (tgt := 22) hx hb dX4_sum_18 (by decide) ?_
      refine va_put (D := (dC, dI)) (ci := 4) (v := .int 1) (ty := .int) (C := RX4) (T := TX4) (N := 12) hx hb hts hinX4 tyX4 tyX4_ok nmX4 hown hK hP hD hS 0 rfl rfl 0 (by decide) (hts (.fieldLink RX4 32 "NumberContentsModel" "thrown" "I") (by decide +kernel)) (fun _ h9 => h9) rfl (by decide +kernel) rfl rfl (Nat.le_of_ble_eq_true rfl) dX4_sum_22 (fun H locs hP hD hS => ?_)
      have hP : va_P (dC, dI) vwCl [(mx, .inr (4, [.int 1, .int (nI n), .int (nI dn), .int (nI bn), .int (nI wn), .ref m5, .ref m6, .ref m7, .ref m8, .ref m9, .ref m10, .ref m11])), (m5, .inl (cI, 40, .inl (fun j => nI (z j)))), (m6, .inl (cI, 210, .inl (fun j => nI (rw j)))), (m7, .inl (cI, 210, .inl (fun j => nI (ot j)))), (m9, .inl (cB, 8000, .inl (fun j => sb_b (g j))))] H := hP
      have hD : va_D A [(mx, .inr (4, [.int 1, .int (nI n), .int (nI dn), .int (nI bn), .int (nI wn), .ref m5, .ref m6, .ref m7, .ref m8, .ref m9, .ref m10, .ref m11])), (m5, .inl (cI, 40, .inl (fun j => nI (z j)))), (m6, .inl (cI, 210, .inl (fun j => nI (rw j)))), (m7, .inl (cI, 210, .inl (fun j => nI (ot j)))), (m9, .inl (cB, 8000, .inl (fun j => sb_b (g j))))] := hD
      refine lv_aload_n hx hb dX4_sum_25 rfl (lv_at hl 0 rfl) ?_
      refine va_get (D := (dC, dI)) (ci := 4) (v := .int 1) (C := RX4) (T := TX4) (N := 12) hx hb hts hinX4 hown hK hP 0 rfl rfl 0 (by decide) (hts (.fieldLink RX4 32 "NumberContentsModel" "thrown" "I") (by decide +kernel)) (fun _ h9 => h9) rfl dX4_sum_26 ?_
      refine lv_if_le (tgt := 34) hx hb dX4_sum_29 (by decide) (fun c29 => ?_) (fun c29 => ?_)
      · first | exact absurd c29 (by decide) | exact (c29 (by decide)).elim
      · refine lv_iconst (v := 0) hx hb dX4_sum_32 (by decide) ?_
        have hP9 := hP.sub (ws' := [(mx, .inr (4, [.int 1, .int (nI n), .int (nI dn), .int (nI bn), .int (nI wn), .ref m5, .ref m6, .ref m7, .ref m8, .ref m9, .ref m10, .ref m11])), (m5, .inl (cI, 40, .inl (fun j => nI (z j)))), (m6, .inl (cI, 210, .inl (fun j => nI (rw j)))), (m7, .inl (cI, 210, .inl (fun j => nI (ot j)))), (m9, .inl (cB, 8000, .inl (fun j => sb_b (g j))))]) [0, 1, 2, 3, 4] rfl
        have hD9 := hD.sub (ws' := [(mx, .inr (4, [.int 1, .int (nI n), .int (nI dn), .int (nI bn), .int (nI wn), .ref m5, .ref m6, .ref m7, .ref m8, .ref m9, .ref m10, .ref m11])), (m5, .inl (cI, 40, .inl (fun j => nI (z j)))), (m6, .inl (cI, 210, .inl (fun j => nI (rw j)))), (m7, .inl (cI, 210, .inl (fun j => nI (ot j)))), (m9, .inl (cB, 8000, .inl (fun j => sb_b (g j))))]) [0, 1, 2, 3, 4] (by decide) rfl
        have hK9 := hK.sub (tys' := [(cI, .int), (cB, .byte)]) [0, 1] rfl
        exact W.iret (v := 0) hx hb hr (fun tS htS hW => ⟨⟨0, (1, n, g, z, rw, ot), rfl, (by first | exact ⟨hrw, hot, Or.inl ⟨rfl, rfl, rfl, rfl, fun y => ite_r h11 c14 y.2⟩⟩ | exact ⟨hrw, hot, Or.inl ⟨rfl, rfl, rfl, rfl, fun y => ite_r h3 c6 y.1⟩⟩), by rw [htS]; exact hP9, va_K.moved hW.alike hK9, hD9⟩, hS.F htS⟩) hS.2.2 dX4_sum_33

set_option maxHeartbeats 4000000 in
set_option maxRecDepth 100000 in
theorem c_X4_grow (l : Launch) (dC : Nat → ClassId) (dI : Nat → Nat → Nat) (cI cB : ClassId) (mx m5 m6 m7 m8 m9 m10 m11 n dn bn wn : Nat) (th : Int32) (g z rw : Nat → Nat) (a9 v9 u9 : Int32) (sz : Nat) (hI : XM n g z) (hrw : ∀ j, rw j < 256) : Met l yX4_grow wsX4_grow ({ frames := 3, cells := 0, slots := 0, locals := 66 } : Room) (va_Pc [.ref mx, .int a9, .int v9, .int u9] (fun U => U.heap.size = sz ∧ va_P (dC, dI) vwCl [(mx, .inr (4, [.int th, .int (nI n), .int (nI dn), .int (nI bn), .int (nI wn), .ref m5, .ref m6, .ref m7, .ref m8, .ref m9, .ref m10, .ref m11])), (m5, .inl (cI, 40, .inl (fun j => nI (z j)))), (m6, .inl (cI, 210, .inl (fun j => nI (rw j)))), (m9, .inl (cB, 8000, .inl (fun j => sb_b (g j))))] U.heap ∧ va_K (dC, dI) vwCl [(cI, .int), (cB, .byte)] U ∧ va_D (fun _ => True) [(mx, .inr (4, [.int th, .int (nI n), .int (nI dn), .int (nI bn), .int (nI wn), .ref m5, .ref m6, .ref m7, .ref m8, .ref m9, .ref m10, .ref m11])), (m5, .inl (cI, 40, .inl (fun j => nI (z j)))), (m6, .inl (cI, 210, .inl (fun j => nI (rw j)))), (m9, .inl (cB, 8000, .inl (fun j => sb_b (g j))))])) (va_Qi (fun (r : Int32) (uS : Int32 × Nat × (Nat → Nat) × (Nat → Nat) × (Nat → Nat)) => match uS with | (th3, n3, g3, z3, rw3) => (∀ j, rw3 j < 256) ∧ ((th3 = 1 ∧ n3 = n ∧ g3 = g ∧ z3 = z ∧ ¬ vp_in a9 n) ∨ (th3 = 0 ∧ n3 = n + 1 ∧ (∃ aA, a9 = nI aA ∧ aA < n ∧ KEPTM n g z g3 z3 (mval g z aA * v9.toInt + u9.toInt) r)) ∨ (th3 = 2 ∧ n3 = n ∧ g3 = g ∧ z3 = z ∧ (∃ aA, a9 = nI aA ∧ aA < n ∧ NOKEEP n (mval g z aA * v9.toInt + u9.toInt))))) (fun (uS : Int32 × Nat × (Nat → Nat) × (Nat → Nat) × (Nat → Nat)) (tS : State) => match uS with | (th3, n3, g3, z3, rw3) => va_P (dC, dI) vwCl [(mx, .inr (4, [.int th3, .int (nI n3), .int (nI dn), .int (nI bn), .int (nI wn), .ref m5, .ref m6, .ref m7, .ref m8, .ref m9, .ref m10, .ref m11])), (m5, .inl (cI, 40, .inl (fun j => nI (z3 j)))), (m6, .inl (cI, 210, .inl (fun j => nI (rw3 j)))), (m9, .inl (cB, 8000, .inl (fun j => sb_b (g3 j))))] tS.heap ∧ va_K (dC, dI) vwCl [(cI, .int), (cB, .byte)] tS ∧ va_D (va_A [(mx, .inr (4, [.int th, .int (nI n), .int (nI dn), .int (nI bn), .int (nI wn), .ref m5, .ref m6, .ref m7, .ref m8, .ref m9, .ref m10, .ref m11])), (m5, .inl (cI, 40, .inl (fun j => nI (z j)))), (m6, .inl (cI, 210, .inl (fun j => nI (rw j)))), (m9, .inl (cB, 8000, .inl (fun j => sb_b (g j))))] sz) [(mx, .inr (4, [.int th3, .int (nI n3), .int (nI dn), .int (nI bn), .int (nI wn), .ref m5, .ref m6, .ref m7, .ref m8, .ref m9, .ref m10, .ref m11])), (m5, .inl (cI, 40, .inl (fun j => nI (z3 j)))), (m6, .inl (cI, 210, .inl (fun j => nI (rw3 j)))), (m9, .inl (cB, 8000, .inl (fun j => sb_b (g3 j))))]) (va_A [(mx, .inr (4, [.int th, .int (nI n), .int (nI dn), .int (nI bn), .int (nI wn), .ref m5, .ref m6, .ref m7, .ref m8, .ref m9, .ref m10, .ref m11])), (m5, .inl (cI, 40, .inl (fun j => nI (z j)))), (m6, .inl (cI, 210, .inl (fun j => nI (rw j)))), (m9, .inl (cB, 8000, .inl (fun j => sb_b (g j))))] sz)) 0 0 (va_A [(mx, .inr (4, [.int th, .int (nI n), .int (nI dn), .int (nI bn), .int (nI wn), .ref m5, .ref m6, .ref m7, .ref m8, .ref m9, .ref m10, .ref m11])), (m5, .inl (cI, 40, .inl (fun j => nI (z j)))), (m6, .inl (cI, 210, .inl (fun j => nI (rw j)))), (m9, .inl (cB, 8000, .inl (fun j => sb_b (g j))))] sz) := by
  refine Met.ofW (cc := cX4_grow) (maxL := 4) (ret := (some .int)) (by decide) rfl ?_
  intro p e s m args below meth c s₁ B hml hv
  obtain ⟨rfl, hsz, hP, hK, hD0⟩ := hv
  have hx := B.exec
  have hb := B.bytes
  have hr := B.returns
  have hts := atoms_spec (ws := wsX4_grow) B.pre
  have hown : s.vm.findClass RX4 = some m.cls := findClass_of_methodNamed B.named
  have hlocks := B.notSynchronized
  subst hsz
  have hD := hD0.self (sz := s.heap.size)
  generalize hAe : va_A [(mx, .inr (4, [.int th, .int (nI n), .int (nI dn), .int (nI bn), .int (nI wn), .ref m5, .ref m6, .ref m7, .ref m8, .ref m9, .ref m10, .ref m11])), (m5, .inl (cI, 40, .inl (fun j => nI (z j)))), (m6, .inl (cI, 210, .inl (fun j => nI (rw j)))), (m9, .inl (cB, 8000, .inl (fun j => sb_b (g j))))] s.heap.size = A at hD ⊢
  have hA : ∀ q : Nat, s.heap.size ≤ q → A q := fun q h => by rw [← hAe]; exact Or.inr h
  have hS : va_S A s.heap s.heap [] := va_S.rf
  have hinX4 : ∀ w ∈ wsX40, w ∈ wsX4_grow := by decide +kernel
  have hl := lv_entry ([.ref mx, .int a9, .int v9, .int u9]) (n := 4) (Nat.le_of_ble_eq_true rfl)
  rw [lg_entry_eq]
  generalize (lg_sl ([.ref mx, .int a9, .int v9, .int u9]) ++ List.replicate (4 - (lg_sl ([.ref mx, .int a9, .int v9, .int u9])).length) Slot.unset).toArray = ls at hl ⊢
  have hl : lv_has ls 4 [(0, .ref mx), (1, .int a9), (2, .int v9), (3, .int u9)] := hl
  obtain ⟨hg, hn, hz, hq⟩ := id hI
  refine lv_aload_n hx hb dX4_grow_0 rfl (lv_at hl 0 rfl) ?_
  refine lv_aload_n hx hb dX4_grow_1 rfl (lv_at hl 0 rfl) ?_
  refine lv_iload_n hx hb dX4_grow_2 rfl (lv_at hl 1 rfl) ?_
  have hPc := hP.sub (ws' := [(mx, .inr (4, [.int th, .int (nI n), .int (nI dn), .int (nI bn), .int (nI wn), .ref m5, .ref m6, .ref m7, .ref m8, .ref m9, .ref m10, .ref m11]))]) [0] rfl
  have hKc := hK.sub (tys' := []) [] rfl
  refine vp_callSi (W.runV (As := [.int a9]) (rest := [.ref mx]) ⟨hx, hb, hml, hown, hts⟩ (c_X4_isPlace l dC dI cI mx m5 m6 m7 m8 m9 m10 m11 n dn bn wn th a9 hn) (cwV 1 hts gX4_grow_X4_isPlace rfl rfl rfl (by decide +kernel) ⟨Nat.le_of_ble_eq_true rfl, Nat.le_of_ble_eq_true rfl⟩) ⟨fun a U g mk q => by obtain ⟨q0, qP, qK⟩ := q; exact ⟨q0, qP, va_K.moved (u := U) (U := U.calling g mk a) (Vm.Alike.refl U.vm) qK⟩, va_recv hK hP (ci := 4) (q0 := 0) rfl rfl, fun U hU hW => ⟨rfl, by rw [hU]; exact hPc, va_K.moved hW.alike hKc⟩⟩ rfl rfl hl.1 rfl (lv_room (Nat.le_of_ble_eq_true rfl)) dX4_grow_3 ⟨Nat.le_of_ble_eq_true rfl, Nat.le_of_ble_eq_true rfl⟩) (fun r3 h3 => ?_)
  refine lv_if_ne (tgt := 13) hx hb dX4_grow_6 (by decide) (fun c6 => ?_) (fun c6 => ?_)
  · refine lv_iconst (v := 0) hx hb dX4_grow_13 (by decide) ?_
    refine va_put (D := (dC, dI)) (ci := 4) (v := .int 0) (ty := .int) (C := RX4) (T := TX4) (N := 12) hx hb hts hinX4 tyX4 tyX4_ok nmX4 hown hK hP hD hS 0 rfl rfl 0 (by decide) (hts (.fieldLink RX4 32 "NumberContentsModel" "thrown" "I") (by decide +kernel)) (fun _ h9 => h9) rfl (by decide +kernel) rfl rfl (Nat.le_of_ble_eq_true rfl) dX4_grow_14 (fun H locs hP hD hS => ?_)
    have hP : va_P (dC, dI) vwCl [(mx, .inr (4, [.int 0, .int (nI n), .int (nI dn), .int (nI bn), .int (nI wn), .ref m5, .ref m6, .ref m7, .ref m8, .ref m9, .ref m10, .ref m11])), (m5, .inl (cI, 40, .inl (fun j => nI (z j)))), (m6, .inl (cI, 210, .inl (fun j => nI (rw j)))), (m9, .inl (cB, 8000, .inl (fun j => sb_b (g j))))] H := hP
    have hD : va_D A [(mx, .inr (4, [.int 0, .int (nI n), .int (nI dn), .int (nI bn), .int (nI wn), .ref m5, .ref m6, .ref m7, .ref m8, .ref m9, .ref m10, .ref m11])), (m5, .inl (cI, 40, .inl (fun j => nI (z j)))), (m6, .inl (cI, 210, .inl (fun j => nI (rw j)))), (m9, .inl (cB, 8000, .inl (fun j => sb_b (g j))))] := hD
    refine lv_aload_n hx hb dX4_grow_17 rfl (lv_at hl 0 rfl) ?_
    refine va_get (D := (dC, dI)) (ci := 4) (v := .int 0) (C := RX4) (T := TX4) (N := 12) hx hb hts hinX4 hown hK hP 0 rfl rfl 0 (by decide) (hts (.fieldLink RX4 32 "NumberContentsModel" "thrown" "I") (by decide +kernel)) (fun _ h9 => h9) rfl dX4_grow_18 ?_
    refine lv_if_le (tgt := 26) hx hb dX4_grow_21 (by decide) (fun c21 => ?_) (fun c21 => ?_)
    · obtain ⟨a, ha, rfl⟩ := vp_in_of (ite_s h3 c6) (by omega)
      refine lv_aload_n hx hb dX4_grow_26 rfl (lv_at hl 0 rfl) ?_
      refine lv_aload_n hx hb dX4_grow_27 rfl (lv_at hl 0 rfl) ?_
      refine va_get (D := (dC, dI)) (ci := 4) (v := .ref m6) (C := RX4) (T := TX4) (N := 12) hx hb hts hinX4 hown hK hP 0 rfl rfl 6 (by decide) (hts (.fieldLink RX4 13 "NumberContentsModel" "row" "[I") (by decide +kernel)) (fun _ h9 => h9) rfl dX4_grow_28 ?_
      refine lv_iload_n hx hb dX4_grow_31 rfl (lv_at hl 1 rfl) ?_
      have hPc := hP.sub (ws' := [(mx, .inr (4, [.int 0, .int (nI n), .int (nI dn), .int (nI bn), .int (nI wn), .ref m5, .ref m6, .ref m7, .ref m8, .ref m9, .ref m10, .ref m11])), (m5, .inl (cI, 40, .inl (fun j => nI (z j)))), (m9, .inl (cB, 8000, .inl (fun j => sb_b (g j)))), (m6, .inl (cI, 210, .inl (fun j => nI (rw j))))]) [0, 1, 3, 2] rfl
      have hKc := hK.sub (tys' := [(cI, .int), (cB, .byte)]) [0, 1] rfl
      have hDc := hD.sub (ws' := [(mx, .inr (4, [.int 0, .int (nI n), .int (nI dn), .int (nI bn), .int (nI wn), .ref m5, .ref m6, .ref m7, .ref m8, .ref m9, .ref m10, .ref m11])), (m5, .inl (cI, 40, .inl (fun j => nI (z j)))), (m9, .inl (cB, 8000, .inl (fun j => sb_b (g j)))), (m6, .inl (cI, 210, .inl (fun j => nI (rw j))))]) [0, 1, 3, 2] (by decide) rfl
      have hFc := va_free (wc := [(mx, .inr (4, [.int 0, .int (nI n), .int (nI dn), .int (nI bn), .int (nI wn), .ref m5, .ref m6, .ref m7, .ref m8, .ref m9, .ref m10, .ref m11])), (m5, .inl (cI, 40, .inl (fun j => nI (z j)))), (m9, .inl (cB, 8000, .inl (fun j => sb_b (g j)))), (m6, .inl (cI, 210, .inl (fun j => nI (rw j))))]) hD hS hA [0, 1, 3, 2] rfl
      refine va_callv (va_runV (As := [.ref m6, .int (nI a)]) (rest := []) ⟨hx, hb, hml, hown, hts⟩ (c_X4_fill l dC dI cI cB mx m5 m6 m7 m8 m9 m10 m11 n dn bn wn 0 g z rw m6 a H.size hI ha hrw) (cwV 2 hts gX4_grow_X4_fill rfl rfl rfl (by decide +kernel) ⟨Nat.le_of_ble_eq_true rfl, Nat.le_of_ble_eq_true rfl⟩) ⟨fun a U g mk q => by obtain ⟨q0, q1, qP, qK, qD⟩ := q; exact ⟨q0, q1, qP, va_K.moved (u := U) (U := U.calling g mk a) (Vm.Alike.refl U.vm) qK, qD⟩, va_recv hKc hPc (ci := 4) (q0 := 0) rfl rfl, fun U hU hW => ⟨rfl, by rw [hU], by rw [hU]; exact hPc, va_K.moved hW.alike hKc, hDc.weaken (fun _ _ _ _ => trivial)⟩⟩ rfl rfl hl.1 rfl (lv_room (Nat.le_of_ble_eq_true rfl)) dX4_grow_32 ⟨Nat.le_of_ble_eq_true rfl, Nat.le_of_ble_eq_true rfl⟩) hS (fun q _ h => hFc q h) hFc (fun uS tS H1 locs htS hvm h32 hB hzS hkS hS => ?_)
      obtain ⟨f3_32, rfl⟩ : ∃ z, z = uS := ⟨_, rfl⟩
      obtain ⟨hP1, hK1, hD1⟩ := hB
      rw [htS] at hP1
      have hK1 := va_K.moved hvm.symm hK1
      try dsimp only at h32
      obtain ⟨hP, hD⟩ := va_join (wr := []) (w1 := [(mx, .inr (4, [.int 0, .int (nI n), .int (nI dn), .int (nI bn), .int (nI wn), .ref m5, .ref m6, .ref m7, .ref m8, .ref m9, .ref m10, .ref m11])), (m5, .inl (cI, 40, .inl (fun j => nI (z j)))), (m9, .inl (cB, 8000, .inl (fun j => sb_b (g j)))), (m6, .inl (cI, 210, .inl (fun j => nI (f3_32 j))))]) hP hD [0, 1, 3, 2] [] rfl rfl (by decide) (by decide) hkS hFc hP1 hD1
      generalize H1 = H at hP hS ⊢
      have hP : va_P (dC, dI) vwCl [(mx, .inr (4, [.int 0, .int (nI n), .int (nI dn), .int (nI bn), .int (nI wn), .ref m5, .ref m6, .ref m7, .ref m8, .ref m9, .ref m10, .ref m11])), (m5, .inl (cI, 40, .inl (fun j => nI (z j)))), (m9, .inl (cB, 8000, .inl (fun j => sb_b (g j)))), (m6, .inl (cI, 210, .inl (fun j => nI (f3_32 j))))] H := hP
      have hD : va_D A [(mx, .inr (4, [.int 0, .int (nI n), .int (nI dn), .int (nI bn), .int (nI wn), .ref m5, .ref m6, .ref m7, .ref m8, .ref m9, .ref m10, .ref m11])), (m5, .inl (cI, 40, .inl (fun j => nI (z j)))), (m9, .inl (cB, 8000, .inl (fun j => sb_b (g j)))), (m6, .inl (cI, 210, .inl (fun j => nI (f3_32 j))))] := hD
      refine lv_aload_n hx hb dX4_grow_35 rfl (lv_at hl 0 rfl) ?_
      refine lv_iload_n hx hb dX4_grow_36 rfl (lv_at hl 2 rfl) ?_
      refine lv_iload_n hx hb dX4_grow_37 rfl (lv_at hl 3 rfl) ?_
      have hPc := hP.sub (ws' := [(mx, .inr (4, [.int 0, .int (nI n), .int (nI dn), .int (nI bn), .int (nI wn), .ref m5, .ref m6, .ref m7, .ref m8, .ref m9, .ref m10, .ref m11])), (m6, .inl (cI, 210, .inl (fun j => nI (f3_32 j))))]) [0, 3] rfl
      have hKc := hK.sub (tys' := [(cI, .int)]) [0] rfl
      have hDc := hD.sub (ws' := [(mx, .inr (4, [.int 0, .int (nI n), .int (nI dn), .int (nI bn), .int (nI wn), .ref m5, .ref m6, .ref m7, .ref m8, .ref m9, .ref m10, .ref m11])), (m6, .inl (cI, 210, .inl (fun j => nI (f3_32 j))))]) [0, 3] (by decide) rfl
      have hFc := va_free (wc := [(mx, .inr (4, [.int 0, .int (nI n), .int (nI dn), .int (nI bn), .int (nI wn), .ref m5, .ref m6, .ref m7, .ref m8, .ref m9, .ref m10, .ref m11])), (m6, .inl (cI, 210, .inl (fun j => nI (f3_32 j))))]) hD hS hA [0, 3] rfl
      refine va_callv (va_runV (As := [.int v9, .int u9]) (rest := []) ⟨hx, hb, hml, hown, hts⟩ (c_X4_times l dC dI cI mx m5 m6 m7 m8 m9 m10 m11 n dn bn wn 0 f3_32 v9 u9 H.size h32.1) (cwV 2 hts gX4_grow_X4_times rfl rfl rfl (by decide +kernel) ⟨Nat.le_of_ble_eq_true rfl, Nat.le_of_ble_eq_true rfl⟩) ⟨fun a U g mk q => by obtain ⟨q0, q1, qP, qK, qD⟩ := q; exact ⟨q0, q1, qP, va_K.moved (u := U) (U := U.calling g mk a) (Vm.Alike.refl U.vm) qK, qD⟩, va_recv hKc hPc (ci := 4) (q0 := 0) rfl rfl, fun U hU hW => ⟨rfl, by rw [hU], by rw [hU]; exact hPc, va_K.moved hW.alike hKc, hDc.weaken (fun _ _ _ _ => trivial)⟩⟩ rfl rfl hl.1 rfl (lv_room (Nat.le_of_ble_eq_true rfl)) dX4_grow_38 ⟨Nat.le_of_ble_eq_true rfl, Nat.le_of_ble_eq_true rfl⟩) hS (fun q _ h => hFc q h) hFc (fun uS tS H1 locs htS hvm h38 hB hzS hkS hS => ?_)
      obtain ⟨g3_38, rfl⟩ : ∃ z, z = uS := ⟨_, rfl⟩
      obtain ⟨hP1, hK1, hD1⟩ := hB
      rw [htS] at hP1
      have hK1 := va_K.moved hvm.symm hK1
      try dsimp only at h38
      obtain ⟨hP, hD⟩ := va_join (wr := [(m5, .inl (cI, 40, .inl (fun j => nI (z j)))), (m9, .inl (cB, 8000, .inl (fun j => sb_b (g j))))]) (w1 := [(mx, .inr (4, [.int 0, .int (nI n), .int (nI dn), .int (nI bn), .int (nI wn), .ref m5, .ref m6, .ref m7, .ref m8, .ref m9, .ref m10, .ref m11])), (m6, .inl (cI, 210, .inl (fun j => nI (g3_38 j))))]) hP hD [0, 3] [1, 2] rfl rfl (by decide) (by decide) hkS hFc hP1 hD1
      generalize H1 = H at hP hS ⊢
      have hP : va_P (dC, dI) vwCl [(m5, .inl (cI, 40, .inl (fun j => nI (z j)))), (m9, .inl (cB, 8000, .inl (fun j => sb_b (g j)))), (mx, .inr (4, [.int 0, .int (nI n), .int (nI dn), .int (nI bn), .int (nI wn), .ref m5, .ref m6, .ref m7, .ref m8, .ref m9, .ref m10, .ref m11])), (m6, .inl (cI, 210, .inl (fun j => nI (g3_38 j))))] H := hP
      have hD : va_D A [(m5, .inl (cI, 40, .inl (fun j => nI (z j)))), (m9, .inl (cB, 8000, .inl (fun j => sb_b (g j)))), (mx, .inr (4, [.int 0, .int (nI n), .int (nI dn), .int (nI bn), .int (nI wn), .ref m5, .ref m6, .ref m7, .ref m8, .ref m9, .ref m10, .ref m11])), (m6, .inl (cI, 210, .inl (fun j => nI (g3_38 j))))] := hD
      have hZ38 : sv g3_38 210 = mval g z a * v9.toInt + u9.toInt := mam_ex h38 (by rw [h32.2]) (gr_fit (mval_fit hg (hz a ha)) v9 u9)
      refine lv_aload_n hx hb dX4_grow_41 rfl (lv_at hl 0 rfl) ?_
      refine lv_iconst (v := 2) hx hb dX4_grow_42 (by decide) ?_
      have hPc := hP.sub (ws' := [(mx, .inr (4, [.int 0, .int (nI n), .int (nI dn), .int (nI bn), .int (nI wn), .ref m5, .ref m6, .ref m7, .ref m8, .ref m9, .ref m10, .ref m11])), (m5, .inl (cI, 40, .inl (fun j => nI (z j)))), (m6, .inl (cI, 210, .inl (fun j => nI (g3_38 j)))), (m9, .inl (cB, 8000, .inl (fun j => sb_b (g j))))]) [2, 0, 3, 1] rfl
      have hKc := hK.sub (tys' := [(cI, .int), (cB, .byte)]) [0, 1] rfl
      have hDc := hD.sub (ws' := [(mx, .inr (4, [.int 0, .int (nI n), .int (nI dn), .int (nI bn), .int (nI wn), .ref m5, .ref m6, .ref m7, .ref m8, .ref m9, .ref m10, .ref m11])), (m5, .inl (cI, 40, .inl (fun j => nI (z j)))), (m6, .inl (cI, 210, .inl (fun j => nI (g3_38 j)))), (m9, .inl (cB, 8000, .inl (fun j => sb_b (g j))))]) [2, 0, 3, 1] (by decide) rfl
      have hFc := va_free (wc := [(mx, .inr (4, [.int 0, .int (nI n), .int (nI dn), .int (nI bn), .int (nI wn), .ref m5, .ref m6, .ref m7, .ref m8, .ref m9, .ref m10, .ref m11])), (m5, .inl (cI, 40, .inl (fun j => nI (z j)))), (m6, .inl (cI, 210, .inl (fun j => nI (g3_38 j)))), (m9, .inl (cB, 8000, .inl (fun j => sb_b (g j))))]) hD hS hA [2, 0, 3, 1] rfl
      refine va_calli (va_runV (As := [.int 2]) (rest := []) ⟨hx, hb, hml, hown, hts⟩ (c_X4_keep l dC dI cI cB mx m5 m6 m7 m8 m9 m10 m11 n dn bn wn 0 g z g3_38 2 H.size hI h38.1 (Or.inl rfl)) (cwV 1 hts gX4_grow_X4_keep rfl rfl rfl (by decide +kernel) ⟨Nat.le_of_ble_eq_true rfl, Nat.le_of_ble_eq_true rfl⟩) ⟨fun a U g mk q => by obtain ⟨q0, q1, qP, qK, qD⟩ := q; exact ⟨q0, q1, qP, va_K.moved (u := U) (U := U.calling g mk a) (Vm.Alike.refl U.vm) qK, qD⟩, va_recv hKc hPc (ci := 4) (q0 := 0) rfl rfl, fun U hU hW => ⟨rfl, by rw [hU], by rw [hU]; exact hPc, va_K.moved hW.alike hKc, hDc.weaken (fun _ _ _ _ => trivial)⟩⟩ rfl rfl hl.1 rfl (lv_room (Nat.le_of_ble_eq_true rfl)) dX4_grow_43 ⟨Nat.le_of_ble_eq_true rfl, Nat.le_of_ble_eq_true rfl⟩) hS (fun q _ h => hFc q h) hFc (fun r43 uS tS H1 locs htS hvm h43 hB hzS hkS hS => ?_)
      obtain ⟨th3_43, n3_43, g3_43, z3_43⟩ := uS
      obtain ⟨hP1, hK1, hD1⟩ := hB
      rw [htS] at hP1
      have hK1 := va_K.moved hvm.symm hK1
      try dsimp only at h43
      obtain ⟨hP, hD⟩ := va_join (wr := []) (w1 := [(mx, .inr (4, [.int th3_43, .int (nI n3_43), .int (nI dn), .int (nI bn), .int (nI wn), .ref m5, .ref m6, .ref m7, .ref m8, .ref m9, .ref m10, .ref m11])), (m5, .inl (cI, 40, .inl (fun j => nI (z3_43 j)))), (m6, .inl (cI, 210, .inl (fun j => nI (g3_38 j)))), (m9, .inl (cB, 8000, .inl (fun j => sb_b (g3_43 j))))]) hP hD [2, 0, 3, 1] [] rfl rfl (by decide) (by decide) hkS hFc hP1 hD1
      generalize H1 = H at hP hS ⊢
      have hP : va_P (dC, dI) vwCl [(mx, .inr (4, [.int th3_43, .int (nI n3_43), .int (nI dn), .int (nI bn), .int (nI wn), .ref m5, .ref m6, .ref m7, .ref m8, .ref m9, .ref m10, .ref m11])), (m5, .inl (cI, 40, .inl (fun j => nI (z3_43 j)))), (m6, .inl (cI, 210, .inl (fun j => nI (g3_38 j)))), (m9, .inl (cB, 8000, .inl (fun j => sb_b (g3_43 j))))] H := hP
      have hD : va_D A [(mx, .inr (4, [.int th3_43, .int (nI n3_43), .int (nI dn), .int (nI bn), .int (nI wn), .ref m5, .ref m6, .ref m7, .ref m8, .ref m9, .ref m10, .ref m11])), (m5, .inl (cI, 40, .inl (fun j => nI (z3_43 j)))), (m6, .inl (cI, 210, .inl (fun j => nI (g3_38 j)))), (m9, .inl (cB, 8000, .inl (fun j => sb_b (g3_43 j))))] := hD
      rw [hZ38] at h43
      have hP9 := hP.sub (ws' := [(mx, .inr (4, [.int th3_43, .int (nI n3_43), .int (nI dn), .int (nI bn), .int (nI wn), .ref m5, .ref m6, .ref m7, .ref m8, .ref m9, .ref m10, .ref m11])), (m5, .inl (cI, 40, .inl (fun j => nI (z3_43 j)))), (m6, .inl (cI, 210, .inl (fun j => nI (g3_38 j)))), (m9, .inl (cB, 8000, .inl (fun j => sb_b (g3_43 j))))]) [0, 1, 2, 3] rfl
      have hD9 := hD.sub (ws' := [(mx, .inr (4, [.int th3_43, .int (nI n3_43), .int (nI dn), .int (nI bn), .int (nI wn), .ref m5, .ref m6, .ref m7, .ref m8, .ref m9, .ref m10, .ref m11])), (m5, .inl (cI, 40, .inl (fun j => nI (z3_43 j)))), (m6, .inl (cI, 210, .inl (fun j => nI (g3_38 j)))), (m9, .inl (cB, 8000, .inl (fun j => sb_b (g3_43 j))))]) [0, 1, 2, 3] (by decide) rfl
      have hK9 := hK.sub (tys' := [(cI, .int), (cB, .byte)]) [0, 1] rfl
      exact W.iret (v := r43) hx hb hr (fun tS htS hW => ⟨⟨r43, (th3_43, n3_43, g3_43, z3_43, g3_38), rfl, ⟨h38.1, Or.inr (h43.elim (fun y => Or.inl ⟨y.1, y.2.1, a, rfl, ha, y.2.2⟩) (fun y => Or.inr ⟨y.1, y.2.1, y.2.2.1, y.2.2.2.1, a, rfl, ha, y.2.2.2.2⟩))⟩, by rw [htS]; exact hP9, va_K.moved hW.alike hK9, hD9⟩, hS.F htS⟩) hS.2.2 dX4_grow_46
    · first | exact absurd c21 (by decide) | exact (c21 (by decide)).elim
  · refine lv_iconst (v := 1) hx hb dX4_grow_9 (by decide) ?_
    refine lv_goto (tgt := 14) hx hb dX4_grow_10 (by decide) ?_
    refine va_put (D := (dC, dI)) (ci := 4) (v := .int 1) (ty := .int) (C := RX4) (T := TX4) (N := 12) hx hb hts hinX4 tyX4 tyX4_ok nmX4 hown hK hP hD hS 0 rfl rfl 0 (by decide) (hts (.fieldLink RX4 32 "NumberContentsModel" "thrown" "I") (by decide +kernel)) (fun _ h9 => h9) rfl (by decide +kernel) rfl rfl (Nat.le_of_ble_eq_true rfl) dX4_grow_14 (fun H locs hP hD hS => ?_)
    have hP : va_P (dC, dI) vwCl [(mx, .inr (4, [.int 1, .int (nI n), .int (nI dn), .int (nI bn), .int (nI wn), .ref m5, .ref m6, .ref m7, .ref m8, .ref m9, .ref m10, .ref m11])), (m5, .inl (cI, 40, .inl (fun j => nI (z j)))), (m6, .inl (cI, 210, .inl (fun j => nI (rw j)))), (m9, .inl (cB, 8000, .inl (fun j => sb_b (g j))))] H := hP
    have hD : va_D A [(mx, .inr (4, [.int 1, .int (nI n), .int (nI dn), .int (nI bn), .int (nI wn), .ref m5, .ref m6, .ref m7, .ref m8, .ref m9, .ref m10, .ref m11])), (m5, .inl (cI, 40, .inl (fun j => nI (z j)))), (m6, .inl (cI, 210, .inl (fun j => nI (rw j)))), (m9, .inl (cB, 8000, .inl (fun j => sb_b (g j))))] := hD
    refine lv_aload_n hx hb dX4_grow_17 rfl (lv_at hl 0 rfl) ?_
    refine va_get (D := (dC, dI)) (ci := 4) (v := .int 1) (C := RX4) (T := TX4) (N := 12) hx hb hts hinX4 hown hK hP 0 rfl rfl 0 (by decide) (hts (.fieldLink RX4 32 "NumberContentsModel" "thrown" "I") (by decide +kernel)) (fun _ h9 => h9) rfl dX4_grow_18 ?_
    refine lv_if_le (tgt := 26) hx hb dX4_grow_21 (by decide) (fun c21 => ?_) (fun c21 => ?_)
    · first | exact absurd c21 (by decide) | exact (c21 (by decide)).elim
    · refine lv_iconst (v := 0) hx hb dX4_grow_24 (by decide) ?_
      have hP9 := hP.sub (ws' := [(mx, .inr (4, [.int 1, .int (nI n), .int (nI dn), .int (nI bn), .int (nI wn), .ref m5, .ref m6, .ref m7, .ref m8, .ref m9, .ref m10, .ref m11])), (m5, .inl (cI, 40, .inl (fun j => nI (z j)))), (m6, .inl (cI, 210, .inl (fun j => nI (rw j)))), (m9, .inl (cB, 8000, .inl (fun j => sb_b (g j))))]) [0, 1, 2, 3] rfl
      have hD9 := hD.sub (ws' := [(mx, .inr (4, [.int 1, .int (nI n), .int (nI dn), .int (nI bn), .int (nI wn), .ref m5, .ref m6, .ref m7, .ref m8, .ref m9, .ref m10, .ref m11])), (m5, .inl (cI, 40, .inl (fun j => nI (z j)))), (m6, .inl (cI, 210, .inl (fun j => nI (rw j)))), (m9, .inl (cB, 8000, .inl (fun j => sb_b (g j))))]) [0, 1, 2, 3] (by decide) rfl
      have hK9 := hK.sub (tys' := [(cI, .int), (cB, .byte)]) [0, 1] rfl
      exact W.iret (v := 0) hx hb hr (fun tS htS hW => ⟨⟨0, (1, n, g, z, rw), rfl, ⟨hrw, Or.inl ⟨rfl, rfl, rfl, rfl, ite_r h3 c6⟩⟩, by rw [htS]; exact hP9, va_K.moved hW.alike hK9, hD9⟩, hS.F htS⟩) hS.2.2 dX4_grow_25

