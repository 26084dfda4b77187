theorem dm_step {k i v lf : Nat} (hi1 : 1 ≤ i) (hi : i ≤ k) (h : lf = v / 10 ^ (k - i)) : lf / 10 = v / 10 ^ (k - (i - 1)) := by
  rw [h, Nat.div_div_eq_div_mul, show k - (i - 1) = k - i + 1 from by omega, Nat.pow_succ]
theorem dm_new {k i v lf dn : Nat} {d : Nat → Nat} (hi1 : 1 ≤ i) (hi : i ≤ k) (h : lf = v / 10 ^ (k - i)) (hn : ∀ j, i ≤ j → j < k → d (dn + j) = v / 10 ^ (k - 1 - j) % 10) :
    ∀ j, i - 1 ≤ j → j < k → va_up d (dn + (i - 1)) (lf % 10) (dn + j) = v / 10 ^ (k - 1 - j) % 10 := by
  intro j h1 h2
  by_cases e : j = i - 1
  · rw [e, va_up_self, h, show k - 1 - (i - 1) = k - i from by omega]
  · rw [va_up_ne _ _ (by omega)]; exact hn j (by omega) h2

set_option maxHeartbeats 4000000 in
set_option maxRecDepth 100000 in
theorem c_X4_digits (l : Launch) (dC : Nat → ClassId) (dI : Nat → Nat → Nat) (cI cB : ClassId) (mx m5 m6 m7 m8 m9 m10 m11 n dn bn wn : Nat) (th : Int32) (dg : Nat → Nat) (v9 n9 : Int32) (sz : Nat) (hdn : dn ≤ 480) (hdg : ∀ j, dg j < 10) : Met l yX4_digits wsX4_digits ({ frames := 0, cells := 0, slots := 0, locals := 0 } : Room) (va_Pc [.ref mx, .int v9, .int n9] (fun U => U.heap.size = sz ∧ va_P (dC, dI) vwCl [(mx, .inr (4, [.int th, .int (nI n), .int (nI dn), .int (nI bn), .int (nI wn), .ref m5, .ref m6, .ref m7, .ref m8, .ref m9, .ref m10, .ref m11])), (m10, .inl (cB, 480, .inl (fun j => sb_b (dg j))))] U.heap ∧ va_K (dC, dI) vwCl [(cB, .byte)] U ∧ va_D (fun _ => True) [(mx, .inr (4, [.int th, .int (nI n), .int (nI dn), .int (nI bn), .int (nI wn), .ref m5, .ref m6, .ref m7, .ref m8, .ref m9, .ref m10, .ref m11])), (m10, .inl (cB, 480, .inl (fun j => sb_b (dg j))))])) (va_Qi (fun (r : Int32) (uS : Int32 × Nat × (Nat → Nat)) => match uS with | (th3, dn3, dg3) => (th3 = 0 ∧ ∃ vV kK, dgood v9 n9 vV kK ∧ dn + kK ≤ 480 ∧ dn3 = dn + kK ∧ r = nI (dn + kK) ∧ (∀ j, dg3 j < 10) ∧ (∀ j, j < dn → dg3 j = dg j) ∧ (∀ j, j < kK → dg3 (dn + j) = vV / 10 ^ (kK - 1 - j) % 10)) ∨ (th3 = 1 ∧ dn3 = dn ∧ dg3 = dg ∧ ¬ ∃ vV kK, dgood v9 n9 vV kK) ∨ (th3 = 2 ∧ dn3 = dn ∧ dg3 = dg ∧ ∃ vV kK, dgood v9 n9 vV kK ∧ 480 < dn + kK)) (fun (uS : Int32 × Nat × (Nat → Nat)) (tS : State) => match uS with | (th3, dn3, dg3) => va_P (dC, dI) vwCl [(mx, .inr (4, [.int th3, .int (nI n), .int (nI dn3), .int (nI bn), .int (nI wn), .ref m5, .ref m6, .ref m7, .ref m8, .ref m9, .ref m10, .ref m11])), (m10, .inl (cB, 480, .inl (fun j => sb_b (dg3 j))))] tS.heap ∧ va_K (dC, dI) vwCl [(cB, .byte)] tS ∧ va_D (va_A [(mx, .inr (4, [.int th, .int (nI n), .int (nI dn), .int (nI bn), .int (nI wn), .ref m5, .ref m6, .ref m7, .ref m8, .ref m9, .ref m10, .ref m11])), (m10, .inl (cB, 480, .inl (fun j => sb_b (dg j))))] sz) [(mx, .inr (4, [.int th3, .int (nI n), .int (nI dn3), .int (nI bn), .int (nI wn), .ref m5, .ref m6, .ref m7, .ref m8, .ref m9, .ref m10, .ref m11])), (m10, .inl (cB, 480, .inl (fun j => sb_b (dg3 j))))]) (va_A [(mx, .inr (4, [.int th, .int (nI n), .int (nI dn), .int (nI bn), .int (nI wn), .ref m5, .ref m6, .ref m7, .ref m8, .ref m9, .ref m10, .ref m11])), (m10, .inl (cB, 480, .inl (fun j => sb_b (dg j))))] sz)) 0 0 (va_A [(mx, .inr (4, [.int th, .int (nI n), .int (nI dn), .int (nI bn), .int (nI wn), .ref m5, .ref m6, .ref m7, .ref m8, .ref m9, .ref m10, .ref m11])), (m10, .inl (cB, 480, .inl (fun j => sb_b (dg j))))] sz) := by
  refine Met.ofW (cc := cX4_digits) (maxL := 7) (ret := (some .int)) (by decide) rfl ?_
  intro p e s m args below meth c s₁ B hml hv
  obtain ⟨rfl, hsz, hP, hK, hD0⟩ := hv
  have hx := B.exec
  have hb := B.bytes
  have hr := B.returns
  have hts := atoms_spec (ws := wsX4_digits) B.pre
  have hown : s.vm.findClass RX4 = some m.cls := findClass_of_methodNamed B.named
  have hlocks := B.notSynchronized
  subst hsz
  have hD := hD0.self (sz := s.heap.size)
  generalize hAe : va_A [(mx, .inr (4, [.int th, .int (nI n), .int (nI dn), .int (nI bn), .int (nI wn), .ref m5, .ref m6, .ref m7, .ref m8, .ref m9, .ref m10, .ref m11])), (m10, .inl (cB, 480, .inl (fun j => sb_b (dg j))))] s.heap.size = A at hD ⊢
  have hA : ∀ q : Nat, s.heap.size ≤ q → A q := fun q h => by rw [← hAe]; exact Or.inr h
  have hS : va_S A s.heap s.heap [] := va_S.rf
  have hinX4 : ∀ w ∈ wsX40, w ∈ wsX4_digits := by decide +kernel
  have hl := lv_entry ([.ref mx, .int v9, .int n9]) (n := 7) (Nat.le_of_ble_eq_true rfl)
  rw [lg_entry_eq]
  generalize (lg_sl ([.ref mx, .int v9, .int n9]) ++ List.replicate (7 - (lg_sl ([.ref mx, .int v9, .int n9])).length) Slot.unset).toArray = ls at hl ⊢
  have hl : lv_has ls 7 [(0, .ref mx), (1, .int v9), (2, .int n9)] := hl
  refine lv_iconst (v := (nI (10 ^ 0))) hx hb dX4_digits_0 (by decide) ?_
  refine lv_istore_n (lv' := [(3, .int (nI (10 ^ 0))), (0, .ref mx), (1, .int v9), (2, .int n9)]) hx hb dX4_digits_1 rfl hl (by decide) rfl (fun ls hl => ?_)
  refine lv_iload_n hx hb dX4_digits_2 rfl (lv_at hl 3 rfl) ?_
  refine lv_iconst (v := 1) hx hb dX4_digits_3 (by decide) ?_
  refine lv_icmp_lt (tgt := 21) hx hb dX4_digits_4 (by decide) (fun c4 => ?_) (fun c4 => ?_)
  · refine lv_iconst (v := 0) hx hb dX4_digits_21 (by decide) ?_
    refine lv_istore (lv' := [(4, .int 0), (3, .int (nI (10 ^ 0))), (0, .ref mx), (1, .int v9), (2, .int n9)]) hx hb dX4_digits_22 hl (by decide) rfl (fun ls hl => ?_)
    refine lv_iconst (v := (nI 0)) hx hb dX4_digits_24 (by decide) ?_
    refine lv_istore (lv' := [(5, .int (nI 0)), (4, .int 0), (3, .int (nI (10 ^ 0))), (0, .ref mx), (1, .int v9), (2, .int n9)]) hx hb dX4_digits_25 hl (by decide) rfl (fun ls hl => ?_)
    refine lv_iload hx hb dX4_digits_27 (lv_at hl 0 rfl) ?_
    refine lv_iload_n hx hb dX4_digits_29 rfl (lv_at hl 5 rfl) ?_
    refine lv_icmp_ge (tgt := 60) hx hb dX4_digits_30 (by decide) (fun c30 => ?_) (fun c30 => ?_)
    · refine lv_iload hx hb dX4_digits_60 (lv_at hl 1 rfl) ?_
      refine lv_if_eq (tgt := 74) hx hb dX4_digits_62 (by decide) (fun c62 => ?_) (fun c62 => ?_)
      · refine lv_iconst (v := 0) hx hb dX4_digits_74 (by decide) ?_
        refine lv_istore (lv' := [(4, .int 0), (5, .int (nI 0)), (3, .int (nI (10 ^ 0))), (0, .ref mx), (1, .int v9), (2, .int n9)]) hx hb dX4_digits_75 hl (by decide) rfl (fun ls hl => ?_)
        refine lv_aload_n hx hb dX4_digits_77 rfl (lv_at hl 3 rfl) ?_
        refine lv_iload hx hb dX4_digits_78 (lv_at hl 0 rfl) ?_
        refine lv_if_ne (tgt := 87) hx hb dX4_digits_80 (by decide) (fun c80 => ?_) (fun c80 => ?_)
        · first | exact absurd c80 (by decide) | exact (c80 (by decide)).elim
        · refine lv_iconst (v := 1) hx hb dX4_digits_83 (by decide) ?_
          refine lv_goto (tgt := 104) hx hb dX4_digits_84 (by decide) ?_
          refine va_put (D := (dC, dI)) (ci := 4) (v := .int 1) (ty := .int) (C := RX4) (T := TX4) (N := 12) hx hb hts hinX4 tyX4 tyX4_ok nmX4 hown hK hP hD hS 0 rfl rfl 0 (by decide) (hts (.fieldLink RX4 32 "NumberContentsModel" "thrown" "I") (by decide +kernel)) (fun _ h9 => h9) rfl (by decide +kernel) rfl rfl (Nat.le_of_ble_eq_true rfl) dX4_digits_104 (fun H locs hP hD hS => ?_)
          have hP : va_P (dC, dI) vwCl [(mx, .inr (4, [.int 1, .int (nI n), .int (nI dn), .int (nI bn), .int (nI wn), .ref m5, .ref m6, .ref m7, .ref m8, .ref m9, .ref m10, .ref m11])), (m10, .inl (cB, 480, .inl (fun j => sb_b (dg j))))] H := hP
          have hD : va_D A [(mx, .inr (4, [.int 1, .int (nI n), .int (nI dn), .int (nI bn), .int (nI wn), .ref m5, .ref m6, .ref m7, .ref m8, .ref m9, .ref m10, .ref m11])), (m10, .inl (cB, 480, .inl (fun j => sb_b (dg j))))] := hD
          refine lv_aload_n hx hb dX4_digits_107 rfl (lv_at hl 3 rfl) ?_
          refine va_get (D := (dC, dI)) (ci := 4) (v := .int 1) (C := RX4) (T := TX4) (N := 12) hx hb hts hinX4 hown hK hP 0 rfl rfl 0 (by decide) (hts (.fieldLink RX4 32 "NumberContentsModel" "thrown" "I") (by decide +kernel)) (fun _ h9 => h9) rfl dX4_digits_108 ?_
          refine lv_if_le (tgt := 116) hx hb dX4_digits_111 (by decide) (fun c111 => ?_) (fun c111 => ?_)
          · first | exact absurd c111 (by decide) | exact (c111 (by decide)).elim
          · refine lv_iconst (v := 0) hx hb dX4_digits_114 (by decide) ?_
            have hP9 := hP.sub (ws' := [(mx, .inr (4, [.int 1, .int (nI n), .int (nI dn), .int (nI bn), .int (nI wn), .ref m5, .ref m6, .ref m7, .ref m8, .ref m9, .ref m10, .ref m11])), (m10, .inl (cB, 480, .inl (fun j => sb_b (dg j))))]) [0, 1] rfl
            have hD9 := hD.sub (ws' := [(mx, .inr (4, [.int 1, .int (nI n), .int (nI dn), .int (nI bn), .int (nI wn), .ref m5, .ref m6, .ref m7, .ref m8, .ref m9, .ref m10, .ref m11])), (m10, .inl (cB, 480, .inl (fun j => sb_b (dg j))))]) [0, 1] (by decide) rfl
            have hK9 := hK.sub (tys' := [(cB, .byte)]) [0] rfl
            exact W.iret (v := 0) hx hb hr (fun tS htS hW => ⟨⟨0, (1, dn, dg), rfl, (by first | exact Or.inr (Or.inr ⟨rfl, rfl, rfl, v, k, ⟨rfl, rfl, hk1, hk9, hvk⟩, Nat.lt_of_not_le (fun y => c96 (nI_le y (by omega)))⟩) | exact Or.inr (Or.inl ⟨rfl, rfl, rfl, fun ⟨v2, k2, e1, e2, e3, e4, e5⟩ => (by have hp2 := p10_lt e4; have ev : v = v2 := (nI_eq (by omega) (by omega)).mp e1; have ek : k = k2 := (nI_eq (by omega) (by omega)).mp e2; have := (nI_leI (by omega) (by omega)).mp c67; rw [ev, ek] at this; omega)⟩) | exact Or.inr (Or.inl ⟨rfl, rfl, rfl, fun ⟨v2, k2, e1, e2, e3, e4, e5⟩ => nI_pos (n := v2) (by have := p10_lt e4; omega) (e1 ▸ c14)⟩) | exact Or.inr (Or.inl ⟨rfl, rfl, rfl, fun ⟨v2, k2, e1, e2, e3, e4, e5⟩ => nI_nlt (a := 9) (b := k2) e4 (by omega) (e2 ▸ c10)⟩) | exact Or.inr (Or.inl ⟨rfl, rfl, rfl, fun ⟨v2, k2, e1, e2, e3, e4, e5⟩ => nI_lt1 (k := k2) e3 (by omega) (e2 ▸ c4)⟩)), by rw [htS]; exact hP9, va_K.moved hW.alike hK9, hD9⟩, hS.F htS⟩) hS.2.2 dX4_digits_115
      · first | exact absurd c62 (by decide) | exact (c62 (by decide)).elim
    · refine lv_iload hx hb dX4_digits_33 (lv_at hl 1 rfl) ?_
      refine lv_if_eq (tgt := 60) hx hb dX4_digits_35 (by decide) (fun c35 => ?_) (fun c35 => ?_)
      · refine lv_iload hx hb dX4_digits_60 (lv_at hl 1 rfl) ?_
        refine lv_if_eq (tgt := 74) hx hb dX4_digits_62 (by decide) (fun c62 => ?_) (fun c62 => ?_)
        · refine lv_iconst (v := 0) hx hb dX4_digits_74 (by decide) ?_
          refine lv_istore (lv' := [(4, .int 0), (5, .int (nI 0)), (3, .int (nI (10 ^ 0))), (0, .ref mx), (1, .int v9), (2, .int n9)]) hx hb dX4_digits_75 hl (by decide) rfl (fun ls hl => ?_)
          refine lv_aload_n hx hb dX4_digits_77 rfl (lv_at hl 3 rfl) ?_
          refine lv_iload hx hb dX4_digits_78 (lv_at hl 0 rfl) ?_
          refine lv_if_ne (tgt := 87) hx hb dX4_digits_80 (by decide) (fun c80 => ?_) (fun c80 => ?_)
          · first | exact absurd c80 (by decide) | exact (c80 (by decide)).elim
          · refine lv_iconst (v := 1) hx hb dX4_digits_83 (by decide) ?_
            refine lv_goto (tgt := 104) hx hb dX4_digits_84 (by decide) ?_
            refine va_put (D := (dC, dI)) (ci := 4) (v := .int 1) (ty := .int) (C := RX4) (T := TX4) (N := 12) hx hb hts hinX4 tyX4 tyX4_ok nmX4 hown hK hP hD hS 0 rfl rfl 0 (by decide) (hts (.fieldLink RX4 32 "NumberContentsModel" "thrown" "I") (by decide +kernel)) (fun _ h9 => h9) rfl (by decide +kernel) rfl rfl (Nat.le_of_ble_eq_true rfl) dX4_digits_104 (fun H locs hP hD hS => ?_)
            have hP : va_P (dC, dI) vwCl [(mx, .inr (4, [.int 1, .int (nI n), .int (nI dn), .int (nI bn), .int (nI wn), .ref m5, .ref m6, .ref m7, .ref m8, .ref m9, .ref m10, .ref m11])), (m10, .inl (cB, 480, .inl (fun j => sb_b (dg j))))] H := hP
            have hD : va_D A [(mx, .inr (4, [.int 1, .int (nI n), .int (nI dn), .int (nI bn), .int (nI wn), .ref m5, .ref m6, .ref m7, .ref m8, .ref m9, .ref m10, .ref m11])), (m10, .inl (cB, 480, .inl (fun j => sb_b (dg j))))] := hD
            refine lv_aload_n hx hb dX4_digits_107 rfl (lv_at hl 3 rfl) ?_
            refine va_get (D := (dC, dI)) (ci := 4) (v := .int 1) (C := RX4) (T := TX4) (N := 12) hx hb hts hinX4 hown hK hP 0 rfl rfl 0 (by decide) (hts (.fieldLink RX4 32 "NumberContentsModel" "thrown" "I") (by decide +kernel)) (fun _ h9 => h9) rfl dX4_digits_108 ?_
            refine lv_if_le (tgt := 116) hx hb dX4_digits_111 (by decide) (fun c111 => ?_) (fun c111 => ?_)
            · first | exact absurd c111 (by decide) | exact (c111 (by decide)).elim
            · refine lv_iconst (v := 0) hx hb dX4_digits_114 (by decide) ?_
              have hP9 := hP.sub (ws' := [(mx, .inr (4, [.int 1, .int (nI n), .int (nI dn), .int (nI bn), .int (nI wn), .ref m5, .ref m6, .ref m7, .ref m8, .ref m9, .ref m10, .ref m11])), (m10, .inl (cB, 480, .inl (fun j => sb_b (dg j))))]) [0, 1] rfl
              have hD9 := hD.sub (ws' := [(mx, .inr (4, [.int 1, .int (nI n), .int (nI dn), .int (nI bn), .int (nI wn), .ref m5, .ref m6, .ref m7, .ref m8, .ref m9, .ref m10, .ref m11])), (m10, .inl (cB, 480, .inl (fun j => sb_b (dg j))))]) [0, 1] (by decide) rfl
              have hK9 := hK.sub (tys' := [(cB, .byte)]) [0] rfl
              exact W.iret (v := 0) hx hb hr (fun tS htS hW => ⟨⟨0, (1, dn, dg), rfl, (by first | exact Or.inr (Or.inr ⟨rfl, rfl, rfl, v, k, ⟨rfl, rfl, hk1, hk9, hvk⟩, Nat.lt_of_not_le (fun y => c96 (nI_le y (by omega)))⟩) | exact Or.inr (Or.inl ⟨rfl, rfl, rfl, fun ⟨v2, k2, e1, e2, e3, e4, e5⟩ => (by have hp2 := p10_lt e4; have ev : v = v2 := (nI_eq (by omega) (by omega)).mp e1; have ek : k = k2 := (nI_eq (by omega) (by omega)).mp e2; have := (nI_leI (by omega) (by omega)).mp c67; rw [ev, ek] at this; omega)⟩) | exact Or.inr (Or.inl ⟨rfl, rfl, rfl, fun ⟨v2, k2, e1, e2, e3, e4, e5⟩ => nI_pos (n := v2) (by have := p10_lt e4; omega) (e1 ▸ c14)⟩) | exact Or.inr (Or.inl ⟨rfl, rfl, rfl, fun ⟨v2, k2, e1, e2, e3, e4, e5⟩ => nI_nlt (a := 9) (b := k2) e4 (by omega) (e2 ▸ c10)⟩) | exact Or.inr (Or.inl ⟨rfl, rfl, rfl, fun ⟨v2, k2, e1, e2, e3, e4, e5⟩ => nI_lt1 (k := k2) e3 (by omega) (e2 ▸ c4)⟩)), by rw [htS]; exact hP9, va_K.moved hW.alike hK9, hD9⟩, hS.F htS⟩) hS.2.2 dX4_digits_115
        · first | exact absurd c62 (by decide) | exact (c62 (by decide)).elim
      · first | exact absurd c35 (by decide) | exact (c35 (by decide)).elim
  · refine lv_iload_n hx hb dX4_digits_7 rfl (lv_at hl 3 rfl) ?_
    refine lv_bipush (v := (nI 9)) hx hb dX4_digits_8 (by decide) ?_
    refine lv_icmp_gt (tgt := 21) hx hb dX4_digits_10 (by decide) (fun c10 => ?_) (fun c10 => ?_)
    · refine lv_iconst (v := 0) hx hb dX4_digits_21 (by decide) ?_
      refine lv_istore (lv' := [(4, .int 0), (3, .int (nI (10 ^ 0))), (0, .ref mx), (1, .int v9), (2, .int n9)]) hx hb dX4_digits_22 hl (by decide) rfl (fun ls hl => ?_)
      refine lv_iconst (v := (nI 0)) hx hb dX4_digits_24 (by decide) ?_
      refine lv_istore (lv' := [(5, .int (nI 0)), (4, .int 0), (3, .int (nI (10 ^ 0))), (0, .ref mx), (1, .int v9), (2, .int n9)]) hx hb dX4_digits_25 hl (by decide) rfl (fun ls hl => ?_)
      refine lv_iload hx hb dX4_digits_27 (lv_at hl 0 rfl) ?_
      refine lv_iload_n hx hb dX4_digits_29 rfl (lv_at hl 5 rfl) ?_
      refine lv_icmp_ge (tgt := 60) hx hb dX4_digits_30 (by decide) (fun c30 => ?_) (fun c30 => ?_)
      · refine lv_iload hx hb dX4_digits_60 (lv_at hl 1 rfl) ?_
        refine lv_if_eq (tgt := 74) hx hb dX4_digits_62 (by decide) (fun c62 => ?_) (fun c62 => ?_)
        · refine lv_iconst (v := 0) hx hb dX4_digits_74 (by decide) ?_
          refine lv_istore (lv' := [(4, .int 0), (5, .int (nI 0)), (3, .int (nI (10 ^ 0))), (0, .ref mx), (1, .int v9), (2, .int n9)]) hx hb dX4_digits_75 hl (by decide) rfl (fun ls hl => ?_)
          refine lv_aload_n hx hb dX4_digits_77 rfl (lv_at hl 3 rfl) ?_
          refine lv_iload hx hb dX4_digits_78 (lv_at hl 0 rfl) ?_
          refine lv_if_ne (tgt := 87) hx hb dX4_digits_80 (by decide) (fun c80 => ?_) (fun c80 => ?_)
          · first | exact absurd c80 (by decide) | exact (c80 (by decide)).elim
          · refine lv_iconst (v := 1) hx hb dX4_digits_83 (by decide) ?_
            refine lv_goto (tgt := 104) hx hb dX4_digits_84 (by decide) ?_
            refine va_put (D := (dC, dI)) (ci := 4) (v := .int 1) (ty := .int) (C := RX4) (T := TX4) (N := 12) hx hb hts hinX4 tyX4 tyX4_ok nmX4 hown hK hP hD hS 0 rfl rfl 0 (by decide) (hts (.fieldLink RX4 32 "NumberContentsModel" "thrown" "I") (by decide +kernel)) (fun _ h9 => h9) rfl (by decide +kernel) rfl rfl (Nat.le_of_ble_eq_true rfl) dX4_digits_104 (fun H locs hP hD hS => ?_)
            have hP : va_P (dC, dI) vwCl [(mx, .inr (4, [.int 1, .int (nI n), .int (nI dn), .int (nI bn), .int (nI wn), .ref m5, .ref m6, .ref m7, .ref m8, .ref m9, .ref m10, .ref m11])), (m10, .inl (cB, 480, .inl (fun j => sb_b (dg j))))] H := hP
            have hD : va_D A [(mx, .inr (4, [.int 1, .int (nI n), .int (nI dn), .int (nI bn), .int (nI wn), .ref m5, .ref m6, .ref m7, .ref m8, .ref m9, .ref m10, .ref m11])), (m10, .inl (cB, 480, .inl (fun j => sb_b (dg j))))] := hD
            refine lv_aload_n hx hb dX4_digits_107 rfl (lv_at hl 3 rfl) ?_
            refine va_get (D := (dC, dI)) (ci := 4) (v := .int 1) (C := RX4) (T := TX4) (N := 12) hx hb hts hinX4 hown hK hP 0 rfl rfl 0 (by decide) (hts (.fieldLink RX4 32 "NumberContentsModel" "thrown" "I") (by decide +kernel)) (fun _ h9 => h9) rfl dX4_digits_108 ?_
            refine lv_if_le (tgt := 116) hx hb dX4_digits_111 (by decide) (fun c111 => ?_) (fun c111 => ?_)
            · first | exact absurd c111 (by decide) | exact (c111 (by decide)).elim
            · refine lv_iconst (v := 0) hx hb dX4_digits_114 (by decide) ?_
              have hP9 := hP.sub (ws' := [(mx, .inr (4, [.int 1, .int (nI n), .int (nI dn), .int (nI bn), .int (nI wn), .ref m5, .ref m6, .ref m7, .ref m8, .ref m9, .ref m10, .ref m11])), (m10, .inl (cB, 480, .inl (fun j => sb_b (dg j))))]) [0, 1] rfl
              have hD9 := hD.sub (ws' := [(mx, .inr (4, [.int 1, .int (nI n), .int (nI dn), .int (nI bn), .int (nI wn), .ref m5, .ref m6, .ref m7, .ref m8, .ref m9, .ref m10, .ref m11])), (m10, .inl (cB, 480, .inl (fun j => sb_b (dg j))))]) [0, 1] (by decide) rfl
              have hK9 := hK.sub (tys' := [(cB, .byte)]) [0] rfl
              exact W.iret (v := 0) hx hb hr (fun tS htS hW => ⟨⟨0, (1, dn, dg), rfl, (by first | exact Or.inr (Or.inr ⟨rfl, rfl, rfl, v, k, ⟨rfl, rfl, hk1, hk9, hvk⟩, Nat.lt_of_not_le (fun y => c96 (nI_le y (by omega)))⟩) | exact Or.inr (Or.inl ⟨rfl, rfl, rfl, fun ⟨v2, k2, e1, e2, e3, e4, e5⟩ => (by have hp2 := p10_lt e4; have ev : v = v2 := (nI_eq (by omega) (by omega)).mp e1; have ek : k = k2 := (nI_eq (by omega) (by omega)).mp e2; have := (nI_leI (by omega) (by omega)).mp c67; rw [ev, ek] at this; omega)⟩) | exact Or.inr (Or.inl ⟨rfl, rfl, rfl, fun ⟨v2, k2, e1, e2, e3, e4, e5⟩ => nI_pos (n := v2) (by have := p10_lt e4; omega) (e1 ▸ c14)⟩) | exact Or.inr (Or.inl ⟨rfl, rfl, rfl, fun ⟨v2, k2, e1, e2, e3, e4, e5⟩ => nI_nlt (a := 9) (b := k2) e4 (by omega) (e2 ▸ c10)⟩) | exact Or.inr (Or.inl ⟨rfl, rfl, rfl, fun ⟨v2, k2, e1, e2, e3, e4, e5⟩ => nI_lt1 (k := k2) e3 (by omega) (e2 ▸ c4)⟩)), by rw [htS]; exact hP9, va_K.moved hW.alike hK9, hD9⟩, hS.F htS⟩) hS.2.2 dX4_digits_115
        · first | exact absurd c62 (by decide) | exact (c62 (by decide)).elim
      · refine lv_iload hx hb dX4_digits_33 (lv_at hl 1 rfl) ?_
        refine lv_if_eq (tgt := 60) hx hb dX4_digits_35 (by decide) (fun c35 => ?_) (fun c35 => ?_)
        · refine lv_iload hx hb dX4_digits_60 (lv_at hl 1 rfl) ?_
          refine lv_if_eq (tgt := 74) hx hb dX4_digits_62 (by decide) (fun c62 => ?_) (fun c62 => ?_)
          · refine lv_iconst (v := 0) hx hb dX4_digits_74 (by decide) ?_
            refine lv_istore (lv' := [(4, .int 0), (5, .int (nI 0)), (3, .int (nI (10 ^ 0))), (0, .ref mx), (1, .int v9), (2, .int n9)]) hx hb dX4_digits_75 hl (by decide) rfl (fun ls hl => ?_)
            refine lv_aload_n hx hb dX4_digits_77 rfl (lv_at hl 3 rfl) ?_
            refine lv_iload hx hb dX4_digits_78 (lv_at hl 0 rfl) ?_
            refine lv_if_ne (tgt := 87) hx hb dX4_digits_80 (by decide) (fun c80 => ?_) (fun c80 => ?_)
            · first | exact absurd c80 (by decide) | exact (c80 (by decide)).elim
            · refine lv_iconst (v := 1) hx hb dX4_digits_83 (by decide) ?_
              refine lv_goto (tgt := 104) hx hb dX4_digits_84 (by decide) ?_
              refine va_put (D := (dC, dI)) (ci := 4) (v := .int 1) (ty := .int) (C := RX4) (T := TX4) (N := 12) hx hb hts hinX4 tyX4 tyX4_ok nmX4 hown hK hP hD hS 0 rfl rfl 0 (by decide) (hts (.fieldLink RX4 32 "NumberContentsModel" "thrown" "I") (by decide +kernel)) (fun _ h9 => h9) rfl (by decide +kernel) rfl rfl (Nat.le_of_ble_eq_true rfl) dX4_digits_104 (fun H locs hP hD hS => ?_)
              have hP : va_P (dC, dI) vwCl [(mx, .inr (4, [.int 1, .int (nI n), .int (nI dn), .int (nI bn), .int (nI wn), .ref m5, .ref m6, .ref m7, .ref m8, .ref m9, .ref m10, .ref m11])), (m10, .inl (cB, 480, .inl (fun j => sb_b (dg j))))] H := hP
              have hD : va_D A [(mx, .inr (4, [.int 1, .int (nI n), .int (nI dn), .int (nI bn), .int (nI wn), .ref m5, .ref m6, .ref m7, .ref m8, .ref m9, .ref m10, .ref m11])), (m10, .inl (cB, 480, .inl (fun j => sb_b (dg j))))] := hD
              refine lv_aload_n hx hb dX4_digits_107 rfl (lv_at hl 3 rfl) ?_
              refine va_get (D := (dC, dI)) (ci := 4) (v := .int 1) (C := RX4) (T := TX4) (N := 12) hx hb hts hinX4 hown hK hP 0 rfl rfl 0 (by decide) (hts (.fieldLink RX4 32 "NumberContentsModel" "thrown" "I") (by decide +kernel)) (fun _ h9 => h9) rfl dX4_digits_108 ?_
              refine lv_if_le (tgt := 116) hx hb dX4_digits_111 (by decide) (fun c111 => ?_) (fun c111 => ?_)
              · first | exact absurd c111 (by decide) | exact (c111 (by decide)).elim
              · refine lv_iconst (v := 0) hx hb dX4_digits_114 (by decide) ?_
                have hP9 := hP.sub (ws' := [(mx, .inr (4, [.int 1, .int (nI n), .int (nI dn), .int (nI bn), .int (nI wn), .ref m5, .ref m6, .ref m7, .ref m8, .ref m9, .ref m10, .ref m11])), (m10, .inl (cB, 480, .inl (fun j => sb_b (dg j))))]) [0, 1] rfl
                have hD9 := hD.sub (ws' := [(mx, .inr (4, [.int 1, .int (nI n), .int (nI dn), .int (nI bn), .int (nI wn), .ref m5, .ref m6, .ref m7, .ref m8, .ref m9, .ref m10, .ref m11])), (m10, .inl (cB, 480, .inl (fun j => sb_b (dg j))))]) [0, 1] (by decide) rfl
                have hK9 := hK.sub (tys' := [(cB, .byte)]) [0] rfl
                exact W.iret (v := 0) hx hb hr (fun tS htS hW => ⟨⟨0, (1, dn, dg), rfl, (by first | exact Or.inr (Or.inr ⟨rfl, rfl, rfl, v, k, ⟨rfl, rfl, hk1, hk9, hvk⟩, Nat.lt_of_not_le (fun y => c96 (nI_le y (by omega)))⟩) | exact Or.inr (Or.inl ⟨rfl, rfl, rfl, fun ⟨v2, k2, e1, e2, e3, e4, e5⟩ => (by have hp2 := p10_lt e4; have ev : v = v2 := (nI_eq (by omega) (by omega)).mp e1; have ek : k = k2 := (nI_eq (by omega) (by omega)).mp e2; have := (nI_leI (by omega) (by omega)).mp c67; rw [ev, ek] at this; omega)⟩) | exact Or.inr (Or.inl ⟨rfl, rfl, rfl, fun ⟨v2, k2, e1, e2, e3, e4, e5⟩ => nI_pos (n := v2) (by have := p10_lt e4; omega) (e1 ▸ c14)⟩) | exact Or.inr (Or.inl ⟨rfl, rfl, rfl, fun ⟨v2, k2, e1, e2, e3, e4, e5⟩ => nI_nlt (a := 9) (b := k2) e4 (by omega) (e2 ▸ c10)⟩) | exact Or.inr (Or.inl ⟨rfl, rfl, rfl, fun ⟨v2, k2, e1, e2, e3, e4, e5⟩ => nI_lt1 (k := k2) e3 (by omega) (e2 ▸ c4)⟩)), by rw [htS]; exact hP9, va_K.moved hW.alike hK9, hD9⟩, hS.F htS⟩) hS.2.2 dX4_digits_115
          · first | exact absurd c62 (by decide) | exact (c62 (by decide)).elim
        · first | exact absurd c35 (by decide) | exact (c35 (by decide)).elim
    · refine lv_iload_n hx hb dX4_digits_13 rfl (lv_at hl 2 rfl) ?_
      refine lv_if_lt (tgt := 21) hx hb dX4_digits_14 (by decide) (fun c14 => ?_) (fun c14 => ?_)
      · refine lv_iconst (v := 0) hx hb dX4_digits_21 (by decide) ?_
        refine lv_istore (lv' := [(4, .int 0), (3, .int (nI (10 ^ 0))), (0, .ref mx), (1, .int v9), (2, .int n9)]) hx hb dX4_digits_22 hl (by decide) rfl (fun ls hl => ?_)
        refine lv_iconst (v := (nI 0)) hx hb dX4_digits_24 (by decide) ?_
        refine lv_istore (lv' := [(5, .int (nI 0)), (4, .int 0), (3, .int (nI (10 ^ 0))), (0, .ref mx), (1, .int v9), (2, .int n9)]) hx hb dX4_digits_25 hl (by decide) rfl (fun ls hl => ?_)
        refine lv_iload hx hb dX4_digits_27 (lv_at hl 0 rfl) ?_
        refine lv_iload_n hx hb dX4_digits_29 rfl (lv_at hl 5 rfl) ?_
        refine lv_icmp_ge (tgt := 60) hx hb dX4_digits_30 (by decide) (fun c30 => ?_) (fun c30 => ?_)
        · refine lv_iload hx hb dX4_digits_60 (lv_at hl 1 rfl) ?_
          refine lv_if_eq (tgt := 74) hx hb dX4_digits_62 (by decide) (fun c62 => ?_) (fun c62 => ?_)
          · refine lv_iconst (v := 0) hx hb dX4_digits_74 (by decide) ?_
            refine lv_istore (lv' := [(4, .int 0), (5, .int (nI 0)), (3, .int (nI (10 ^ 0))), (0, .ref mx), (1, .int v9), (2, .int n9)]) hx hb dX4_digits_75 hl (by decide) rfl (fun ls hl => ?_)
            refine lv_aload_n hx hb dX4_digits_77 rfl (lv_at hl 3 rfl) ?_
            refine lv_iload hx hb dX4_digits_78 (lv_at hl 0 rfl) ?_
            refine lv_if_ne (tgt := 87) hx hb dX4_digits_80 (by decide) (fun c80 => ?_) (fun c80 => ?_)
            · first | exact absurd c80 (by decide) | exact (c80 (by decide)).elim
            · refine lv_iconst (v := 1) hx hb dX4_digits_83 (by decide) ?_
              refine lv_goto (tgt := 104) hx hb dX4_digits_84 (by decide) ?_
              refine va_put (D := (dC, dI)) (ci := 4) (v := .int 1) (ty := .int) (C := RX4) (T := TX4) (N := 12) hx hb hts hinX4 tyX4 tyX4_ok nmX4 hown hK hP hD hS 0 rfl rfl 0 (by decide) (hts (.fieldLink RX4 32 "NumberContentsModel" "thrown" "I") (by decide +kernel)) (fun _ h9 => h9) rfl (by decide +kernel) rfl rfl (Nat.le_of_ble_eq_true rfl) dX4_digits_104 (fun H locs hP hD hS => ?_)
              have hP : va_P (dC, dI) vwCl [(mx, .inr (4, [.int 1, .int (nI n), .int (nI dn), .int (nI bn), .int (nI wn), .ref m5, .ref m6, .ref m7, .ref m8, .ref m9, .ref m10, .ref m11])), (m10, .inl (cB, 480, .inl (fun j => sb_b (dg j))))] H := hP
              have hD : va_D A [(mx, .inr (4, [.int 1, .int (nI n), .int (nI dn), .int (nI bn), .int (nI wn), .ref m5, .ref m6, .ref m7, .ref m8, .ref m9, .ref m10, .ref m11])), (m10, .inl (cB, 480, .inl (fun j => sb_b (dg j))))] := hD
              refine lv_aload_n hx hb dX4_digits_107 rfl (lv_at hl 3 rfl) ?_
              refine va_get (D := (dC, dI)) (ci := 4) (v := .int 1) (C := RX4) (T := TX4) (N := 12) hx hb hts hinX4 hown hK hP 0 rfl rfl 0 (by decide) (hts (.fieldLink RX4 32 "NumberContentsModel" "thrown" "I") (by decide +kernel)) (fun _ h9 => h9) rfl dX4_digits_108 ?_
              refine lv_if_le (tgt := 116) hx hb dX4_digits_111 (by decide) (fun c111 => ?_) (fun c111 => ?_)
              · first | exact absurd c111 (by decide) | exact (c111 (by decide)).elim
              · refine lv_iconst (v := 0) hx hb dX4_digits_114 (by decide) ?_
                have hP9 := hP.sub (ws' := [(mx, .inr (4, [.int 1, .int (nI n), .int (nI dn), .int (nI bn), .int (nI wn), .ref m5, .ref m6, .ref m7, .ref m8, .ref m9, .ref m10, .ref m11])), (m10, .inl (cB, 480, .inl (fun j => sb_b (dg j))))]) [0, 1] rfl
                have hD9 := hD.sub (ws' := [(mx, .inr (4, [.int 1, .int (nI n), .int (nI dn), .int (nI bn), .int (nI wn), .ref m5, .ref m6, .ref m7, .ref m8, .ref m9, .ref m10, .ref m11])), (m10, .inl (cB, 480, .inl (fun j => sb_b (dg j))))]) [0, 1] (by decide) rfl
                have hK9 := hK.sub (tys' := [(cB, .byte)]) [0] rfl
                exact W.iret (v := 0) hx hb hr (fun tS htS hW => ⟨⟨0, (1, dn, dg), rfl, (by first | exact Or.inr (Or.inr ⟨rfl, rfl, rfl, v, k, ⟨rfl, rfl, hk1, hk9, hvk⟩, Nat.lt_of_not_le (fun y => c96 (nI_le y (by omega)))⟩) | exact Or.inr (Or.inl ⟨rfl, rfl, rfl, fun ⟨v2, k2, e1, e2, e3, e4, e5⟩ => (by have hp2 := p10_lt e4; have ev : v = v2 := (nI_eq (by omega) (by omega)).mp e1; have ek : k = k2 := (nI_eq (by omega) (by omega)).mp e2; have := (nI_leI (by omega) (by omega)).mp c67; rw [ev, ek] at this; omega)⟩) | exact Or.inr (Or.inl ⟨rfl, rfl, rfl, fun ⟨v2, k2, e1, e2, e3, e4, e5⟩ => nI_pos (n := v2) (by have := p10_lt e4; omega) (e1 ▸ c14)⟩) | exact Or.inr (Or.inl ⟨rfl, rfl, rfl, fun ⟨v2, k2, e1, e2, e3, e4, e5⟩ => nI_nlt (a := 9) (b := k2) e4 (by omega) (e2 ▸ c10)⟩) | exact Or.inr (Or.inl ⟨rfl, rfl, rfl, fun ⟨v2, k2, e1, e2, e3, e4, e5⟩ => nI_lt1 (k := k2) e3 (by omega) (e2 ▸ c4)⟩)), by rw [htS]; exact hP9, va_K.moved hW.alike hK9, hD9⟩, hS.F htS⟩) hS.2.2 dX4_digits_115
          · first | exact absurd c62 (by decide) | exact (c62 (by decide)).elim
        · refine lv_iload hx hb dX4_digits_33 (lv_at hl 1 rfl) ?_
          refine lv_if_eq (tgt := 60) hx hb dX4_digits_35 (by decide) (fun c35 => ?_) (fun c35 => ?_)
          · refine lv_iload hx hb dX4_digits_60 (lv_at hl 1 rfl) ?_
            refine lv_if_eq (tgt := 74) hx hb dX4_digits_62 (by decide) (fun c62 => ?_) (fun c62 => ?_)
            · refine lv_iconst (v := 0) hx hb dX4_digits_74 (by decide) ?_
              refine lv_istore (lv' := [(4, .int 0), (5, .int (nI 0)), (3, .int (nI (10 ^ 0))), (0, .ref mx), (1, .int v9), (2, .int n9)]) hx hb dX4_digits_75 hl (by decide) rfl (fun ls hl => ?_)
              refine lv_aload_n hx hb dX4_digits_77 rfl (lv_at hl 3 rfl) ?_
              refine lv_iload hx hb dX4_digits_78 (lv_at hl 0 rfl) ?_
              refine lv_if_ne (tgt := 87) hx hb dX4_digits_80 (by decide) (fun c80 => ?_) (fun c80 => ?_)
              · first | exact absurd c80 (by decide) | exact (c80 (by decide)).elim
              · refine lv_iconst (v := 1) hx hb dX4_digits_83 (by decide) ?_
                refine lv_goto (tgt := 104) hx hb dX4_digits_84 (by decide) ?_
                refine va_put (D := (dC, dI)) (ci := 4) (v := .int 1) (ty := .int) (C := RX4) (T := TX4) (N := 12) hx hb hts hinX4 tyX4 tyX4_ok nmX4 hown hK hP hD hS 0 rfl rfl 0 (by decide) (hts (.fieldLink RX4 32 "NumberContentsModel" "thrown" "I") (by decide +kernel)) (fun _ h9 => h9) rfl (by decide +kernel) rfl rfl (Nat.le_of_ble_eq_true rfl) dX4_digits_104 (fun H locs hP hD hS => ?_)
                have hP : va_P (dC, dI) vwCl [(mx, .inr (4, [.int 1, .int (nI n), .int (nI dn), .int (nI bn), .int (nI wn), .ref m5, .ref m6, .ref m7, .ref m8, .ref m9, .ref m10, .ref m11])), (m10, .inl (cB, 480, .inl (fun j => sb_b (dg j))))] H := hP
                have hD : va_D A [(mx, .inr (4, [.int 1, .int (nI n), .int (nI dn), .int (nI bn), .int (nI wn), .ref m5, .ref m6, .ref m7, .ref m8, .ref m9, .ref m10, .ref m11])), (m10, .inl (cB, 480, .inl (fun j => sb_b (dg j))))] := hD
                refine lv_aload_n hx hb dX4_digits_107 rfl (lv_at hl 3 rfl) ?_
                refine va_get (D := (dC, dI)) (ci := 4) (v := .int 1) (C := RX4) (T := TX4) (N := 12) hx hb hts hinX4 hown hK hP 0 rfl rfl 0 (by decide) (hts (.fieldLink RX4 32 "NumberContentsModel" "thrown" "I") (by decide +kernel)) (fun _ h9 => h9) rfl dX4_digits_108 ?_
                refine lv_if_le (tgt := 116) hx hb dX4_digits_111 (by decide) (fun c111 => ?_) (fun c111 => ?_)
                · first | exact absurd c111 (by decide) | exact (c111 (by decide)).elim
                · refine lv_iconst (v := 0) hx hb dX4_digits_114 (by decide) ?_
                  have hP9 := hP.sub (ws' := [(mx, .inr (4, [.int 1, .int (nI n), .int (nI dn), .int (nI bn), .int (nI wn), .ref m5, .ref m6, .ref m7, .ref m8, .ref m9, .ref m10, .ref m11])), (m10, .inl (cB, 480, .inl (fun j => sb_b (dg j))))]) [0, 1] rfl
                  have hD9 := hD.sub (ws' := [(mx, .inr (4, [.int 1, .int (nI n), .int (nI dn), .int (nI bn), .int (nI wn), .ref m5, .ref m6, .ref m7, .ref m8, .ref m9, .ref m10, .ref m11])), (m10, .inl (cB, 480, .inl (fun j => sb_b (dg j))))]) [0, 1] (by decide) rfl
                  have hK9 := hK.sub (tys' := [(cB, .byte)]) [0] rfl
                  exact W.iret (v := 0) hx hb hr (fun tS htS hW => ⟨⟨0, (1, dn, dg), rfl, (by first | exact Or.inr (Or.inr ⟨rfl, rfl, rfl, v, k, ⟨rfl, rfl, hk1, hk9, hvk⟩, Nat.lt_of_not_le (fun y => c96 (nI_le y (by omega)))⟩) | exact Or.inr (Or.inl ⟨rfl, rfl, rfl, fun ⟨v2, k2, e1, e2, e3, e4, e5⟩ => (by have hp2 := p10_lt e4; have ev : v = v2 := (nI_eq (by omega) (by omega)).mp e1; have ek : k = k2 := (nI_eq (by omega) (by omega)).mp e2; have := (nI_leI (by omega) (by omega)).mp c67; rw [ev, ek] at this; omega)⟩) | exact Or.inr (Or.inl ⟨rfl, rfl, rfl, fun ⟨v2, k2, e1, e2, e3, e4, e5⟩ => nI_pos (n := v2) (by have := p10_lt e4; omega) (e1 ▸ c14)⟩) | exact Or.inr (Or.inl ⟨rfl, rfl, rfl, fun ⟨v2, k2, e1, e2, e3, e4, e5⟩ => nI_nlt (a := 9) (b := k2) e4 (by omega) (e2 ▸ c10)⟩) | exact Or.inr (Or.inl ⟨rfl, rfl, rfl, fun ⟨v2, k2, e1, e2, e3, e4, e5⟩ => nI_lt1 (k := k2) e3 (by omega) (e2 ▸ c4)⟩)), by rw [htS]; exact hP9, va_K.moved hW.alike hK9, hD9⟩, hS.F htS⟩) hS.2.2 dX4_digits_115
            · first | exact absurd c62 (by decide) | exact (c62 (by decide)).elim
          · first | exact absurd c35 (by decide) | exact (c35 (by decide)).elim
      · obtain ⟨k, hk1, hk9, rfl⟩ := dg_n (by decide) c4 c10
        obtain ⟨v, hv31, rfl⟩ := nI_of c14
        have hpk := p10_lt hk9
        refine lv_iconst (v := 1) hx hb dX4_digits_17 (by decide) ?_
        refine lv_goto (tgt := 22) hx hb dX4_digits_18 (by decide) ?_
        refine lv_istore (lv' := [(4, .int 1), (3, .int (nI (10 ^ 0))), (0, .ref mx), (1, .int (nI v)), (2, .int (nI k))]) hx hb dX4_digits_22 hl (by decide) rfl (fun ls hl => ?_)
        refine lv_iconst (v := (nI 0)) hx hb dX4_digits_24 (by decide) ?_
        refine lv_istore (lv' := [(5, .int (nI 0)), (4, .int 1), (3, .int (nI (10 ^ 0))), (0, .ref mx), (1, .int (nI v)), (2, .int (nI k))]) hx hb dX4_digits_25 hl (by decide) rfl (fun ls hl => ?_)
        have LP27 : ∀ (n9 : Nat) (i : Nat) (hm : (k - i) < n9) (hi : i ≤ k) (H : Heap) (locs : List Loc) (ls : Array Slot) (hP : va_P (dC, dI) vwCl [(mx, .inr (4, [.int th, .int (nI n), .int (nI dn), .int (nI bn), .int (nI wn), .ref m5, .ref m6, .ref m7, .ref m8, .ref m9, .ref m10, .ref m11])), (m10, .inl (cB, 480, .inl (fun j => sb_b (dg j))))] H) (hD : va_D A [(mx, .inr (4, [.int th, .int (nI n), .int (nI dn), .int (nI bn), .int (nI wn), .ref m5, .ref m6, .ref m7, .ref m8, .ref m9, .ref m10, .ref m11])), (m10, .inl (cB, 480, .inl (fun j => sb_b (dg j))))]) (hS : va_S A s.heap H locs) (hl : lv_has ls 7 [(0, .ref mx), (1, .int (nI v)), (2, .int (nI k)), (3, .int (nI (10 ^ i))), (4, .int 1), (5, .int (nI i))]), W p l e (headSpec wsX4_digits ({ frames := 0, cells := 0, slots := 0, locals := 0 } : Room)).room s m ([.ref mx, .int (nI v), .int (nI k)]).toArray below meth c H locs 0 0 (MQ below (va_Qi (fun (r : Int32) (uS : Int32 × Nat × (Nat → Nat)) => match uS with | (th3, dn3, dg3) => (th3 = 0 ∧ ∃ vV kK, dgood (nI v) (nI k) vV kK ∧ dn + kK ≤ 480 ∧ dn3 = dn + kK ∧ r = nI (dn + kK) ∧ (∀ j, dg3 j < 10) ∧ (∀ j, j < dn → dg3 j = dg j) ∧ (∀ j, j < kK → dg3 (dn + j) = vV / 10 ^ (kK - 1 - j) % 10)) ∨ (th3 = 1 ∧ dn3 = dn ∧ dg3 = dg ∧ ¬ ∃ vV kK, dgood (nI v) (nI k) vV kK) ∨ (th3 = 2 ∧ dn3 = dn ∧ dg3 = dg ∧ ∃ vV kK, dgood (nI v) (nI k) vV kK ∧ 480 < dn + kK)) (fun (uS : Int32 × Nat × (Nat → Nat)) (tS : State) => match uS with | (th3, dn3, dg3) => va_P (dC, dI) vwCl [(mx, .inr (4, [.int th3, .int (nI n), .int (nI dn3), .int (nI bn), .int (nI wn), .ref m5, .ref m6, .ref m7, .ref m8, .ref m9, .ref m10, .ref m11])), (m10, .inl (cB, 480, .inl (fun j => sb_b (dg3 j))))] tS.heap ∧ va_K (dC, dI) vwCl [(cB, .byte)] tS ∧ va_D A [(mx, .inr (4, [.int th3, .int (nI n), .int (nI dn3), .int (nI bn), .int (nI wn), .ref m5, .ref m6, .ref m7, .ref m8, .ref m9, .ref m10, .ref m11])), (m10, .inl (cB, 480, .inl (fun j => sb_b (dg3 j))))]) A) ([.ref mx, .int (nI v), .int (nI k)]).toArray s 0 0 A) (F0 m 27 ls []) := by
          intro n9
          induction n9 with
          | zero => intro i hm; exact absurd hm (Nat.not_lt_zero _)
          | succ n9 ih =>
            intro i hm hi H locs ls hP hD hS hl
            have ih27 := ih
            refine lv_iload hx hb dX4_digits_27 (lv_at hl 5 rfl) ?_
            refine lv_iload_n hx hb dX4_digits_29 rfl (lv_at hl 2 rfl) ?_
            refine lv_icmp_ge (tgt := 60) hx hb dX4_digits_30 (by decide) (fun c30 => ?_) (fun c30 => ?_)
            · obtain rfl : k = i := Nat.le_antisymm ((nI_leI (by omega) (by omega)).mp c30) hi
              refine lv_iload hx hb dX4_digits_60 (lv_at hl 4 rfl) ?_
              refine lv_if_eq (tgt := 74) hx hb dX4_digits_62 (by decide) (fun c62 => ?_) (fun c62 => ?_)
              · first | exact absurd c62 (by decide) | exact (c62 (by decide)).elim
              · refine lv_iload_n hx hb dX4_digits_65 rfl (lv_at hl 1 rfl) ?_
                refine lv_iload_n hx hb dX4_digits_66 rfl (lv_at hl 3 rfl) ?_
                refine lv_icmp_ge (tgt := 74) hx hb dX4_digits_67 (by decide) (fun c67 => ?_) (fun c67 => ?_)
                · refine lv_iconst (v := 0) hx hb dX4_digits_74 (by decide) ?_
                  refine lv_istore (lv' := [(4, .int 0), (0, .ref mx), (1, .int (nI v)), (2, .int (nI k)), (3, .int (nI (10 ^ k))), (5, .int (nI k))]) hx hb dX4_digits_75 hl (by decide) rfl (fun ls hl => ?_)
                  refine lv_aload_n hx hb dX4_digits_77 rfl (lv_at hl 1 rfl) ?_
                  refine lv_iload hx hb dX4_digits_78 (lv_at hl 0 rfl) ?_
                  refine lv_if_ne (tgt := 87) hx hb dX4_digits_80 (by decide) (fun c80 => ?_) (fun c80 => ?_)
                  · first | exact absurd c80 (by decide) | exact (c80 (by decide)).elim
                  · refine lv_iconst (v := 1) hx hb dX4_digits_83 (by decide) ?_
                    refine lv_goto (tgt := 104) hx hb dX4_digits_84 (by decide) ?_
                    refine va_put (D := (dC, dI)) (ci := 4) (v := .int 1) (ty := .int) (C := RX4) (T := TX4) (N := 12) hx hb hts hinX4 tyX4 tyX4_ok nmX4 hown hK hP hD hS 0 rfl rfl 0 (by decide) (hts (.fieldLink RX4 32 "NumberContentsModel" "thrown" "I") (by decide +kernel)) (fun _ h9 => h9) rfl (by decide +kernel) rfl rfl (Nat.le_of_ble_eq_true rfl) dX4_digits_104 (fun H locs hP hD hS => ?_)
                    have hP : va_P (dC, dI) vwCl [(mx, .inr (4, [.int 1, .int (nI n), .int (nI dn), .int (nI bn), .int (nI wn), .ref m5, .ref m6, .ref m7, .ref m8, .ref m9, .ref m10, .ref m11])), (m10, .inl (cB, 480, .inl (fun j => sb_b (dg j))))] H := hP
                    have hD : va_D A [(mx, .inr (4, [.int 1, .int (nI n), .int (nI dn), .int (nI bn), .int (nI wn), .ref m5, .ref m6, .ref m7, .ref m8, .ref m9, .ref m10, .ref m11])), (m10, .inl (cB, 480, .inl (fun j => sb_b (dg j))))] := hD
                    refine lv_aload_n hx hb dX4_digits_107 rfl (lv_at hl 1 rfl) ?_
                    refine va_get (D := (dC, dI)) (ci := 4) (v := .int 1) (C := RX4) (T := TX4) (N := 12) hx hb hts hinX4 hown hK hP 0 rfl rfl 0 (by decide) (hts (.fieldLink RX4 32 "NumberContentsModel" "thrown" "I") (by decide +kernel)) (fun _ h9 => h9) rfl dX4_digits_108 ?_
                    refine lv_if_le (tgt := 116) hx hb dX4_digits_111 (by decide) (fun c111 => ?_) (fun c111 => ?_)
                    · first | exact absurd c111 (by decide) | exact (c111 (by decide)).elim
                    · refine lv_iconst (v := 0) hx hb dX4_digits_114 (by decide) ?_
                      have hP9 := hP.sub (ws' := [(mx, .inr (4, [.int 1, .int (nI n), .int (nI dn), .int (nI bn), .int (nI wn), .ref m5, .ref m6, .ref m7, .ref m8, .ref m9, .ref m10, .ref m11])), (m10, .inl (cB, 480, .inl (fun j => sb_b (dg j))))]) [0, 1] rfl
                      have hD9 := hD.sub (ws' := [(mx, .inr (4, [.int 1, .int (nI n), .int (nI dn), .int (nI bn), .int (nI wn), .ref m5, .ref m6, .ref m7, .ref m8, .ref m9, .ref m10, .ref m11])), (m10, .inl (cB, 480, .inl (fun j => sb_b (dg j))))]) [0, 1] (by decide) rfl
                      have hK9 := hK.sub (tys' := [(cB, .byte)]) [0] rfl
                      exact W.iret (v := 0) hx hb hr (fun tS htS hW => ⟨⟨0, (1, dn, dg), rfl, (by first | exact Or.inr (Or.inr ⟨rfl, rfl, rfl, v, k, ⟨rfl, rfl, hk1, hk9, hvk⟩, Nat.lt_of_not_le (fun y => c96 (nI_le y (by omega)))⟩) | exact Or.inr (Or.inl ⟨rfl, rfl, rfl, fun ⟨v2, k2, e1, e2, e3, e4, e5⟩ => (by have hp2 := p10_lt e4; have ev : v = v2 := (nI_eq (by omega) (by omega)).mp e1; have ek : k = k2 := (nI_eq (by omega) (by omega)).mp e2; have := (nI_leI (by omega) (by omega)).mp c67; rw [ev, ek] at this; omega)⟩) | exact Or.inr (Or.inl ⟨rfl, rfl, rfl, fun ⟨v2, k2, e1, e2, e3, e4, e5⟩ => nI_pos (n := v2) (by have := p10_lt e4; omega) (e1 ▸ c14)⟩) | exact Or.inr (Or.inl ⟨rfl, rfl, rfl, fun ⟨v2, k2, e1, e2, e3, e4, e5⟩ => nI_nlt (a := 9) (b := k2) e4 (by omega) (e2 ▸ c10)⟩) | exact Or.inr (Or.inl ⟨rfl, rfl, rfl, fun ⟨v2, k2, e1, e2, e3, e4, e5⟩ => nI_lt1 (k := k2) e3 (by omega) (e2 ▸ c4)⟩)), by rw [htS]; exact hP9, va_K.moved hW.alike hK9, hD9⟩, hS.F htS⟩) hS.2.2 dX4_digits_115
                · refine lv_iconst (v := 1) hx hb dX4_digits_70 (by decide) ?_
                  refine lv_goto (tgt := 75) hx hb dX4_digits_71 (by decide) ?_
                  refine lv_istore (lv' := [(4, .int 1), (0, .ref mx), (1, .int (nI v)), (2, .int (nI k)), (3, .int (nI (10 ^ k))), (5, .int (nI k))]) hx hb dX4_digits_75 hl (by decide) rfl (fun ls hl => ?_)
                  refine lv_aload_n hx hb dX4_digits_77 rfl (lv_at hl 1 rfl) ?_
                  refine lv_iload hx hb dX4_digits_78 (lv_at hl 0 rfl) ?_
                  refine lv_if_ne (tgt := 87) hx hb dX4_digits_80 (by decide) (fun c80 => ?_) (fun c80 => ?_)
                  · have hvk : v < 10 ^ k := (Nat.lt_of_not_le (fun h => c67 (nI_le h (by omega))))
                    refine lv_aload_n hx hb dX4_digits_87 rfl (lv_at hl 1 rfl) ?_
                    refine va_get (D := (dC, dI)) (ci := 4) (v := .int (nI dn)) (C := RX4) (T := TX4) (N := 12) hx hb hts hinX4 hown hK hP 0 rfl rfl 2 (by decide) (hts (.fieldLink RX4 36 "NumberContentsModel" "digitMany" "I") (by decide +kernel)) (fun _ h9 => h9) rfl dX4_digits_88 ?_
                    refine lv_iload_n hx hb dX4_digits_91 rfl (lv_at hl 3 rfl) ?_
                    refine lv_iadd hx hb dX4_digits_92 ?_
                    refine lv_topi (fun x92 e92 => ?_)
                    obtain rfl : x92 = nI (dn + k) := e92.trans (nI_add _ _)
                    refine lv_sipush (v := (nI 480)) hx hb dX4_digits_93 (by decide) ?_
                    refine lv_icmp_le (tgt := 103) hx hb dX4_digits_96 (by decide) (fun c96 => ?_) (fun c96 => ?_)
                    · refine lv_iconst (v := 0) hx hb dX4_digits_103 (by decide) ?_
                      refine va_put (D := (dC, dI)) (ci := 4) (v := .int 0) (ty := .int) (C := RX4) (T := TX4) (N := 12) hx hb hts hinX4 tyX4 tyX4_ok nmX4 hown hK hP hD hS 0 rfl rfl 0 (by decide) (hts (.fieldLink RX4 32 "NumberContentsModel" "thrown" "I") (by decide +kernel)) (fun _ h9 => h9) rfl (by decide +kernel) rfl rfl (Nat.le_of_ble_eq_true rfl) dX4_digits_104 (fun H locs hP hD hS => ?_)
                      have hP : va_P (dC, dI) vwCl [(mx, .inr (4, [.int 0, .int (nI n), .int (nI dn), .int (nI bn), .int (nI wn), .ref m5, .ref m6, .ref m7, .ref m8, .ref m9, .ref m10, .ref m11])), (m10, .inl (cB, 480, .inl (fun j => sb_b (dg j))))] H := hP
                      have hD : va_D A [(mx, .inr (4, [.int 0, .int (nI n), .int (nI dn), .int (nI bn), .int (nI wn), .ref m5, .ref m6, .ref m7, .ref m8, .ref m9, .ref m10, .ref m11])), (m10, .inl (cB, 480, .inl (fun j => sb_b (dg j))))] := hD
                      refine lv_aload_n hx hb dX4_digits_107 rfl (lv_at hl 1 rfl) ?_
                      refine va_get (D := (dC, dI)) (ci := 4) (v := .int 0) (C := RX4) (T := TX4) (N := 12) hx hb hts hinX4 hown hK hP 0 rfl rfl 0 (by decide) (hts (.fieldLink RX4 32 "NumberContentsModel" "thrown" "I") (by decide +kernel)) (fun _ h9 => h9) rfl dX4_digits_108 ?_
                      refine lv_if_le (tgt := 116) hx hb dX4_digits_111 (by decide) (fun c111 => ?_) (fun c111 => ?_)
                      · have hrm : dn + k ≤ 480 := (nI_leI (by omega) (by omega)).mp c96
                        refine lv_iload_n hx hb dX4_digits_116 rfl (lv_at hl 2 rfl) ?_
                        refine lv_istore (lv' := [(5, .int (nI v)), (4, .int 1), (0, .ref mx), (1, .int (nI v)), (2, .int (nI k)), (3, .int (nI (10 ^ k)))]) hx hb dX4_digits_117 hl (by decide) rfl (fun ls hl => ?_)
                        refine lv_iload_n hx hb dX4_digits_119 rfl (lv_at hl 4 rfl) ?_
                        refine lv_iconst (v := 1) hx hb dX4_digits_120 (by decide) ?_
                        refine lv_isub hx hb dX4_digits_121 ?_
                        refine lv_topi (fun x121 e121 => ?_)
                        obtain rfl : x121 = nI (k - 1) := e121.trans (nI_m1 hk1)
                        refine lv_istore (lv' := [(6, .int (nI (k - 1))), (5, .int (nI v)), (4, .int 1), (0, .ref mx), (1, .int (nI v)), (2, .int (nI k)), (3, .int (nI (10 ^ k)))]) hx hb dX4_digits_122 hl (by decide) rfl (fun ls hl => ?_)
                        have LP124 : ∀ (n9 : Nat) (i : Nat) (x : Int32) (lf : Nat) (d2 : Nat → Nat) (hm : i < n9) (hi : i ≤ k) (hxi : x = nI i - 1) (hlf : lf = v / 10 ^ (k - i)) (hd2 : ∀ j, d2 j < 10) (hlo : ∀ j, j < dn → d2 j = dg j) (hnew : ∀ j, i ≤ j → j < k → d2 (dn + j) = v / 10 ^ (k - 1 - j) % 10) (H : Heap) (locs : List Loc) (ls : Array Slot) (hP : va_P (dC, dI) vwCl [(mx, .inr (4, [.int 0, .int (nI n), .int (nI dn), .int (nI bn), .int (nI wn), .ref m5, .ref m6, .ref m7, .ref m8, .ref m9, .ref m10, .ref m11])), (m10, .inl (cB, 480, .inl (fun j => sb_b (d2 j))))] H) (hD : va_D A [(mx, .inr (4, [.int 0, .int (nI n), .int (nI dn), .int (nI bn), .int (nI wn), .ref m5, .ref m6, .ref m7, .ref m8, .ref m9, .ref m10, .ref m11])), (m10, .inl (cB, 480, .inl (fun j => sb_b (d2 j))))]) (hS : va_S A s.heap H locs) (hl : lv_has ls 7 [(0, .ref mx), (2, .int (nI k)), (5, .int (nI lf)), (6, .int x)]), W p l e (headSpec wsX4_digits ({ frames := 0, cells := 0, slots := 0, locals := 0 } : Room)).room s m ([.ref mx, .int (nI v), .int (nI k)]).toArray below meth c H locs 0 0 (MQ below (va_Qi (fun (r : Int32) (uS : Int32 × Nat × (Nat → Nat)) => match uS with | (th3, dn3, dg3) => (th3 = 0 ∧ ∃ vV kK, dgood (nI v) (nI k) vV kK ∧ dn + kK ≤ 480 ∧ dn3 = dn + kK ∧ r = nI (dn + kK) ∧ (∀ j, dg3 j < 10) ∧ (∀ j, j < dn → dg3 j = dg j) ∧ (∀ j, j < kK → dg3 (dn + j) = vV / 10 ^ (kK - 1 - j) % 10)) ∨ (th3 = 1 ∧ dn3 = dn ∧ dg3 = dg ∧ ¬ ∃ vV kK, dgood (nI v) (nI k) vV kK) ∨ (th3 = 2 ∧ dn3 = dn ∧ dg3 = dg ∧ ∃ vV kK, dgood (nI v) (nI k) vV kK ∧ 480 < dn + kK)) (fun (uS : Int32 × Nat × (Nat → Nat)) (tS : State) => match uS with | (th3, dn3, dg3) => va_P (dC, dI) vwCl [(mx, .inr (4, [.int th3, .int (nI n), .int (nI dn3), .int (nI bn), .int (nI wn), .ref m5, .ref m6, .ref m7, .ref m8, .ref m9, .ref m10, .ref m11])), (m10, .inl (cB, 480, .inl (fun j => sb_b (dg3 j))))] tS.heap ∧ va_K (dC, dI) vwCl [(cB, .byte)] tS ∧ va_D A [(mx, .inr (4, [.int th3, .int (nI n), .int (nI dn3), .int (nI bn), .int (nI wn), .ref m5, .ref m6, .ref m7, .ref m8, .ref m9, .ref m10, .ref m11])), (m10, .inl (cB, 480, .inl (fun j => sb_b (dg3 j))))]) A) ([.ref mx, .int (nI v), .int (nI k)]).toArray s 0 0 A) (F0 m 124 ls []) := by
                          intro n9
                          induction n9 with
                          | zero => intro i x lf d2 hm; exact absurd hm (Nat.not_lt_zero _)
                          | succ n9 ih =>
                            intro i x lf d2 hm hi hxi hlf hd2 hlo hnew H locs ls hP hD hS hl
                            have ih124 := ih
                            refine lv_iload hx hb dX4_digits_124 (lv_at hl 3 rfl) ?_
                            refine lv_if_lt (tgt := 160) hx hb dX4_digits_126 (by decide) (fun c126 => ?_) (fun c126 => ?_)
                            · have he : i = 0 := dc_out hxi (by omega) c126
                              refine lv_aload_n hx hb dX4_digits_160 rfl (lv_at hl 0 rfl) ?_
                              refine lv_dup hx hb dX4_digits_161 rfl ?_
                              refine va_get (D := (dC, dI)) (ci := 4) (v := .int (nI dn)) (C := RX4) (T := TX4) (N := 12) hx hb hts hinX4 hown hK hP 0 rfl rfl 2 (by decide) (hts (.fieldLink RX4 36 "NumberContentsModel" "digitMany" "I") (by decide +kernel)) (fun _ h9 => h9) rfl dX4_digits_162 ?_
                              refine lv_iload_n hx hb dX4_digits_165 rfl (lv_at hl 1 rfl) ?_
                              refine lv_iadd hx hb dX4_digits_166 ?_
                              refine lv_topi (fun x166 e166 => ?_)
                              obtain rfl : x166 = nI (dn + k) := e166.trans (nI_add _ _)
                              refine va_put (D := (dC, dI)) (ci := 4) (v := .int (nI (dn + k))) (ty := .int) (C := RX4) (T := TX4) (N := 12) hx hb hts hinX4 tyX4 tyX4_ok nmX4 hown hK hP hD hS 0 rfl rfl 2 (by decide) (hts (.fieldLink RX4 36 "NumberContentsModel" "digitMany" "I") (by decide +kernel)) (fun _ h9 => h9) rfl (by decide +kernel) rfl rfl (Nat.le_of_ble_eq_true rfl) dX4_digits_167 (fun H locs hP hD hS => ?_)
                              have hP : va_P (dC, dI) vwCl [(mx, .inr (4, [.int 0, .int (nI n), .int (nI (dn + k)), .int (nI bn), .int (nI wn), .ref m5, .ref m6, .ref m7, .ref m8, .ref m9, .ref m10, .ref m11])), (m10, .inl (cB, 480, .inl (fun j => sb_b (d2 j))))] H := hP
                              have hD : va_D A [(mx, .inr (4, [.int 0, .int (nI n), .int (nI (dn + k)), .int (nI bn), .int (nI wn), .ref m5, .ref m6, .ref m7, .ref m8, .ref m9, .ref m10, .ref m11])), (m10, .inl (cB, 480, .inl (fun j => sb_b (d2 j))))] := hD
                              refine lv_aload_n hx hb dX4_digits_170 rfl (lv_at hl 0 rfl) ?_
                              refine va_get (D := (dC, dI)) (ci := 4) (v := .int (nI (dn + k))) (C := RX4) (T := TX4) (N := 12) hx hb hts hinX4 hown hK hP 0 rfl rfl 2 (by decide) (hts (.fieldLink RX4 36 "NumberContentsModel" "digitMany" "I") (by decide +kernel)) (fun _ h9 => h9) rfl dX4_digits_171 ?_
                              have hP9 := hP.sub (ws' := [(mx, .inr (4, [.int 0, .int (nI n), .int (nI (dn + k)), .int (nI bn), .int (nI wn), .ref m5, .ref m6, .ref m7, .ref m8, .ref m9, .ref m10, .ref m11])), (m10, .inl (cB, 480, .inl (fun j => sb_b (d2 j))))]) [0, 1] rfl
                              have hD9 := hD.sub (ws' := [(mx, .inr (4, [.int 0, .int (nI n), .int (nI (dn + k)), .int (nI bn), .int (nI wn), .ref m5, .ref m6, .ref m7, .ref m8, .ref m9, .ref m10, .ref m11])), (m10, .inl (cB, 480, .inl (fun j => sb_b (d2 j))))]) [0, 1] (by decide) rfl
                              have hK9 := hK.sub (tys' := [(cB, .byte)]) [0] rfl
                              exact W.iret (v := (nI (dn + k))) hx hb hr (fun tS htS hW => ⟨⟨(nI (dn + k)), (0, (dn + k), d2), rfl, (Or.inl ⟨rfl, v, k, ⟨rfl, rfl, hk1, hk9, hvk⟩, hrm, rfl, rfl, hd2, hlo, fun j hj => hnew j (by omega) hj⟩), by rw [htS]; exact hP9, va_K.moved hW.alike hK9, hD9⟩, hS.F htS⟩) hS.2.2 dX4_digits_174
                            · have hi1 : 1 ≤ i := by rcases Nat.eq_zero_or_pos i with h | h; subst h; exact absurd (by rw [hxi]; decide) c126; exact h
                              obtain rfl : x = nI (i - 1) := hxi.trans (nI_m1 hi1)
                              have hlv : lf ≤ v := by rw [hlf]; exact Nat.div_le_self _ _
                              refine lv_aload_n hx hb dX4_digits_129 rfl (lv_at hl 0 rfl) ?_
                              refine va_get (D := (dC, dI)) (ci := 4) (v := .ref m10) (C := RX4) (T := TX4) (N := 12) hx hb hts hinX4 hown hK hP 0 rfl rfl 10 (by decide) (hts (.fieldLink RX4 26 "NumberContentsModel" "digits" "[B") (by decide +kernel)) (fun _ h9 => h9) rfl dX4_digits_130 ?_
                              refine lv_aload_n hx hb dX4_digits_133 rfl (lv_at hl 0 rfl) ?_
                              refine va_get (D := (dC, dI)) (ci := 4) (v := .int (nI dn)) (C := RX4) (T := TX4) (N := 12) hx hb hts hinX4 hown hK hP 0 rfl rfl 2 (by decide) (hts (.fieldLink RX4 36 "NumberContentsModel" "digitMany" "I") (by decide +kernel)) (fun _ h9 => h9) rfl dX4_digits_134 ?_
                              refine lv_iload hx hb dX4_digits_137 (lv_at hl 3 rfl) ?_
                              refine lv_iadd hx hb dX4_digits_139 ?_
                              refine lv_topi (fun x139 e139 => ?_)
                              obtain rfl : x139 = nI (dn + (i - 1)) := e139.trans (nI_add _ _)
                              refine lv_iload hx hb dX4_digits_140 (lv_at hl 2 rfl) ?_
                              refine lv_bipush (v := (nI 10)) hx hb dX4_digits_142 (by decide) ?_
                              refine lv_irem hx hb dX4_digits_144 (by decide) ?_
                              refine lv_topi (fun x144 e144 => ?_)
                              obtain rfl : x144 = nI (lf % 10) := e144.trans (pk_rem (by omega) (by decide) (by decide))
                              refine lv_i2b hx hb dX4_digits_145 rfl ?_
                              refine lv_topi (fun x145 e145 => ?_)
                              obtain rfl : x145 = sb_b (lf % 10) := e145
                              refine va_bast hx hb hK hP hD hS 1 0 rfl rfl (vp_in_nI (by omega) (by omega)) dX4_digits_146 (fun H locs hP hD hS => ?_)
                              have hP : va_P (dC, dI) vwCl [(mx, .inr (4, [.int 0, .int (nI n), .int (nI dn), .int (nI bn), .int (nI wn), .ref m5, .ref m6, .ref m7, .ref m8, .ref m9, .ref m10, .ref m11])), (m10, .inl (cB, 480, .inl (upd (fun j => sb_b (d2 j)) (nI (dn + (i - 1))).toNatClampNeg (vp_nar .byte (sb_b (lf % 10))))))] H := hP
                              have hD : va_D A [(mx, .inr (4, [.int 0, .int (nI n), .int (nI dn), .int (nI bn), .int (nI wn), .ref m5, .ref m6, .ref m7, .ref m8, .ref m9, .ref m10, .ref m11])), (m10, .inl (cB, 480, .inl (upd (fun j => sb_b (d2 j)) (nI (dn + (i - 1))).toNatClampNeg (vp_nar .byte (sb_b (lf % 10))))))] := hD
                              obtain ⟨f146, e146⟩ : ∃ zz9 : Nat → Int32, zz9 = upd (fun j => sb_b (d2 j)) (nI (dn + (i - 1))).toNatClampNeg (vp_nar .byte (sb_b (lf % 10))) := ⟨_, rfl⟩
                              rw [← e146] at hP hD
                              obtain rfl : f146 = fun j => sb_b (va_up d2 (dn + (i - 1)) (lf % 10) j) := e146.trans (upsb (by omega))
                              refine lv_iload hx hb dX4_digits_147 (lv_at hl 2 rfl) ?_
                              refine lv_bipush (v := (nI 10)) hx hb dX4_digits_149 (by decide) ?_
                              refine lv_idiv hx hb dX4_digits_151 (by decide) ?_
                              refine lv_topi (fun x151 e151 => ?_)
                              obtain rfl : x151 = nI (lf / 10) := e151.trans (pk_div (by omega) (by decide) (by decide))
                              refine lv_istore (lv' := [(5, .int (nI (lf / 10))), (0, .ref mx), (2, .int (nI k)), (6, .int (nI (i - 1)))]) hx hb dX4_digits_152 hl (by decide) rfl (fun ls hl => ?_)
                              obtain ⟨x154, e154⟩ : ∃ zz9 : Int32, zz9 = (nI (i - 1)) + (-1) := ⟨_, rfl⟩
                              refine lv_iinc (v := x154) (lv' := [(6, .int x154), (5, .int (nI (lf / 10))), (0, .ref mx), (2, .int (nI k))]) hx hb dX4_digits_154 hl (k := 3) rfl (by rw [e154]; rfl) (by decide) rfl (fun ls hl => ?_)
                              refine lv_goto (tgt := 124) hx hb dX4_digits_157 (by decide) ?_
                              exact ih124 (i - 1) x154 (lf / 10) (va_up d2 (dn + (i - 1)) (lf % 10)) (by omega) (by omega) (e154.trans (Int32.sub_eq_add_neg _ _).symm) (dm_step hi1 hi hlf) (up_lt hd2 (Nat.mod_lt _ (by decide))) (fun j h => by rw [va_up_ne _ _ (by omega)]; exact hlo j h) (dm_new hi1 hi hlf hnew) _ _ _ (hP.sub [0, 1] rfl) (hD.sub [0, 1] (by decide) rfl) hS (lv_sub hl [2, 3, 1, 0] rfl)
                        exact LP124 _ k (nI (k - 1)) v dg (Nat.lt_succ_self _) (by omega) ((nI_m1 hk1).symm) (by rw [Nat.sub_self, Nat.pow_zero, Nat.div_one]) hdg (fun j h => rfl) (fun j h h2 => absurd h (by omega)) _ _ _ (hP.sub [0, 1] rfl) (hD.sub [0, 1] (by decide) rfl) hS (lv_sub hl [3, 5, 1, 0] rfl)
                      · first | exact absurd c111 (by decide) | exact (c111 (by decide)).elim
                    · refine lv_iconst (v := 2) hx hb dX4_digits_99 (by decide) ?_
                      refine lv_goto (tgt := 104) hx hb dX4_digits_100 (by decide) ?_
                      refine va_put (D := (dC, dI)) (ci := 4) (v := .int 2) (ty := .int) (C := RX4) (T := TX4) (N := 12) hx hb hts hinX4 tyX4 tyX4_ok nmX4 hown hK hP hD hS 0 rfl rfl 0 (by decide) (hts (.fieldLink RX4 32 "NumberContentsModel" "thrown" "I") (by decide +kernel)) (fun _ h9 => h9) rfl (by decide +kernel) rfl rfl (Nat.le_of_ble_eq_true rfl) dX4_digits_104 (fun H locs hP hD hS => ?_)
                      have hP : va_P (dC, dI) vwCl [(mx, .inr (4, [.int 2, .int (nI n), .int (nI dn), .int (nI bn), .int (nI wn), .ref m5, .ref m6, .ref m7, .ref m8, .ref m9, .ref m10, .ref m11])), (m10, .inl (cB, 480, .inl (fun j => sb_b (dg j))))] H := hP
                      have hD : va_D A [(mx, .inr (4, [.int 2, .int (nI n), .int (nI dn), .int (nI bn), .int (nI wn), .ref m5, .ref m6, .ref m7, .ref m8, .ref m9, .ref m10, .ref m11])), (m10, .inl (cB, 480, .inl (fun j => sb_b (dg j))))] := hD
                      refine lv_aload_n hx hb dX4_digits_107 rfl (lv_at hl 1 rfl) ?_
                      refine va_get (D := (dC, dI)) (ci := 4) (v := .int 2) (C := RX4) (T := TX4) (N := 12) hx hb hts hinX4 hown hK hP 0 rfl rfl 0 (by decide) (hts (.fieldLink RX4 32 "NumberContentsModel" "thrown" "I") (by decide +kernel)) (fun _ h9 => h9) rfl dX4_digits_108 ?_
                      refine lv_if_le (tgt := 116) hx hb dX4_digits_111 (by decide) (fun c111 => ?_) (fun c111 => ?_)
                      · first | exact absurd c111 (by decide) | exact (c111 (by decide)).elim
                      · refine lv_iconst (v := 0) hx hb dX4_digits_114 (by decide) ?_
                        have hP9 := hP.sub (ws' := [(mx, .inr (4, [.int 2, .int (nI n), .int (nI dn), .int (nI bn), .int (nI wn), .ref m5, .ref m6, .ref m7, .ref m8, .ref m9, .ref m10, .ref m11])), (m10, .inl (cB, 480, .inl (fun j => sb_b (dg j))))]) [0, 1] rfl
                        have hD9 := hD.sub (ws' := [(mx, .inr (4, [.int 2, .int (nI n), .int (nI dn), .int (nI bn), .int (nI wn), .ref m5, .ref m6, .ref m7, .ref m8, .ref m9, .ref m10, .ref m11])), (m10, .inl (cB, 480, .inl (fun j => sb_b (dg j))))]) [0, 1] (by decide) rfl
                        have hK9 := hK.sub (tys' := [(cB, .byte)]) [0] rfl
                        exact W.iret (v := 0) hx hb hr (fun tS htS hW => ⟨⟨0, (2, dn, dg), rfl, (by first | exact Or.inr (Or.inr ⟨rfl, rfl, rfl, v, k, ⟨rfl, rfl, hk1, hk9, hvk⟩, Nat.lt_of_not_le (fun y => c96 (nI_le y (by omega)))⟩) | exact Or.inr (Or.inl ⟨rfl, rfl, rfl, fun ⟨v2, k2, e1, e2, e3, e4, e5⟩ => (by have hp2 := p10_lt e4; have ev : v = v2 := (nI_eq (by omega) (by omega)).mp e1; have ek : k = k2 := (nI_eq (by omega) (by omega)).mp e2; have := (nI_leI (by omega) (by omega)).mp c67; rw [ev, ek] at this; omega)⟩) | exact Or.inr (Or.inl ⟨rfl, rfl, rfl, fun ⟨v2, k2, e1, e2, e3, e4, e5⟩ => nI_pos (n := v2) (by have := p10_lt e4; omega) (e1 ▸ c14)⟩) | exact Or.inr (Or.inl ⟨rfl, rfl, rfl, fun ⟨v2, k2, e1, e2, e3, e4, e5⟩ => nI_nlt (a := 9) (b := k2) e4 (by omega) (e2 ▸ c10)⟩) | exact Or.inr (Or.inl ⟨rfl, rfl, rfl, fun ⟨v2, k2, e1, e2, e3, e4, e5⟩ => nI_lt1 (k := k2) e3 (by omega) (e2 ▸ c4)⟩)), by rw [htS]; exact hP9, va_K.moved hW.alike hK9, hD9⟩, hS.F htS⟩) hS.2.2 dX4_digits_115
                  · first | exact absurd c80 (by decide) | exact (c80 (by decide)).elim
            · refine lv_iload hx hb dX4_digits_33 (lv_at hl 4 rfl) ?_
              refine lv_if_eq (tgt := 60) hx hb dX4_digits_35 (by decide) (fun c35 => ?_) (fun c35 => ?_)
              · first | exact absurd c35 (by decide) | exact (c35 (by decide)).elim
              · have hlt : i < k := Nat.lt_of_not_le (fun h => c30 (nI_le h (by omega)))
                have hpi := p10_lt (show i ≤ 9 by omega)
                refine lv_iload hx hb dX4_digits_38 (lv_at hl 5 rfl) ?_
                refine lv_bipush (v := (nI 9)) hx hb dX4_digits_40 (by decide) ?_
                refine lv_icmp_ge (tgt := 52) hx hb dX4_digits_42 (by decide) (fun c42 => ?_) (fun c42 => ?_)
                · exact absurd c42 (fun y => absurd ((nI_leI (by omega) (by omega)).mp y) (by omega))
                · refine lv_iload_n hx hb dX4_digits_45 rfl (lv_at hl 3 rfl) ?_
                  refine lv_bipush (v := (nI 10)) hx hb dX4_digits_46 (by decide) ?_
                  refine lv_imul hx hb dX4_digits_48 ?_
                  refine lv_topi (fun x48 e48 => ?_)
                  obtain rfl : x48 = nI (10 ^ (i + 1)) := e48.trans ((pk_mul _ 10).trans (by rw [Nat.pow_succ]))
                  refine lv_goto (tgt := 53) hx hb dX4_digits_49 (by decide) ?_
                  refine lv_istore_n (lv' := [(3, .int (nI (10 ^ (i + 1)))), (0, .ref mx), (1, .int (nI v)), (2, .int (nI k)), (4, .int 1), (5, .int (nI i))]) hx hb dX4_digits_53 rfl hl (by decide) rfl (fun ls hl => ?_)
                  obtain ⟨x54, e54⟩ : ∃ zz9 : Int32, zz9 = (nI i) + 1 := ⟨_, rfl⟩
                  refine lv_iinc (v := x54) (lv' := [(5, .int x54), (3, .int (nI (10 ^ (i + 1)))), (0, .ref mx), (1, .int (nI v)), (2, .int (nI k)), (4, .int 1)]) hx hb dX4_digits_54 hl (k := 5) rfl (by rw [e54]; rfl) (by decide) rfl (fun ls hl => ?_)
                  obtain rfl : x54 = nI (i + 1) := e54.trans (nI_1 i)
                  refine lv_goto (tgt := 27) hx hb dX4_digits_57 (by decide) ?_
                  exact ih27 (i + 1) (by omega) (by omega) _ _ _ (hP.sub [0, 1] rfl) (hD.sub [0, 1] (by decide) rfl) hS (lv_sub hl [2, 3, 4, 1, 5, 0] rfl)
        exact LP27 _ 0 (Nat.lt_succ_self _) (by omega) _ _ _ (hP.sub [0, 1] rfl) (hD.sub [0, 1] (by decide) rfl) hS (lv_sub hl [3, 4, 5, 2, 1, 0] rfl)

set_option maxHeartbeats 4000000 in
set_option maxRecDepth 100000 in
theorem c_X4_bytes (l : Launch) (dC : Nat → ClassId) (dI : Nat → Nat → Nat) (cI cB : ClassId) (mx m5 m6 m7 m8 m9 m10 m11 n dn bn wn : Nat) (th : Int32) (by9 : Nat → Nat) (v9 n9 : Int32) (sz : Nat) (hbn : bn ≤ 200) (hby : ∀ j, by9 j < 256) : Met l yX4_bytes wsX4_bytes ({ frames := 0, cells := 0, slots := 0, locals := 0 } : Room) (va_Pc [.ref mx, .int v9, .int n9] (fun U => U.heap.size = sz ∧ va_P (dC, dI) vwCl [(mx, .inr (4, [.int th, .int (nI n), .int (nI dn), .int (nI bn), .int (nI wn), .ref m5, .ref m6, .ref m7, .ref m8, .ref m9, .ref m10, .ref m11])), (m11, .inl (cB, 200, .inl (fun j => sb_b (by9 j))))] U.heap ∧ va_K (dC, dI) vwCl [(cB, .byte)] U ∧ va_D (fun _ => True) [(mx, .inr (4, [.int th, .int (nI n), .int (nI dn), .int (nI bn), .int (nI wn), .ref m5, .ref m6, .ref m7, .ref m8, .ref m9, .ref m10, .ref m11])), (m11, .inl (cB, 200, .inl (fun j => sb_b (by9 j))))])) (va_Qi (fun (r : Int32) (uS : Int32 × Nat × (Nat → Nat)) => match uS with | (th3, bn3, by3) => (th3 = 0 ∧ ∃ kK, n9 = nI kK ∧ 1 ≤ kK ∧ kK ≤ 4 ∧ bn + kK ≤ 200 ∧ bn3 = bn + kK ∧ r = nI (bn + kK) ∧ (∀ j, by3 j < 256) ∧ (∀ j, j < bn → by3 j = by9 j) ∧ (∀ j, j < kK → by3 (bn + j) = byt v9 (8 * (kK - 1 - j)))) ∨ (th3 = 1 ∧ bn3 = bn ∧ by3 = by9 ∧ ¬ ∃ kK, n9 = nI kK ∧ 1 ≤ kK ∧ kK ≤ 4) ∨ (th3 = 2 ∧ bn3 = bn ∧ by3 = by9 ∧ ∃ kK, n9 = nI kK ∧ 1 ≤ kK ∧ kK ≤ 4 ∧ 200 < bn + kK)) (fun (uS : Int32 × Nat × (Nat → Nat)) (tS : State) => match uS with | (th3, bn3, by3) => va_P (dC, dI) vwCl [(mx, .inr (4, [.int th3, .int (nI n), .int (nI dn), .int (nI bn3), .int (nI wn), .ref m5, .ref m6, .ref m7, .ref m8, .ref m9, .ref m10, .ref m11])), (m11, .inl (cB, 200, .inl (fun j => sb_b (by3 j))))] tS.heap ∧ va_K (dC, dI) vwCl [(cB, .byte)] tS ∧ va_D (va_A [(mx, .inr (4, [.int th, .int (nI n), .int (nI dn), .int (nI bn), .int (nI wn), .ref m5, .ref m6, .ref m7, .ref m8, .ref m9, .ref m10, .ref m11])), (m11, .inl (cB, 200, .inl (fun j => sb_b (by9 j))))] sz) [(mx, .inr (4, [.int th3, .int (nI n), .int (nI dn), .int (nI bn3), .int (nI wn), .ref m5, .ref m6, .ref m7, .ref m8, .ref m9, .ref m10, .ref m11])), (m11, .inl (cB, 200, .inl (fun j => sb_b (by3 j))))]) (va_A [(mx, .inr (4, [.int th, .int (nI n), .int (nI dn), .int (nI bn), .int (nI wn), .ref m5, .ref m6, .ref m7, .ref m8, .ref m9, .ref m10, .ref m11])), (m11, .inl (cB, 200, .inl (fun j => sb_b (by9 j))))] sz)) 0 0 (va_A [(mx, .inr (4, [.int th, .int (nI n), .int (nI dn), .int (nI bn), .int (nI wn), .ref m5, .ref m6, .ref m7, .ref m8, .ref m9, .ref m10, .ref m11])), (m11, .inl (cB, 200, .inl (fun j => sb_b (by9 j))))] sz) := by
  refine Met.ofW (cc := cX4_bytes) (maxL := 4) (ret := (some .int)) (by decide) rfl ?_
  intro p e s m args below meth c s₁ B hml hv
  obtain ⟨rfl, hsz, hP, hK, hD0⟩ := hv
  have hx := B.exec
  have hb := B.bytes
  have hr := B.returns
  have hts := atoms_spec (ws := wsX4_bytes) B.pre
  have hown : s.vm.findClass RX4 = some m.cls := findClass_of_methodNamed B.named
  have hlocks := B.notSynchronized
  subst hsz
  have hD := hD0.self (sz := s.heap.size)
  generalize hAe : va_A [(mx, .inr (4, [.int th, .int (nI n), .int (nI dn), .int (nI bn), .int (nI wn), .ref m5, .ref m6, .ref m7, .ref m8, .ref m9, .ref m10, .ref m11])), (m11, .inl (cB, 200, .inl (fun j => sb_b (by9 j))))] s.heap.size = A at hD ⊢
  have hA : ∀ q : Nat, s.heap.size ≤ q → A q := fun q h => by rw [← hAe]; exact Or.inr h
  have hS : va_S A s.heap s.heap [] := va_S.rf
  have hinX4 : ∀ w ∈ wsX40, w ∈ wsX4_bytes := by decide +kernel
  have hl := lv_entry ([.ref mx, .int v9, .int n9]) (n := 4) (Nat.le_of_ble_eq_true rfl)
  rw [lg_entry_eq]
  generalize (lg_sl ([.ref mx, .int v9, .int n9]) ++ List.replicate (4 - (lg_sl ([.ref mx, .int v9, .int n9])).length) Slot.unset).toArray = ls at hl ⊢
  have hl : lv_has ls 4 [(0, .ref mx), (1, .int v9), (2, .int n9)] := hl
  refine lv_aload_n hx hb dX4_bytes_0 rfl (lv_at hl 0 rfl) ?_
  refine lv_iload_n hx hb dX4_bytes_1 rfl (lv_at hl 2 rfl) ?_
  refine lv_iconst (v := 1) hx hb dX4_bytes_2 (by decide) ?_
  refine lv_icmp_lt (tgt := 11) hx hb dX4_bytes_3 (by decide) (fun c3 => ?_) (fun c3 => ?_)
  · refine lv_iconst (v := 1) hx hb dX4_bytes_11 (by decide) ?_
    refine lv_goto (tgt := 32) hx hb dX4_bytes_12 (by decide) ?_
    refine va_put (D := (dC, dI)) (ci := 4) (v := .int 1) (ty := .int) (C := RX4) (T := TX4) (N := 12) hx hb hts hinX4 tyX4 tyX4_ok nmX4 hown hK hP hD hS 0 rfl rfl 0 (by decide) (hts (.fieldLink RX4 32 "NumberContentsModel" "thrown" "I") (by decide +kernel)) (fun _ h9 => h9) rfl (by decide +kernel) rfl rfl (Nat.le_of_ble_eq_true rfl) dX4_bytes_32 (fun H locs hP hD hS => ?_)
    have hP : va_P (dC, dI) vwCl [(mx, .inr (4, [.int 1, .int (nI n), .int (nI dn), .int (nI bn), .int (nI wn), .ref m5, .ref m6, .ref m7, .ref m8, .ref m9, .ref m10, .ref m11])), (m11, .inl (cB, 200, .inl (fun j => sb_b (by9 j))))] H := hP
    have hD : va_D A [(mx, .inr (4, [.int 1, .int (nI n), .int (nI dn), .int (nI bn), .int (nI wn), .ref m5, .ref m6, .ref m7, .ref m8, .ref m9, .ref m10, .ref m11])), (m11, .inl (cB, 200, .inl (fun j => sb_b (by9 j))))] := hD
    refine lv_aload_n hx hb dX4_bytes_35 rfl (lv_at hl 0 rfl) ?_
    refine va_get (D := (dC, dI)) (ci := 4) (v := .int 1) (C := RX4) (T := TX4) (N := 12) hx hb hts hinX4 hown hK hP 0 rfl rfl 0 (by decide) (hts (.fieldLink RX4 32 "NumberContentsModel" "thrown" "I") (by decide +kernel)) (fun _ h9 => h9) rfl dX4_bytes_36 ?_
    refine lv_if_le (tgt := 44) hx hb dX4_bytes_39 (by decide) (fun c39 => ?_) (fun c39 => ?_)
    · first | exact absurd c39 (by decide) | exact (c39 (by decide)).elim
    · refine lv_iconst (v := 0) hx hb dX4_bytes_42 (by decide) ?_
      have hP9 := hP.sub (ws' := [(mx, .inr (4, [.int 1, .int (nI n), .int (nI dn), .int (nI bn), .int (nI wn), .ref m5, .ref m6, .ref m7, .ref m8, .ref m9, .ref m10, .ref m11])), (m11, .inl (cB, 200, .inl (fun j => sb_b (by9 j))))]) [0, 1] rfl
      have hD9 := hD.sub (ws' := [(mx, .inr (4, [.int 1, .int (nI n), .int (nI dn), .int (nI bn), .int (nI wn), .ref m5, .ref m6, .ref m7, .ref m8, .ref m9, .ref m10, .ref m11])), (m11, .inl (cB, 200, .inl (fun j => sb_b (by9 j))))]) [0, 1] (by decide) rfl
      have hK9 := hK.sub (tys' := [(cB, .byte)]) [0] rfl
      exact W.iret (v := 0) hx hb hr (fun tS htS hW => ⟨⟨0, (1, bn, by9), rfl, (by first | exact Or.inr (Or.inr ⟨rfl, rfl, rfl, k, rfl, hk1, hk4, Nat.lt_of_not_le (fun y => c24 (nI_le y (by omega)))⟩) | exact Or.inr (Or.inl ⟨rfl, rfl, rfl, fun ⟨k2, e2, e3, e4⟩ => c8 (by rw [e2]; exact nI_le e4 (by omega))⟩) | exact Or.inr (Or.inl ⟨rfl, rfl, rfl, fun ⟨k2, e2, e3, e4⟩ => nI_lt1 (k := k2) e3 (by omega) (e2 ▸ c3)⟩)), by rw [htS]; exact hP9, va_K.moved hW.alike hK9, hD9⟩, hS.F htS⟩) hS.2.2 dX4_bytes_43
  · refine lv_iload_n hx hb dX4_bytes_6 rfl (lv_at hl 2 rfl) ?_
    refine lv_iconst (v := (nI 4)) hx hb dX4_bytes_7 (by decide) ?_
    refine lv_icmp_le (tgt := 15) hx hb dX4_bytes_8 (by decide) (fun c8 => ?_) (fun c8 => ?_)
    · obtain ⟨k, hk1, hk4, rfl⟩ := dg_n (N := 4) (by decide) c3 (Int32.not_lt.mpr c8)
      refine lv_aload_n hx hb dX4_bytes_15 rfl (lv_at hl 0 rfl) ?_
      refine va_get (D := (dC, dI)) (ci := 4) (v := .int (nI bn)) (C := RX4) (T := TX4) (N := 12) hx hb hts hinX4 hown hK hP 0 rfl rfl 3 (by decide) (hts (.fieldLink RX4 39 "NumberContentsModel" "byteMany" "I") (by decide +kernel)) (fun _ h9 => h9) rfl dX4_bytes_16 ?_
      refine lv_iload_n hx hb dX4_bytes_19 rfl (lv_at hl 2 rfl) ?_
      refine lv_iadd hx hb dX4_bytes_20 ?_
      refine lv_topi (fun x20 e20 => ?_)
      obtain rfl : x20 = nI (bn + k) := e20.trans (nI_add _ _)
      refine lv_sipush (v := (nI 200)) hx hb dX4_bytes_21 (by decide) ?_
      refine lv_icmp_le (tgt := 31) hx hb dX4_bytes_24 (by decide) (fun c24 => ?_) (fun c24 => ?_)
      · refine lv_iconst (v := 0) hx hb dX4_bytes_31 (by decide) ?_
        refine va_put (D := (dC, dI)) (ci := 4) (v := .int 0) (ty := .int) (C := RX4) (T := TX4) (N := 12) hx hb hts hinX4 tyX4 tyX4_ok nmX4 hown hK hP hD hS 0 rfl rfl 0 (by decide) (hts (.fieldLink RX4 32 "NumberContentsModel" "thrown" "I") (by decide +kernel)) (fun _ h9 => h9) rfl (by decide +kernel) rfl rfl (Nat.le_of_ble_eq_true rfl) dX4_bytes_32 (fun H locs hP hD hS => ?_)
        have hP : va_P (dC, dI) vwCl [(mx, .inr (4, [.int 0, .int (nI n), .int (nI dn), .int (nI bn), .int (nI wn), .ref m5, .ref m6, .ref m7, .ref m8, .ref m9, .ref m10, .ref m11])), (m11, .inl (cB, 200, .inl (fun j => sb_b (by9 j))))] H := hP
        have hD : va_D A [(mx, .inr (4, [.int 0, .int (nI n), .int (nI dn), .int (nI bn), .int (nI wn), .ref m5, .ref m6, .ref m7, .ref m8, .ref m9, .ref m10, .ref m11])), (m11, .inl (cB, 200, .inl (fun j => sb_b (by9 j))))] := hD
        refine lv_aload_n hx hb dX4_bytes_35 rfl (lv_at hl 0 rfl) ?_
        refine va_get (D := (dC, dI)) (ci := 4) (v := .int 0) (C := RX4) (T := TX4) (N := 12) hx hb hts hinX4 hown hK hP 0 rfl rfl 0 (by decide) (hts (.fieldLink RX4 32 "NumberContentsModel" "thrown" "I") (by decide +kernel)) (fun _ h9 => h9) rfl dX4_bytes_36 ?_
        refine lv_if_le (tgt := 44) hx hb dX4_bytes_39 (by decide) (fun c39 => ?_) (fun c39 => ?_)
        · have hrm : bn + k ≤ 200 := (nI_leI (by omega) (by omega)).mp c24
          refine lv_iload_n hx hb dX4_bytes_44 rfl (lv_at hl 2 rfl) ?_
          refine lv_iconst (v := 1) hx hb dX4_bytes_45 (by decide) ?_
          refine lv_isub hx hb dX4_bytes_46 ?_
          refine lv_topi (fun x46 e46 => ?_)
          obtain rfl : x46 = nI (k - 1) := e46.trans (nI_m1 hk1)
          refine lv_istore_n (lv' := [(3, .int (nI (k - 1))), (0, .ref mx), (1, .int v9), (2, .int (nI k))]) hx hb dX4_bytes_47 rfl hl (by decide) rfl (fun ls hl => ?_)
          have LP48 : ∀ (n9 : Nat) (q : Nat) (x : Int32) (b2 : Nat → Nat) (hm : (k - q) < n9) (hi : q ≤ k) (hxi : x = nI (k - q) - 1) (hb2 : ∀ j, b2 j < 256) (hlo : ∀ j, j < bn → b2 j = by9 j) (hnew : ∀ j, j < q → b2 (bn + j) = byt v9 (8 * (k - 1 - j))) (H : Heap) (locs : List Loc) (ls : Array Slot) (hP : va_P (dC, dI) vwCl [(mx, .inr (4, [.int 0, .int (nI n), .int (nI dn), .int (nI (bn + q)), .int (nI wn), .ref m5, .ref m6, .ref m7, .ref m8, .ref m9, .ref m10, .ref m11])), (m11, .inl (cB, 200, .inl (fun j => sb_b (b2 j))))] H) (hD : va_D A [(mx, .inr (4, [.int 0, .int (nI n), .int (nI dn), .int (nI (bn + q)), .int (nI wn), .ref m5, .ref m6, .ref m7, .ref m8, .ref m9, .ref m10, .ref m11])), (m11, .inl (cB, 200, .inl (fun j => sb_b (b2 j))))]) (hS : va_S A s.heap H locs) (hl : lv_has ls 4 [(0, .ref mx), (1, .int v9), (2, .int (nI k)), (3, .int x)]), W p l e (headSpec wsX4_bytes ({ frames := 0, cells := 0, slots := 0, locals := 0 } : Room)).room s m ([.ref mx, .int v9, .int (nI k)]).toArray below meth c H locs 0 0 (MQ below (va_Qi (fun (r : Int32) (uS : Int32 × Nat × (Nat → Nat)) => match uS with | (th3, bn3, by3) => (th3 = 0 ∧ ∃ kK, (nI k) = nI kK ∧ 1 ≤ kK ∧ kK ≤ 4 ∧ bn + kK ≤ 200 ∧ bn3 = bn + kK ∧ r = nI (bn + kK) ∧ (∀ j, by3 j < 256) ∧ (∀ j, j < bn → by3 j = by9 j) ∧ (∀ j, j < kK → by3 (bn + j) = byt v9 (8 * (kK - 1 - j)))) ∨ (th3 = 1 ∧ bn3 = bn ∧ by3 = by9 ∧ ¬ ∃ kK, (nI k) = nI kK ∧ 1 ≤ kK ∧ kK ≤ 4) ∨ (th3 = 2 ∧ bn3 = bn ∧ by3 = by9 ∧ ∃ kK, (nI k) = nI kK ∧ 1 ≤ kK ∧ kK ≤ 4 ∧ 200 < bn + kK)) (fun (uS : Int32 × Nat × (Nat → Nat)) (tS : State) => match uS with | (th3, bn3, by3) => va_P (dC, dI) vwCl [(mx, .inr (4, [.int th3, .int (nI n), .int (nI dn), .int (nI bn3), .int (nI wn), .ref m5, .ref m6, .ref m7, .ref m8, .ref m9, .ref m10, .ref m11])), (m11, .inl (cB, 200, .inl (fun j => sb_b (by3 j))))] tS.heap ∧ va_K (dC, dI) vwCl [(cB, .byte)] tS ∧ va_D A [(mx, .inr (4, [.int th3, .int (nI n), .int (nI dn), .int (nI bn3), .int (nI wn), .ref m5, .ref m6, .ref m7, .ref m8, .ref m9, .ref m10, .ref m11])), (m11, .inl (cB, 200, .inl (fun j => sb_b (by3 j))))]) A) ([.ref mx, .int v9, .int (nI k)]).toArray s 0 0 A) (F0 m 48 ls []) := by
            intro n9
            induction n9 with
            | zero => intro q x b2 hm; exact absurd hm (Nat.not_lt_zero _)
            | succ n9 ih =>
              intro q x b2 hm hi hxi hb2 hlo hnew H locs ls hP hD hS hl
              have ih48 := ih
              refine lv_iload_n hx hb dX4_bytes_48 rfl (lv_at hl 3 rfl) ?_
              refine lv_if_lt (tgt := 84) hx hb dX4_bytes_49 (by decide) (fun c49 => ?_) (fun c49 => ?_)
              · obtain rfl : k = q := (by have := dc_out hxi (by omega) c49; omega)
                refine lv_aload_n hx hb dX4_bytes_84 rfl (lv_at hl 0 rfl) ?_
                refine va_get (D := (dC, dI)) (ci := 4) (v := .int (nI (bn + k))) (C := RX4) (T := TX4) (N := 12) hx hb hts hinX4 hown hK hP 0 rfl rfl 3 (by decide) (hts (.fieldLink RX4 39 "NumberContentsModel" "byteMany" "I") (by decide +kernel)) (fun _ h9 => h9) rfl dX4_bytes_85 ?_
                have hP9 := hP.sub (ws' := [(mx, .inr (4, [.int 0, .int (nI n), .int (nI dn), .int (nI (bn + k)), .int (nI wn), .ref m5, .ref m6, .ref m7, .ref m8, .ref m9, .ref m10, .ref m11])), (m11, .inl (cB, 200, .inl (fun j => sb_b (b2 j))))]) [0, 1] rfl
                have hD9 := hD.sub (ws' := [(mx, .inr (4, [.int 0, .int (nI n), .int (nI dn), .int (nI (bn + k)), .int (nI wn), .ref m5, .ref m6, .ref m7, .ref m8, .ref m9, .ref m10, .ref m11])), (m11, .inl (cB, 200, .inl (fun j => sb_b (b2 j))))]) [0, 1] (by decide) rfl
                have hK9 := hK.sub (tys' := [(cB, .byte)]) [0] rfl
                exact W.iret (v := (nI (bn + k))) hx hb hr (fun tS htS hW => ⟨⟨(nI (bn + k)), (0, (bn + k), b2), rfl, (Or.inl ⟨rfl, k, rfl, hk1, hk4, hrm, rfl, rfl, hb2, hlo, hnew⟩), by rw [htS]; exact hP9, va_K.moved hW.alike hK9, hD9⟩, hS.F htS⟩) hS.2.2 dX4_bytes_88
              · have hlt : q < k := by rcases Nat.lt_or_ge q k with h | h; exact h; exact absurd (by rw [hxi, show k - q = 0 from by omega]; decide) c49
                obtain rfl : x = nI (k - 1 - q) := hxi.trans ((nI_m1 (by omega)).trans (by congr 1; omega))
                refine lv_aload_n hx hb dX4_bytes_52 rfl (lv_at hl 0 rfl) ?_
                refine va_get (D := (dC, dI)) (ci := 4) (v := .ref m11) (C := RX4) (T := TX4) (N := 12) hx hb hts hinX4 hown hK hP 0 rfl rfl 11 (by decide) (hts (.fieldLink RX4 29 "NumberContentsModel" "bytes" "[B") (by decide +kernel)) (fun _ h9 => h9) rfl dX4_bytes_53 ?_
                refine lv_aload_n hx hb dX4_bytes_56 rfl (lv_at hl 0 rfl) ?_
                refine va_get (D := (dC, dI)) (ci := 4) (v := .int (nI (bn + q))) (C := RX4) (T := TX4) (N := 12) hx hb hts hinX4 hown hK hP 0 rfl rfl 3 (by decide) (hts (.fieldLink RX4 39 "NumberContentsModel" "byteMany" "I") (by decide +kernel)) (fun _ h9 => h9) rfl dX4_bytes_57 ?_
                refine lv_iload_n hx hb dX4_bytes_60 rfl (lv_at hl 1 rfl) ?_
                refine lv_bipush (v := (nI 8)) hx hb dX4_bytes_61 (by decide) ?_
                refine lv_iload_n hx hb dX4_bytes_63 rfl (lv_at hl 3 rfl) ?_
                refine lv_imul hx hb dX4_bytes_64 ?_
                refine lv_topi (fun x64 e64 => ?_)
                obtain rfl : x64 = nI (8 * (k - 1 - q)) := e64.trans (pk_mul 8 _)
                refine lv_ishr hx hb dX4_bytes_65 ?_
                refine lv_topi (fun x65 e65 => ?_)
                refine lv_i2b hx hb dX4_bytes_66 rfl ?_
                refine lv_topi (fun x66 e66 => ?_)
                obtain rfl : x66 = sb_b (byt v9 (8 * (k - 1 - q))) := e66.trans ((sb_of _).trans (by rw [e65, byt_eq _ (by omega)]))
                refine va_bast hx hb hK hP hD hS 1 0 rfl rfl (vp_in_nI (by omega) (by omega)) dX4_bytes_67 (fun H locs hP hD hS => ?_)
                have hP : va_P (dC, dI) vwCl [(mx, .inr (4, [.int 0, .int (nI n), .int (nI dn), .int (nI (bn + q)), .int (nI wn), .ref m5, .ref m6, .ref m7, .ref m8, .ref m9, .ref m10, .ref m11])), (m11, .inl (cB, 200, .inl (upd (fun j => sb_b (b2 j)) (nI (bn + q)).toNatClampNeg (vp_nar .byte (sb_b (byt v9 (8 * (k - 1 - q))))))))] H := hP
                have hD : va_D A [(mx, .inr (4, [.int 0, .int (nI n), .int (nI dn), .int (nI (bn + q)), .int (nI wn), .ref m5, .ref m6, .ref m7, .ref m8, .ref m9, .ref m10, .ref m11])), (m11, .inl (cB, 200, .inl (upd (fun j => sb_b (b2 j)) (nI (bn + q)).toNatClampNeg (vp_nar .byte (sb_b (byt v9 (8 * (k - 1 - q))))))))] := hD
                obtain ⟨f67, e67⟩ : ∃ zz9 : Nat → Int32, zz9 = upd (fun j => sb_b (b2 j)) (nI (bn + q)).toNatClampNeg (vp_nar .byte (sb_b (byt v9 (8 * (k - 1 - q))))) := ⟨_, rfl⟩
                rw [← e67] at hP hD
                obtain rfl : f67 = fun j => sb_b (va_up b2 (bn + q) (byt v9 (8 * (k - 1 - q))) j) := e67.trans (upsb (by omega))
                refine lv_aload_n hx hb dX4_bytes_68 rfl (lv_at hl 0 rfl) ?_
                refine lv_dup hx hb dX4_bytes_69 rfl ?_
                refine va_get (D := (dC, dI)) (ci := 4) (v := .int (nI (bn + q))) (C := RX4) (T := TX4) (N := 12) hx hb hts hinX4 hown hK hP 0 rfl rfl 3 (by decide) (hts (.fieldLink RX4 39 "NumberContentsModel" "byteMany" "I") (by decide +kernel)) (fun _ h9 => h9) rfl dX4_bytes_70 ?_
                refine lv_iconst (v := 1) hx hb dX4_bytes_73 (by decide) ?_
                refine lv_iadd hx hb dX4_bytes_74 ?_
                refine lv_topi (fun x74 e74 => ?_)
                obtain rfl : x74 = nI (bn + q + 1) := e74.trans (nI_1 _)
                refine va_put (D := (dC, dI)) (ci := 4) (v := .int (nI (bn + q + 1))) (ty := .int) (C := RX4) (T := TX4) (N := 12) hx hb hts hinX4 tyX4 tyX4_ok nmX4 hown hK hP hD hS 0 rfl rfl 3 (by decide) (hts (.fieldLink RX4 39 "NumberContentsModel" "byteMany" "I") (by decide +kernel)) (fun _ h9 => h9) rfl (by decide +kernel) rfl rfl (Nat.le_of_ble_eq_true rfl) dX4_bytes_75 (fun H locs hP hD hS => ?_)
                have hP : va_P (dC, dI) vwCl [(mx, .inr (4, [.int 0, .int (nI n), .int (nI dn), .int (nI (bn + q + 1)), .int (nI wn), .ref m5, .ref m6, .ref m7, .ref m8, .ref m9, .ref m10, .ref m11])), (m11, .inl (cB, 200, .inl (fun j => sb_b (va_up b2 (bn + q) (byt v9 (8 * (k - 1 - q))) j))))] H := hP
                have hD : va_D A [(mx, .inr (4, [.int 0, .int (nI n), .int (nI dn), .int (nI (bn + q + 1)), .int (nI wn), .ref m5, .ref m6, .ref m7, .ref m8, .ref m9, .ref m10, .ref m11])), (m11, .inl (cB, 200, .inl (fun j => sb_b (va_up b2 (bn + q) (byt v9 (8 * (k - 1 - q))) j))))] := hD
                obtain ⟨x78, e78⟩ : ∃ zz9 : Int32, zz9 = (nI (k - 1 - q)) + (-1) := ⟨_, rfl⟩
                refine lv_iinc (v := x78) (lv' := [(3, .int x78), (0, .ref mx), (1, .int v9), (2, .int (nI k))]) hx hb dX4_bytes_78 hl (k := 3) rfl (by rw [e78]; rfl) (by decide) rfl (fun ls hl => ?_)
                refine lv_goto (tgt := 48) hx hb dX4_bytes_81 (by decide) ?_
                exact ih48 (q + 1) x78 (va_up b2 (bn + q) (byt v9 (8 * (k - 1 - q)))) (by omega) (by omega) (by rw [e78, show k - 1 - q = k - (q + 1) from by omega]; exact (Int32.sub_eq_add_neg _ _).symm) (up_lt hb2 (byt_lt _ _)) (fun j h => by rw [va_up_ne _ _ (by omega)]; exact hlo j h) (fun j h => by by_cases e : j = q; rw [e, va_up_self]; rw [va_up_ne _ _ (by omega)]; exact hnew j (by omega)) _ _ _ (hP.sub [0, 1] rfl) (hD.sub [0, 1] (by decide) rfl) hS (lv_sub hl [1, 2, 3, 0] rfl)
          exact LP48 _ 0 (nI (k - 1)) by9 (Nat.lt_succ_self _) (by omega) ((nI_m1 hk1).symm) hby (fun j h => rfl) (fun j h => absurd h (by omega)) _ _ _ (hP.sub [0, 1] rfl) (hD.sub [0, 1] (by decide) rfl) hS (lv_sub hl [1, 2, 3, 0] rfl)
        · first | exact absurd c39 (by decide) | exact (c39 (by decide)).elim
      · refine lv_iconst (v := 2) hx hb dX4_bytes_27 (by decide) ?_
        refine lv_goto (tgt := 32) hx hb dX4_bytes_28 (by decide) ?_
        refine va_put (D := (dC, dI)) (ci := 4) (v := .int 2) (ty := .int) (C := RX4) (T := TX4) (N := 12) hx hb hts hinX4 tyX4 tyX4_ok nmX4 hown hK hP hD hS 0 rfl rfl 0 (by decide) (hts (.fieldLink RX4 32 "NumberContentsModel" "thrown" "I") (by decide +kernel)) (fun _ h9 => h9) rfl (by decide +kernel) rfl rfl (Nat.le_of_ble_eq_true rfl) dX4_bytes_32 (fun H locs hP hD hS => ?_)
        have hP : va_P (dC, dI) vwCl [(mx, .inr (4, [.int 2, .int (nI n), .int (nI dn), .int (nI bn), .int (nI wn), .ref m5, .ref m6, .ref m7, .ref m8, .ref m9, .ref m10, .ref m11])), (m11, .inl (cB, 200, .inl (fun j => sb_b (by9 j))))] H := hP
        have hD : va_D A [(mx, .inr (4, [.int 2, .int (nI n), .int (nI dn), .int (nI bn), .int (nI wn), .ref m5, .ref m6, .ref m7, .ref m8, .ref m9, .ref m10, .ref m11])), (m11, .inl (cB, 200, .inl (fun j => sb_b (by9 j))))] := hD
        refine lv_aload_n hx hb dX4_bytes_35 rfl (lv_at hl 0 rfl) ?_
        refine va_get (D := (dC, dI)) (ci := 4) (v := .int 2) (C := RX4) (T := TX4) (N := 12) hx hb hts hinX4 hown hK hP 0 rfl rfl 0 (by decide) (hts (.fieldLink RX4 32 "NumberContentsModel" "thrown" "I") (by decide +kernel)) (fun _ h9 => h9) rfl dX4_bytes_36 ?_
        refine lv_if_le (tgt := 44) hx hb dX4_bytes_39 (by decide) (fun c39 => ?_) (fun c39 => ?_)
        · first | exact absurd c39 (by decide) | exact (c39 (by decide)).elim
        · refine lv_iconst (v := 0) hx hb dX4_bytes_42 (by decide) ?_
          have hP9 := hP.sub (ws' := [(mx, .inr (4, [.int 2, .int (nI n), .int (nI dn), .int (nI bn), .int (nI wn), .ref m5, .ref m6, .ref m7, .ref m8, .ref m9, .ref m10, .ref m11])), (m11, .inl (cB, 200, .inl (fun j => sb_b (by9 j))))]) [0, 1] rfl
          have hD9 := hD.sub (ws' := [(mx, .inr (4, [.int 2, .int (nI n), .int (nI dn), .int (nI bn), .int (nI wn), .ref m5, .ref m6, .ref m7, .ref m8, .ref m9, .ref m10, .ref m11])), (m11, .inl (cB, 200, .inl (fun j => sb_b (by9 j))))]) [0, 1] (by decide) rfl
          have hK9 := hK.sub (tys' := [(cB, .byte)]) [0] rfl
          exact W.iret (v := 0) hx hb hr (fun tS htS hW => ⟨⟨0, (2, bn, by9), rfl, (by first | exact Or.inr (Or.inr ⟨rfl, rfl, rfl, k, rfl, hk1, hk4, Nat.lt_of_not_le (fun y => c24 (nI_le y (by omega)))⟩) | exact Or.inr (Or.inl ⟨rfl, rfl, rfl, fun ⟨k2, e2, e3, e4⟩ => c8 (by rw [e2]; exact nI_le e4 (by omega))⟩) | exact Or.inr (Or.inl ⟨rfl, rfl, rfl, fun ⟨k2, e2, e3, e4⟩ => nI_lt1 (k := k2) e3 (by omega) (e2 ▸ c3)⟩)), by rw [htS]; exact hP9, va_K.moved hW.alike hK9, hD9⟩, hS.F htS⟩) hS.2.2 dX4_bytes_43
    · refine lv_iconst (v := 1) hx hb dX4_bytes_11 (by decide) ?_
      refine lv_goto (tgt := 32) hx hb dX4_bytes_12 (by decide) ?_
      refine va_put (D := (dC, dI)) (ci := 4) (v := .int 1) (ty := .int) (C := RX4) (T := TX4) (N := 12) hx hb hts hinX4 tyX4 tyX4_ok nmX4 hown hK hP hD hS 0 rfl rfl 0 (by decide) (hts (.fieldLink RX4 32 "NumberContentsModel" "thrown" "I") (by decide +kernel)) (fun _ h9 => h9) rfl (by decide +kernel) rfl rfl (Nat.le_of_ble_eq_true rfl) dX4_bytes_32 (fun H locs hP hD hS => ?_)
      have hP : va_P (dC, dI) vwCl [(mx, .inr (4, [.int 1, .int (nI n), .int (nI dn), .int (nI bn), .int (nI wn), .ref m5, .ref m6, .ref m7, .ref m8, .ref m9, .ref m10, .ref m11])), (m11, .inl (cB, 200, .inl (fun j => sb_b (by9 j))))] H := hP
      have hD : va_D A [(mx, .inr (4, [.int 1, .int (nI n), .int (nI dn), .int (nI bn), .int (nI wn), .ref m5, .ref m6, .ref m7, .ref m8, .ref m9, .ref m10, .ref m11])), (m11, .inl (cB, 200, .inl (fun j => sb_b (by9 j))))] := hD
      refine lv_aload_n hx hb dX4_bytes_35 rfl (lv_at hl 0 rfl) ?_
      refine va_get (D := (dC, dI)) (ci := 4) (v := .int 1) (C := RX4) (T := TX4) (N := 12) hx hb hts hinX4 hown hK hP 0 rfl rfl 0 (by decide) (hts (.fieldLink RX4 32 "NumberContentsModel" "thrown" "I") (by decide +kernel)) (fun _ h9 => h9) rfl dX4_bytes_36 ?_
      refine lv_if_le (tgt := 44) hx hb dX4_bytes_39 (by decide) (fun c39 => ?_) (fun c39 => ?_)
      · first | exact absurd c39 (by decide) | exact (c39 (by decide)).elim
      · refine lv_iconst (v := 0) hx hb dX4_bytes_42 (by decide) ?_
        have hP9 := hP.sub (ws' := [(mx, .inr (4, [.int 1, .int (nI n), .int (nI dn), .int (nI bn), .int (nI wn), .ref m5, .ref m6, .ref m7, .ref m8, .ref m9, .ref m10, .ref m11])), (m11, .inl (cB, 200, .inl (fun j => sb_b (by9 j))))]) [0, 1] rfl
        have hD9 := hD.sub (ws' := [(mx, .inr (4, [.int 1, .int (nI n), .int (nI dn), .int (nI bn), .int (nI wn), .ref m5, .ref m6, .ref m7, .ref m8, .ref m9, .ref m10, .ref m11])), (m11, .inl (cB, 200, .inl (fun j => sb_b (by9 j))))]) [0, 1] (by decide) rfl
        have hK9 := hK.sub (tys' := [(cB, .byte)]) [0] rfl
        exact W.iret (v := 0) hx hb hr (fun tS htS hW => ⟨⟨0, (1, bn, by9), rfl, (by first | exact Or.inr (Or.inr ⟨rfl, rfl, rfl, k, rfl, hk1, hk4, Nat.lt_of_not_le (fun y => c24 (nI_le y (by omega)))⟩) | exact Or.inr (Or.inl ⟨rfl, rfl, rfl, fun ⟨k2, e2, e3, e4⟩ => c8 (by rw [e2]; exact nI_le e4 (by omega))⟩) | exact Or.inr (Or.inl ⟨rfl, rfl, rfl, fun ⟨k2, e2, e3, e4⟩ => nI_lt1 (k := k2) e3 (by omega) (e2 ▸ c3)⟩)), by rw [htS]; exact hP9, va_K.moved hW.alike hK9, hD9⟩, hS.F htS⟩) hS.2.2 dX4_bytes_43

