theorem ngm_ex {g g3 : Nat → Nat} {x : Int} (hx : fitz x 200) (e : sv g 210 = x) (h : (∀ j, g3 j < 256) ∧ ∃ q : Int, (bv g3 210 : Int) + q * ((256 ^ 210 : Nat) : Int) = bv g 210 * (-1 : Int32).toInt + (0 : Int32).toInt) : sv g3 210 = -x := by
  have h2 := mam_ex (y := x * (-1) + 0) h (by rw [e]; rfl) (ng_fit hx)
  omega
theorem dgm_ex {g g3 d : Nat → Nat} {i : Nat} (hd : ∀ j, d j < 10) (hi : i + 1 ≤ 480) (e : sv g 210 = (dval d i : Int)) (h : (∀ j, g3 j < 256) ∧ ∃ q : Int, (bv g3 210 : Int) + q * ((256 ^ 210 : Nat) : Int) = bv g 210 * (10 : Int32).toInt + (nI (d i)).toInt) : sv g3 210 = (dval d (i + 1) : Int) := by
  have hdi := hd i
  refine mam_ex h ?_ (fitz_mono (dval_fit hd hi) (by decide))
  rw [e, nI_toInt (by omega), show (10 : Int32).toInt = 10 from by decide]
  show _ = ((dval d i * 10 + d i : Nat) : Int)
  omega
theorem sb_0 {c : Nat} (h : c < 256) : sb_b c = 0 ↔ c = 0 := (by decide +kernel : ∀ c, c < 256 → (sb_b c = 0 ↔ c = 0)) c h
theorem sb_m {c : Nat} (h : c < 256) : sb_b c = -1 ↔ c = 255 := (by decide +kernel : ∀ c, c < 256 → (sb_b c = -1 ↔ c = 255)) c h
theorem fw_yes {b : Nat → Nat} {n : Nat} (hb : ∀ j, b j < 256) (h1 : 1 ≤ n) (h : n < 2 ∨ ¬ ((b 0 = 0 ∧ b 1 < 128) ∨ (b 0 = 255 ∧ 128 ≤ b 1))) : isz (sv (fun j => b (n - 1 - j)) n) n := by
  have h0 := hb 0
  have e0 : b (n - 1 - (n - 1)) = b 0 := by rw [Nat.sub_self]
  by_cases hn : n < 2
  · by_cases y : 128 ≤ b 0
    · exact few_exit (fl := 255) (fun i => hb _) h1 (Or.inl ⟨rfl, by rw [e0]; exact y⟩) (Or.inl (by omega))
    · exact few_exit (fl := 0) (fun i => hb _) h1 (Or.inr ⟨rfl, by rw [e0]; omega⟩) (Or.inl (by omega))
  · have e1 : b (n - 1 - (n - 2)) = b 1 := by rw [show n - 1 - (n - 2) = 1 from by omega]
    have h := h.resolve_left hn
    by_cases y : 128 ≤ b 0
    · refine few_exit (fl := 255) (fun i => hb _) h1 (Or.inl ⟨rfl, by rw [e0]; exact y⟩) (Or.inr ?_)
      rw [e0, e1]
      by_cases y2 : b 0 = 255
      · exact Or.inr (Or.inl ⟨rfl, Nat.lt_of_not_le (fun w => h (Or.inr ⟨y2, w⟩))⟩)
      · exact Or.inl y2
    · refine few_exit (fl := 0) (fun i => hb _) h1 (Or.inr ⟨rfl, by rw [e0]; omega⟩) (Or.inr ?_)
      rw [e0, e1]
      by_cases y2 : b 0 = 0
      · exact Or.inr (Or.inr ⟨rfl, Nat.le_of_not_lt (fun w => h (Or.inl ⟨y2, w⟩))⟩)
      · exact Or.inl y2
theorem fw_no {b : Nat → Nat} {n : Nat} (hb : ∀ j, b j < 256) (h2 : 2 ≤ n) (h : (b 0 = 0 ∧ b 1 < 128) ∨ (b 0 = 255 ∧ 128 ≤ b 1)) : ¬ isz (sv (fun j => b (n - 1 - j)) n) n := by
  intro hz
  have e0 : b (n - 1 - (n - 1)) = b 0 := by rw [Nat.sub_self]
  have e1 : b (n - 1 - (n - 2)) = b 1 := by rw [show n - 1 - (n - 2) = 1 from by omega]
  have e := sv_step (g := fun j => b (n - 1 - j)) (n := n) (fl := b 0) h2 (by rw [e1]; omega) e0
  exact hz.2.2 h2 (e ▸ sv_fit (fun i => hb _) (by omega))
theorem sv_ng {w : Nat → Nat} (hw : ∀ j, w j < 256) (h : 128 ≤ w 209) : sv w 210 < 0 := by
  have h1 := bv_lt hw 210
  unfold sv
  rw [show 210 - 1 = 209 from rfl, if_pos h]
  generalize 256 ^ 210 = P at *
  omega
theorem sv_nn {w : Nat → Nat} (h : ¬ 128 ≤ w 209) : sv w 210 = (bv w 210 : Int) := by
  unfold sv
  rw [show 210 - 1 = 209 from rfl, if_neg h]
theorem bv_z {w : Nat → Nat} (n : Nat) (h : bv w n = 0) : ∀ j, j < n → w j = 0 := by
  induction n with
  | zero => intro j hj; omega
  | succ n ih =>
    rw [bv_s] at h
    intro j hj
    by_cases e : j = n
    · subst e
      have h2 : w j * 256 ^ j = 0 := by omega
      rcases Nat.mul_eq_zero.mp h2 with h3 | h3
      · exact h3
      · have := pw_pos j; omega
    · exact ih (by omega) j (by omega)
theorem cm_m {w : Nat → Nat} {x y : Int} {r s : Int32} (hw : ∀ j, w j < 256) (e : sv w 210 = x - y) (hs : ¬ 128 ≤ w 209) (hr : (s = 1 ∧ ∀ j, j < 210 → w j = 0) ∨ (s = 0 ∧ ¬ ∀ j, j < 210 → w j = 0)) (h : (s = 0 ∧ r = 1) ∨ (¬ s = 0 ∧ r = 0)) : CMP x y r := by
  rw [sv_nn hs] at e
  rcases h with ⟨h1, h2⟩ | ⟨h1, h2⟩
  · have h3 : ¬ bv w 210 = 0 := fun z => ite_r hr h1 (bv_z 210 z)
    exact Or.inl ⟨h2, by omega⟩
  · have h3 := bv_zero (ite_s hr h1)
    exact Or.inr (Or.inr ⟨h2, by omega⟩)
theorem sm_0m {g z : Nat → Nat} {a : Nat} : (if 128 ≤ g (200 * a) then (-1 : Int) else 0) * ((256 ^ (z a) : Nat) : Int) + bv (fun j => g (200 * a + (z a - 1 - j))) (z a) = mval g z a := by
  unfold mval sv
  simp only [Nat.sub_self, Nat.add_zero]
  by_cases h : 128 ≤ g (200 * a)
  · rw [if_pos h, if_pos h]; omega
  · rw [if_neg h, if_neg h]; omega

set_option maxHeartbeats 4000000 in
set_option maxRecDepth 100000 in
theorem c_X4_number (l : Launch) (dC : Nat → ClassId) (dI : Nat → Nat → Nat) (cI cB : ClassId) (mx m5 m6 m7 m8 m9 m10 m11 n dn bn wn : Nat) (th : Int32) (g z rw dg : Nat → Nat) (mi9 : Int32) (sz : Nat) (hI : XM n g z) (hrw : ∀ j, rw j < 256) (hdn : dn ≤ 480) (hdg : ∀ j, dg j < 10) : Met l yX4_number wsX4_number ({ frames := 3, cells := 0, slots := 0, locals := 66 } : Room) (va_Pc [.ref mx, .int mi9] (fun U => U.heap.size = sz ∧ va_P (dC, dI) vwCl [(mx, .inr (4, [.int th, .int (nI n), .int (nI dn), .int (nI bn), .int (nI wn), .ref m5, .ref m6, .ref m7, .ref m8, .ref m9, .ref m10, .ref m11])), (m5, .inl (cI, 40, .inl (fun j => nI (z j)))), (m6, .inl (cI, 210, .inl (fun j => nI (rw j)))), (m9, .inl (cB, 8000, .inl (fun j => sb_b (g j)))), (m10, .inl (cB, 480, .inl (fun j => sb_b (dg j))))] U.heap ∧ va_K (dC, dI) vwCl [(cI, .int), (cB, .byte)] U ∧ va_D (fun _ => True) [(mx, .inr (4, [.int th, .int (nI n), .int (nI dn), .int (nI bn), .int (nI wn), .ref m5, .ref m6, .ref m7, .ref m8, .ref m9, .ref m10, .ref m11])), (m5, .inl (cI, 40, .inl (fun j => nI (z j)))), (m6, .inl (cI, 210, .inl (fun j => nI (rw j)))), (m9, .inl (cB, 8000, .inl (fun j => sb_b (g j)))), (m10, .inl (cB, 480, .inl (fun j => sb_b (dg j))))])) (va_Qi (fun (r : Int32) (uS : Int32 × Nat × (Nat → Nat) × (Nat → Nat) × (Nat → Nat) × Nat) => match uS with | (th3, n3, g3, z3, rw3, dn3) => (∀ j, rw3 j < 256) ∧ dn3 = 0 ∧ ((th3 = 1 ∧ n3 = n ∧ g3 = g ∧ z3 = z ∧ dn = 0) ∨ (th3 = 0 ∧ n3 = n + 1 ∧ 1 ≤ dn ∧ KEPTM n g z g3 z3 (if mi9 = 0 then (dval dg dn : Int) else -(dval dg dn : Int)) r) ∨ (th3 = 2 ∧ n3 = n ∧ g3 = g ∧ z3 = z ∧ 1 ≤ dn ∧ NOKEEP n (if mi9 = 0 then (dval dg dn : Int) else -(dval dg dn : Int))))) (fun (uS : Int32 × Nat × (Nat → Nat) × (Nat → Nat) × (Nat → Nat) × Nat) (tS : State) => match uS with | (th3, n3, g3, z3, rw3, dn3) => va_P (dC, dI) vwCl [(mx, .inr (4, [.int th3, .int (nI n3), .int (nI dn3), .int (nI bn), .int (nI wn), .ref m5, .ref m6, .ref m7, .ref m8, .ref m9, .ref m10, .ref m11])), (m5, .inl (cI, 40, .inl (fun j => nI (z3 j)))), (m6, .inl (cI, 210, .inl (fun j => nI (rw3 j)))), (m9, .inl (cB, 8000, .inl (fun j => sb_b (g3 j)))), (m10, .inl (cB, 480, .inl (fun j => sb_b (dg j))))] tS.heap ∧ va_K (dC, dI) vwCl [(cI, .int), (cB, .byte)] tS ∧ va_D (va_A [(mx, .inr (4, [.int th, .int (nI n), .int (nI dn), .int (nI bn), .int (nI wn), .ref m5, .ref m6, .ref m7, .ref m8, .ref m9, .ref m10, .ref m11])), (m5, .inl (cI, 40, .inl (fun j => nI (z j)))), (m6, .inl (cI, 210, .inl (fun j => nI (rw j)))), (m9, .inl (cB, 8000, .inl (fun j => sb_b (g j)))), (m10, .inl (cB, 480, .inl (fun j => sb_b (dg j))))] sz) [(mx, .inr (4, [.int th3, .int (nI n3), .int (nI dn3), .int (nI bn), .int (nI wn), .ref m5, .ref m6, .ref m7, .ref m8, .ref m9, .ref m10, .ref m11])), (m5, .inl (cI, 40, .inl (fun j => nI (z3 j)))), (m6, .inl (cI, 210, .inl (fun j => nI (rw3 j)))), (m9, .inl (cB, 8000, .inl (fun j => sb_b (g3 j)))), (m10, .inl (cB, 480, .inl (fun j => sb_b (dg j))))]) (va_A [(mx, .inr (4, [.int th, .int (nI n), .int (nI dn), .int (nI bn), .int (nI wn), .ref m5, .ref m6, .ref m7, .ref m8, .ref m9, .ref m10, .ref m11])), (m5, .inl (cI, 40, .inl (fun j => nI (z j)))), (m6, .inl (cI, 210, .inl (fun j => nI (rw j)))), (m9, .inl (cB, 8000, .inl (fun j => sb_b (g j)))), (m10, .inl (cB, 480, .inl (fun j => sb_b (dg j))))] sz)) 0 0 (va_A [(mx, .inr (4, [.int th, .int (nI n), .int (nI dn), .int (nI bn), .int (nI wn), .ref m5, .ref m6, .ref m7, .ref m8, .ref m9, .ref m10, .ref m11])), (m5, .inl (cI, 40, .inl (fun j => nI (z j)))), (m6, .inl (cI, 210, .inl (fun j => nI (rw j)))), (m9, .inl (cB, 8000, .inl (fun j => sb_b (g j)))), (m10, .inl (cB, 480, .inl (fun j => sb_b (dg j))))] sz) := by
  refine Met.ofW (cc := cX4_number) (maxL := 3) (ret := (some .int)) (by decide) rfl ?_
  intro p e s m args below meth c s₁ B hml hv
  obtain ⟨rfl, hsz, hP, hK, hD0⟩ := hv
  have hx := B.exec
  have hb := B.bytes
  have hr := B.returns
  have hts := atoms_spec (ws := wsX4_number) B.pre
  have hown : s.vm.findClass RX4 = some m.cls := findClass_of_methodNamed B.named
  have hlocks := B.notSynchronized
  subst hsz
  have hD := hD0.self (sz := s.heap.size)
  generalize hAe : va_A [(mx, .inr (4, [.int th, .int (nI n), .int (nI dn), .int (nI bn), .int (nI wn), .ref m5, .ref m6, .ref m7, .ref m8, .ref m9, .ref m10, .ref m11])), (m5, .inl (cI, 40, .inl (fun j => nI (z j)))), (m6, .inl (cI, 210, .inl (fun j => nI (rw j)))), (m9, .inl (cB, 8000, .inl (fun j => sb_b (g j)))), (m10, .inl (cB, 480, .inl (fun j => sb_b (dg j))))] s.heap.size = A at hD ⊢
  have hA : ∀ q : Nat, s.heap.size ≤ q → A q := fun q h => by rw [← hAe]; exact Or.inr h
  have hS : va_S A s.heap s.heap [] := va_S.rf
  have hinX4 : ∀ w ∈ wsX40, w ∈ wsX4_number := by decide +kernel
  have hl := lv_entry ([.ref mx, .int mi9]) (n := 3) (Nat.le_of_ble_eq_true rfl)
  rw [lg_entry_eq]
  generalize (lg_sl ([.ref mx, .int mi9]) ++ List.replicate (3 - (lg_sl ([.ref mx, .int mi9])).length) Slot.unset).toArray = ls at hl ⊢
  have hl : lv_has ls 3 [(0, .ref mx), (1, .int mi9)] := hl
  obtain ⟨hg, hn, hz, hq⟩ := id hI
  refine lv_aload_n hx hb dX4_number_0 rfl (lv_at hl 0 rfl) ?_
  refine lv_aload_n hx hb dX4_number_1 rfl (lv_at hl 0 rfl) ?_
  refine va_get (D := (dC, dI)) (ci := 4) (v := .int (nI dn)) (C := RX4) (T := TX4) (N := 12) hx hb hts hinX4 hown hK hP 0 rfl rfl 2 (by decide) (hts (.fieldLink RX4 36 "NumberContentsModel" "digitMany" "I") (by decide +kernel)) (fun _ h9 => h9) rfl dX4_number_2 ?_
  refine lv_if_ne (tgt := 12) hx hb dX4_number_5 (by decide) (fun c5 => ?_) (fun c5 => ?_)
  · refine lv_iconst (v := 0) hx hb dX4_number_12 (by decide) ?_
    refine va_put (D := (dC, dI)) (ci := 4) (v := .int 0) (ty := .int) (C := RX4) (T := TX4) (N := 12) hx hb hts hinX4 tyX4 tyX4_ok nmX4 hown hK hP hD hS 0 rfl rfl 0 (by decide) (hts (.fieldLink RX4 32 "NumberContentsModel" "thrown" "I") (by decide +kernel)) (fun _ h9 => h9) rfl (by decide +kernel) rfl rfl (Nat.le_of_ble_eq_true rfl) dX4_number_13 (fun H locs hP hD hS => ?_)
    have hP : va_P (dC, dI) vwCl [(mx, .inr (4, [.int 0, .int (nI n), .int (nI dn), .int (nI bn), .int (nI wn), .ref m5, .ref m6, .ref m7, .ref m8, .ref m9, .ref m10, .ref m11])), (m5, .inl (cI, 40, .inl (fun j => nI (z j)))), (m6, .inl (cI, 210, .inl (fun j => nI (rw j)))), (m9, .inl (cB, 8000, .inl (fun j => sb_b (g j)))), (m10, .inl (cB, 480, .inl (fun j => sb_b (dg j))))] H := hP
    have hD : va_D A [(mx, .inr (4, [.int 0, .int (nI n), .int (nI dn), .int (nI bn), .int (nI wn), .ref m5, .ref m6, .ref m7, .ref m8, .ref m9, .ref m10, .ref m11])), (m5, .inl (cI, 40, .inl (fun j => nI (z j)))), (m6, .inl (cI, 210, .inl (fun j => nI (rw j)))), (m9, .inl (cB, 8000, .inl (fun j => sb_b (g j)))), (m10, .inl (cB, 480, .inl (fun j => sb_b (dg j))))] := hD
    refine lv_aload_n hx hb dX4_number_16 rfl (lv_at hl 0 rfl) ?_
    refine va_get (D := (dC, dI)) (ci := 4) (v := .int 0) (C := RX4) (T := TX4) (N := 12) hx hb hts hinX4 hown hK hP 0 rfl rfl 0 (by decide) (hts (.fieldLink RX4 32 "NumberContentsModel" "thrown" "I") (by decide +kernel)) (fun _ h9 => h9) rfl dX4_number_17 ?_
    refine lv_if_le (tgt := 25) hx hb dX4_number_20 (by decide) (fun c20 => ?_) (fun c20 => ?_)
    · have hdn1 : 1 ≤ dn := Nat.pos_of_ne_zero (fun y => c5 (by rw [y]; rfl))
      refine lv_iconst (v := (nI 0)) hx hb dX4_number_25 (by decide) ?_
      refine lv_istore_n (lv' := [(2, .int (nI 0)), (0, .ref mx), (1, .int mi9)]) hx hb dX4_number_26 rfl hl (by decide) rfl (fun ls hl => ?_)
      have LP27 : ∀ (n9 : Nat) (i : Nat) (w2 : Nat → Nat) (hm : (210 - i) < n9) (hi : i ≤ 210) (hw2 : ∀ j, w2 j < 256) (hz2 : ∀ j, j < i → w2 j = 0) (H : Heap) (locs : List Loc) (ls : Array Slot) (hP : va_P (dC, dI) vwCl [(mx, .inr (4, [.int 0, .int (nI n), .int (nI dn), .int (nI bn), .int (nI wn), .ref m5, .ref m6, .ref m7, .ref m8, .ref m9, .ref m10, .ref m11])), (m5, .inl (cI, 40, .inl (fun j => nI (z j)))), (m6, .inl (cI, 210, .inl (fun j => nI (w2 j)))), (m9, .inl (cB, 8000, .inl (fun j => sb_b (g j)))), (m10, .inl (cB, 480, .inl (fun j => sb_b (dg j))))] H) (hD : va_D A [(mx, .inr (4, [.int 0, .int (nI n), .int (nI dn), .int (nI bn), .int (nI wn), .ref m5, .ref m6, .ref m7, .ref m8, .ref m9, .ref m10, .ref m11])), (m5, .inl (cI, 40, .inl (fun j => nI (z j)))), (m6, .inl (cI, 210, .inl (fun j => nI (w2 j)))), (m9, .inl (cB, 8000, .inl (fun j => sb_b (g j)))), (m10, .inl (cB, 480, .inl (fun j => sb_b (dg j))))]) (hS : va_S A s.heap H locs) (hl : lv_has ls 3 [(0, .ref mx), (1, .int mi9), (2, .int (nI i))]), W p l e (headSpec wsX4_number ({ frames := 3, cells := 0, slots := 0, locals := 66 } : Room)).room s m ([.ref mx, .int mi9]).toArray below meth c H locs 0 0 (MQ below (va_Qi (fun (r : Int32) (uS : Int32 × Nat × (Nat → Nat) × (Nat → Nat) × (Nat → Nat) × Nat) => match uS with | (th3, n3, g3, z3, rw3, dn3) => (∀ j, rw3 j < 256) ∧ dn3 = 0 ∧ ((th3 = 1 ∧ n3 = n ∧ g3 = g ∧ z3 = z ∧ dn = 0) ∨ (th3 = 0 ∧ n3 = n + 1 ∧ 1 ≤ dn ∧ KEPTM n g z g3 z3 (if mi9 = 0 then (dval dg dn : Int) else -(dval dg dn : Int)) r) ∨ (th3 = 2 ∧ n3 = n ∧ g3 = g ∧ z3 = z ∧ 1 ≤ dn ∧ NOKEEP n (if mi9 = 0 then (dval dg dn : Int) else -(dval dg dn : Int))))) (fun (uS : Int32 × Nat × (Nat → Nat) × (Nat → Nat) × (Nat → Nat) × Nat) (tS : State) => match uS with | (th3, n3, g3, z3, rw3, dn3) => va_P (dC, dI) vwCl [(mx, .inr (4, [.int th3, .int (nI n3), .int (nI dn3), .int (nI bn), .int (nI wn), .ref m5, .ref m6, .ref m7, .ref m8, .ref m9, .ref m10, .ref m11])), (m5, .inl (cI, 40, .inl (fun j => nI (z3 j)))), (m6, .inl (cI, 210, .inl (fun j => nI (rw3 j)))), (m9, .inl (cB, 8000, .inl (fun j => sb_b (g3 j)))), (m10, .inl (cB, 480, .inl (fun j => sb_b (dg j))))] tS.heap ∧ va_K (dC, dI) vwCl [(cI, .int), (cB, .byte)] tS ∧ va_D A [(mx, .inr (4, [.int th3, .int (nI n3), .int (nI dn3), .int (nI bn), .int (nI wn), .ref m5, .ref m6, .ref m7, .ref m8, .ref m9, .ref m10, .ref m11])), (m5, .inl (cI, 40, .inl (fun j => nI (z3 j)))), (m6, .inl (cI, 210, .inl (fun j => nI (rw3 j)))), (m9, .inl (cB, 8000, .inl (fun j => sb_b (g3 j)))), (m10, .inl (cB, 480, .inl (fun j => sb_b (dg j))))]) A) ([.ref mx, .int mi9]).toArray s 0 0 A) (F0 m 27 ls []) := by
        intro n9
        induction n9 with
        | zero => intro i w2 hm; exact absurd hm (Nat.not_lt_zero _)
        | succ n9 ih =>
          intro i w2 hm hi hw2 hz2 H locs ls hP hD hS hl
          have ih27 := ih
          refine lv_iload_n hx hb dX4_number_27 rfl (lv_at hl 2 rfl) ?_
          refine lv_sipush (v := (nI 210)) hx hb dX4_number_28 (by decide) ?_
          refine lv_icmp_ge (tgt := 47) hx hb dX4_number_31 (by decide) (fun c31 => ?_) (fun c31 => ?_)
          · obtain rfl : i = 210 := Nat.le_antisymm hi ((nI_leI (by omega) (by omega)).mp c31)
            refine lv_iconst (v := (nI 0)) hx hb dX4_number_47 (by decide) ?_
            refine lv_istore_n (lv' := [(2, .int (nI 0)), (0, .ref mx), (1, .int mi9)]) hx hb dX4_number_48 rfl hl (by decide) rfl (fun ls hl => ?_)
            have LP49 : ∀ (n9 : Nat) (i2 : Nat) (w4 : Nat → Nat) (hm : (dn - i2) < n9) (hi2 : i2 ≤ dn) (hw4 : ∀ j, w4 j < 256) (hv4 : sv w4 210 = (dval dg i2 : Int)) (H : Heap) (locs : List Loc) (ls : Array Slot) (hP : va_P (dC, dI) vwCl [(mx, .inr (4, [.int 0, .int (nI n), .int (nI dn), .int (nI bn), .int (nI wn), .ref m5, .ref m6, .ref m7, .ref m8, .ref m9, .ref m10, .ref m11])), (m5, .inl (cI, 40, .inl (fun j => nI (z j)))), (m6, .inl (cI, 210, .inl (fun j => nI (w4 j)))), (m9, .inl (cB, 8000, .inl (fun j => sb_b (g j)))), (m10, .inl (cB, 480, .inl (fun j => sb_b (dg j))))] H) (hD : va_D A [(mx, .inr (4, [.int 0, .int (nI n), .int (nI dn), .int (nI bn), .int (nI wn), .ref m5, .ref m6, .ref m7, .ref m8, .ref m9, .ref m10, .ref m11])), (m5, .inl (cI, 40, .inl (fun j => nI (z j)))), (m6, .inl (cI, 210, .inl (fun j => nI (w4 j)))), (m9, .inl (cB, 8000, .inl (fun j => sb_b (g j)))), (m10, .inl (cB, 480, .inl (fun j => sb_b (dg j))))]) (hS : va_S A s.heap H locs) (hl : lv_has ls 3 [(0, .ref mx), (1, .int mi9), (2, .int (nI i2))]), W p l e (headSpec wsX4_number ({ frames := 3, cells := 0, slots := 0, locals := 66 } : Room)).room s m ([.ref mx, .int mi9]).toArray below meth c H locs 0 0 (MQ below (va_Qi (fun (r : Int32) (uS : Int32 × Nat × (Nat → Nat) × (Nat → Nat) × (Nat → Nat) × Nat) => match uS with | (th3, n3, g3, z3, rw3, dn3) => (∀ j, rw3 j < 256) ∧ dn3 = 0 ∧ ((th3 = 1 ∧ n3 = n ∧ g3 = g ∧ z3 = z ∧ dn = 0) ∨ (th3 = 0 ∧ n3 = n + 1 ∧ 1 ≤ dn ∧ KEPTM n g z g3 z3 (if mi9 = 0 then (dval dg dn : Int) else -(dval dg dn : Int)) r) ∨ (th3 = 2 ∧ n3 = n ∧ g3 = g ∧ z3 = z ∧ 1 ≤ dn ∧ NOKEEP n (if mi9 = 0 then (dval dg dn : Int) else -(dval dg dn : Int))))) (fun (uS : Int32 × Nat × (Nat → Nat) × (Nat → Nat) × (Nat → Nat) × Nat) (tS : State) => match uS with | (th3, n3, g3, z3, rw3, dn3) => va_P (dC, dI) vwCl [(mx, .inr (4, [.int th3, .int (nI n3), .int (nI dn3), .int (nI bn), .int (nI wn), .ref m5, .ref m6, .ref m7, .ref m8, .ref m9, .ref m10, .ref m11])), (m5, .inl (cI, 40, .inl (fun j => nI (z3 j)))), (m6, .inl (cI, 210, .inl (fun j => nI (rw3 j)))), (m9, .inl (cB, 8000, .inl (fun j => sb_b (g3 j)))), (m10, .inl (cB, 480, .inl (fun j => sb_b (dg j))))] tS.heap ∧ va_K (dC, dI) vwCl [(cI, .int), (cB, .byte)] tS ∧ va_D A [(mx, .inr (4, [.int th3, .int (nI n3), .int (nI dn3), .int (nI bn), .int (nI wn), .ref m5, .ref m6, .ref m7, .ref m8, .ref m9, .ref m10, .ref m11])), (m5, .inl (cI, 40, .inl (fun j => nI (z3 j)))), (m6, .inl (cI, 210, .inl (fun j => nI (rw3 j)))), (m9, .inl (cB, 8000, .inl (fun j => sb_b (g3 j)))), (m10, .inl (cB, 480, .inl (fun j => sb_b (dg j))))]) A) ([.ref mx, .int mi9]).toArray s 0 0 A) (F0 m 49 ls []) := by
              intro n9
              induction n9 with
              | zero => intro i2 w4 hm; exact absurd hm (Nat.not_lt_zero _)
              | succ n9 ih =>
                intro i2 w4 hm hi2 hw4 hv4 H locs ls hP hD hS hl
                have ih49 := ih
                refine lv_iload_n hx hb dX4_number_49 rfl (lv_at hl 2 rfl) ?_
                refine lv_aload_n hx hb dX4_number_50 rfl (lv_at hl 0 rfl) ?_
                refine va_get (D := (dC, dI)) (ci := 4) (v := .int (nI dn)) (C := RX4) (T := TX4) (N := 12) hx hb hts hinX4 hown hK hP 0 rfl rfl 2 (by decide) (hts (.fieldLink RX4 36 "NumberContentsModel" "digitMany" "I") (by decide +kernel)) (fun _ h9 => h9) rfl dX4_number_51 ?_
                refine lv_icmp_ge (tgt := 75) hx hb dX4_number_54 (by decide) (fun c54 => ?_) (fun c54 => ?_)
                · obtain rfl : dn = i2 := Nat.le_antisymm ((nI_leI (by omega) (by omega)).mp c54) hi2
                  refine lv_aload_n hx hb dX4_number_75 rfl (lv_at hl 0 rfl) ?_
                  refine lv_iconst (v := (nI 0)) hx hb dX4_number_76 (by decide) ?_
                  refine va_put (D := (dC, dI)) (ci := 4) (v := .int (nI 0)) (ty := .int) (C := RX4) (T := TX4) (N := 12) hx hb hts hinX4 tyX4 tyX4_ok nmX4 hown hK hP hD hS 0 rfl rfl 2 (by decide) (hts (.fieldLink RX4 36 "NumberContentsModel" "digitMany" "I") (by decide +kernel)) (fun _ h9 => h9) rfl (by decide +kernel) rfl rfl (Nat.le_of_ble_eq_true rfl) dX4_number_77 (fun H locs hP hD hS => ?_)
                  have hP : va_P (dC, dI) vwCl [(mx, .inr (4, [.int 0, .int (nI n), .int (nI 0), .int (nI bn), .int (nI wn), .ref m5, .ref m6, .ref m7, .ref m8, .ref m9, .ref m10, .ref m11])), (m5, .inl (cI, 40, .inl (fun j => nI (z j)))), (m6, .inl (cI, 210, .inl (fun j => nI (w4 j)))), (m9, .inl (cB, 8000, .inl (fun j => sb_b (g j)))), (m10, .inl (cB, 480, .inl (fun j => sb_b (dg j))))] H := hP
                  have hD : va_D A [(mx, .inr (4, [.int 0, .int (nI n), .int (nI 0), .int (nI bn), .int (nI wn), .ref m5, .ref m6, .ref m7, .ref m8, .ref m9, .ref m10, .ref m11])), (m5, .inl (cI, 40, .inl (fun j => nI (z j)))), (m6, .inl (cI, 210, .inl (fun j => nI (w4 j)))), (m9, .inl (cB, 8000, .inl (fun j => sb_b (g j)))), (m10, .inl (cB, 480, .inl (fun j => sb_b (dg j))))] := hD
                  refine lv_iload_n hx hb dX4_number_80 rfl (lv_at hl 1 rfl) ?_
                  refine lv_if_eq (tgt := 90) hx hb dX4_number_81 (by decide) (fun c81 => ?_) (fun c81 => ?_)
                  · obtain ⟨hwK, hZK⟩ : (∀ j, w4 j < 256) ∧ sv w4 210 = (if mi9 = 0 then (dval dg dn : Int) else -(dval dg dn : Int)) := (by first | exact ⟨h87.1, (ngm_ex (dval_fit hdg hdn) hv4 h87).trans (if_neg c81).symm⟩ | exact ⟨hw4, hv4.trans (if_pos c81).symm⟩)
                    refine lv_aload_n hx hb dX4_number_90 rfl (lv_at hl 0 rfl) ?_
                    refine lv_iconst (v := 2) hx hb dX4_number_91 (by decide) ?_
                    have hPc := hP.sub (ws' := [(mx, .inr (4, [.int 0, .int (nI n), .int (nI 0), .int (nI bn), .int (nI wn), .ref m5, .ref m6, .ref m7, .ref m8, .ref m9, .ref m10, .ref m11])), (m5, .inl (cI, 40, .inl (fun j => nI (z j)))), (m6, .inl (cI, 210, .inl (fun j => nI (w4 j)))), (m9, .inl (cB, 8000, .inl (fun j => sb_b (g j))))]) [0, 1, 2, 3] rfl
                    have hKc := hK.sub (tys' := [(cI, .int), (cB, .byte)]) [0, 1] rfl
                    have hDc := hD.sub (ws' := [(mx, .inr (4, [.int 0, .int (nI n), .int (nI 0), .int (nI bn), .int (nI wn), .ref m5, .ref m6, .ref m7, .ref m8, .ref m9, .ref m10, .ref m11])), (m5, .inl (cI, 40, .inl (fun j => nI (z j)))), (m6, .inl (cI, 210, .inl (fun j => nI (w4 j)))), (m9, .inl (cB, 8000, .inl (fun j => sb_b (g j))))]) [0, 1, 2, 3] (by decide) rfl
                    have hFc := va_free (wc := [(mx, .inr (4, [.int 0, .int (nI n), .int (nI 0), .int (nI bn), .int (nI wn), .ref m5, .ref m6, .ref m7, .ref m8, .ref m9, .ref m10, .ref m11])), (m5, .inl (cI, 40, .inl (fun j => nI (z j)))), (m6, .inl (cI, 210, .inl (fun j => nI (w4 j)))), (m9, .inl (cB, 8000, .inl (fun j => sb_b (g j))))]) hD hS hA [0, 1, 2, 3] rfl
                    refine va_calli (va_runV (As := [.int 2]) (rest := []) ⟨hx, hb, hml, hown, hts⟩ (c_X4_keep l dC dI cI cB mx m5 m6 m7 m8 m9 m10 m11 n 0 bn wn 0 g z w4 2 H.size hI hwK (Or.inl rfl)) (cwV 1 hts gX4_number_X4_keep rfl rfl rfl (by decide +kernel) ⟨Nat.le_of_ble_eq_true rfl, Nat.le_of_ble_eq_true rfl⟩) ⟨fun a U g mk q => by obtain ⟨q0, q1, qP, qK, qD⟩ := q; exact ⟨q0, q1, qP, va_K.moved (u := U) (U := U.calling g mk a) (Vm.Alike.refl U.vm) qK, qD⟩, va_recv hKc hPc (ci := 4) (q0 := 0) rfl rfl, fun U hU hW => ⟨rfl, by rw [hU], by rw [hU]; exact hPc, va_K.moved hW.alike hKc, hDc.weaken (fun _ _ _ _ => trivial)⟩⟩ rfl rfl hl.1 rfl (lv_room (Nat.le_of_ble_eq_true rfl)) dX4_number_92 ⟨Nat.le_of_ble_eq_true rfl, Nat.le_of_ble_eq_true rfl⟩) hS (fun q _ h => hFc q h) hFc (fun r92 uS tS H1 locs htS hvm h92 hB hzS hkS hS => ?_)
                    obtain ⟨th3_92, n3_92, g3_92, z3_92⟩ := uS
                    obtain ⟨hP1, hK1, hD1⟩ := hB
                    rw [htS] at hP1
                    have hK1 := va_K.moved hvm.symm hK1
                    try dsimp only at h92
                    obtain ⟨hP, hD⟩ := va_join (wr := [(m10, .inl (cB, 480, .inl (fun j => sb_b (dg j))))]) (w1 := [(mx, .inr (4, [.int th3_92, .int (nI n3_92), .int (nI 0), .int (nI bn), .int (nI wn), .ref m5, .ref m6, .ref m7, .ref m8, .ref m9, .ref m10, .ref m11])), (m5, .inl (cI, 40, .inl (fun j => nI (z3_92 j)))), (m6, .inl (cI, 210, .inl (fun j => nI (w4 j)))), (m9, .inl (cB, 8000, .inl (fun j => sb_b (g3_92 j))))]) hP hD [0, 1, 2, 3] [4] rfl rfl (by decide) (by decide) hkS hFc hP1 hD1
                    generalize H1 = H at hP hS ⊢
                    have hP : va_P (dC, dI) vwCl [(m10, .inl (cB, 480, .inl (fun j => sb_b (dg j)))), (mx, .inr (4, [.int th3_92, .int (nI n3_92), .int (nI 0), .int (nI bn), .int (nI wn), .ref m5, .ref m6, .ref m7, .ref m8, .ref m9, .ref m10, .ref m11])), (m5, .inl (cI, 40, .inl (fun j => nI (z3_92 j)))), (m6, .inl (cI, 210, .inl (fun j => nI (w4 j)))), (m9, .inl (cB, 8000, .inl (fun j => sb_b (g3_92 j))))] H := hP
                    have hD : va_D A [(m10, .inl (cB, 480, .inl (fun j => sb_b (dg j)))), (mx, .inr (4, [.int th3_92, .int (nI n3_92), .int (nI 0), .int (nI bn), .int (nI wn), .ref m5, .ref m6, .ref m7, .ref m8, .ref m9, .ref m10, .ref m11])), (m5, .inl (cI, 40, .inl (fun j => nI (z3_92 j)))), (m6, .inl (cI, 210, .inl (fun j => nI (w4 j)))), (m9, .inl (cB, 8000, .inl (fun j => sb_b (g3_92 j))))] := hD
                    rw [hZK] at h92
                    have hP9 := hP.sub (ws' := [(mx, .inr (4, [.int th3_92, .int (nI n3_92), .int (nI 0), .int (nI bn), .int (nI wn), .ref m5, .ref m6, .ref m7, .ref m8, .ref m9, .ref m10, .ref m11])), (m5, .inl (cI, 40, .inl (fun j => nI (z3_92 j)))), (m6, .inl (cI, 210, .inl (fun j => nI (w4 j)))), (m9, .inl (cB, 8000, .inl (fun j => sb_b (g3_92 j)))), (m10, .inl (cB, 480, .inl (fun j => sb_b (dg j))))]) [1, 2, 3, 4, 0] rfl
                    have hD9 := hD.sub (ws' := [(mx, .inr (4, [.int th3_92, .int (nI n3_92), .int (nI 0), .int (nI bn), .int (nI wn), .ref m5, .ref m6, .ref m7, .ref m8, .ref m9, .ref m10, .ref m11])), (m5, .inl (cI, 40, .inl (fun j => nI (z3_92 j)))), (m6, .inl (cI, 210, .inl (fun j => nI (w4 j)))), (m9, .inl (cB, 8000, .inl (fun j => sb_b (g3_92 j)))), (m10, .inl (cB, 480, .inl (fun j => sb_b (dg j))))]) [1, 2, 3, 4, 0] (by decide) rfl
                    have hK9 := hK.sub (tys' := [(cI, .int), (cB, .byte)]) [0, 1] rfl
                    exact W.iret (v := r92) hx hb hr (fun tS htS hW => ⟨⟨r92, (th3_92, n3_92, g3_92, z3_92, w4, 0), rfl, ⟨hwK, rfl, Or.inr (h92.elim (fun y => Or.inl ⟨y.1, y.2.1, hdn1, y.2.2⟩) (fun y => Or.inr ⟨y.1, y.2.1, y.2.2.1, y.2.2.2.1, hdn1, y.2.2.2.2⟩))⟩, by rw [htS]; exact hP9, va_K.moved hW.alike hK9, hD9⟩, hS.F htS⟩) hS.2.2 dX4_number_95
                  · refine lv_aload_n hx hb dX4_number_84 rfl (lv_at hl 0 rfl) ?_
                    refine lv_iconst (v := (-1)) hx hb dX4_number_85 (by decide) ?_
                    refine lv_iconst (v := 0) hx hb dX4_number_86 (by decide) ?_
                    have hPc := hP.sub (ws' := [(mx, .inr (4, [.int 0, .int (nI n), .int (nI 0), .int (nI bn), .int (nI wn), .ref m5, .ref m6, .ref m7, .ref m8, .ref m9, .ref m10, .ref m11])), (m6, .inl (cI, 210, .inl (fun j => nI (w4 j))))]) [0, 2] rfl
                    have hKc := hK.sub (tys' := [(cI, .int)]) [0] rfl
                    have hDc := hD.sub (ws' := [(mx, .inr (4, [.int 0, .int (nI n), .int (nI 0), .int (nI bn), .int (nI wn), .ref m5, .ref m6, .ref m7, .ref m8, .ref m9, .ref m10, .ref m11])), (m6, .inl (cI, 210, .inl (fun j => nI (w4 j))))]) [0, 2] (by decide) rfl
                    have hFc := va_free (wc := [(mx, .inr (4, [.int 0, .int (nI n), .int (nI 0), .int (nI bn), .int (nI wn), .ref m5, .ref m6, .ref m7, .ref m8, .ref m9, .ref m10, .ref m11])), (m6, .inl (cI, 210, .inl (fun j => nI (w4 j))))]) hD hS hA [0, 2] rfl
                    refine va_callv (va_runV (As := [.int (-1), .int 0]) (rest := []) ⟨hx, hb, hml, hown, hts⟩ (c_X4_times l dC dI cI mx m5 m6 m7 m8 m9 m10 m11 n 0 bn wn 0 w4 (-1) 0 H.size hw4) (cwV 2 hts gX4_number_X4_times rfl rfl rfl (by decide +kernel) ⟨Nat.le_of_ble_eq_true rfl, Nat.le_of_ble_eq_true rfl⟩) ⟨fun a U g mk q => by obtain ⟨q0, q1, qP, qK, qD⟩ := q; exact ⟨q0, q1, qP, va_K.moved (u := U) (U := U.calling g mk a) (Vm.Alike.refl U.vm) qK, qD⟩, va_recv hKc hPc (ci := 4) (q0 := 0) rfl rfl, fun U hU hW => ⟨rfl, by rw [hU], by rw [hU]; exact hPc, va_K.moved hW.alike hKc, hDc.weaken (fun _ _ _ _ => trivial)⟩⟩ rfl rfl hl.1 rfl (lv_room (Nat.le_of_ble_eq_true rfl)) dX4_number_87 ⟨Nat.le_of_ble_eq_true rfl, Nat.le_of_ble_eq_true rfl⟩) hS (fun q _ h => hFc q h) hFc (fun uS tS H1 locs htS hvm h87 hB hzS hkS hS => ?_)
                    obtain ⟨g3_87, rfl⟩ : ∃ z, z = uS := ⟨_, rfl⟩
                    obtain ⟨hP1, hK1, hD1⟩ := hB
                    rw [htS] at hP1
                    have hK1 := va_K.moved hvm.symm hK1
                    try dsimp only at h87
                    obtain ⟨hP, hD⟩ := va_join (wr := [(m5, .inl (cI, 40, .inl (fun j => nI (z j)))), (m9, .inl (cB, 8000, .inl (fun j => sb_b (g j)))), (m10, .inl (cB, 480, .inl (fun j => sb_b (dg j))))]) (w1 := [(mx, .inr (4, [.int 0, .int (nI n), .int (nI 0), .int (nI bn), .int (nI wn), .ref m5, .ref m6, .ref m7, .ref m8, .ref m9, .ref m10, .ref m11])), (m6, .inl (cI, 210, .inl (fun j => nI (g3_87 j))))]) hP hD [0, 2] [1, 3, 4] rfl rfl (by decide) (by decide) hkS hFc hP1 hD1
                    generalize H1 = H at hP hS ⊢
                    have hP : va_P (dC, dI) vwCl [(m5, .inl (cI, 40, .inl (fun j => nI (z j)))), (m9, .inl (cB, 8000, .inl (fun j => sb_b (g j)))), (m10, .inl (cB, 480, .inl (fun j => sb_b (dg j)))), (mx, .inr (4, [.int 0, .int (nI n), .int (nI 0), .int (nI bn), .int (nI wn), .ref m5, .ref m6, .ref m7, .ref m8, .ref m9, .ref m10, .ref m11])), (m6, .inl (cI, 210, .inl (fun j => nI (g3_87 j))))] H := hP
                    have hD : va_D A [(m5, .inl (cI, 40, .inl (fun j => nI (z j)))), (m9, .inl (cB, 8000, .inl (fun j => sb_b (g j)))), (m10, .inl (cB, 480, .inl (fun j => sb_b (dg j)))), (mx, .inr (4, [.int 0, .int (nI n), .int (nI 0), .int (nI bn), .int (nI wn), .ref m5, .ref m6, .ref m7, .ref m8, .ref m9, .ref m10, .ref m11])), (m6, .inl (cI, 210, .inl (fun j => nI (g3_87 j))))] := hD
                    obtain ⟨hwK, hZK⟩ : (∀ j, g3_87 j < 256) ∧ sv g3_87 210 = (if mi9 = 0 then (dval dg dn : Int) else -(dval dg dn : Int)) := (by first | exact ⟨h87.1, (ngm_ex (dval_fit hdg hdn) hv4 h87).trans (if_neg c81).symm⟩ | exact ⟨hw4, hv4.trans (if_pos c81).symm⟩)
                    refine lv_aload_n hx hb dX4_number_90 rfl (lv_at hl 0 rfl) ?_
                    refine lv_iconst (v := 2) hx hb dX4_number_91 (by decide) ?_
                    have hPc := hP.sub (ws' := [(mx, .inr (4, [.int 0, .int (nI n), .int (nI 0), .int (nI bn), .int (nI wn), .ref m5, .ref m6, .ref m7, .ref m8, .ref m9, .ref m10, .ref m11])), (m5, .inl (cI, 40, .inl (fun j => nI (z j)))), (m6, .inl (cI, 210, .inl (fun j => nI (g3_87 j)))), (m9, .inl (cB, 8000, .inl (fun j => sb_b (g j))))]) [3, 0, 4, 1] rfl
                    have hKc := hK.sub (tys' := [(cI, .int), (cB, .byte)]) [0, 1] rfl
                    have hDc := hD.sub (ws' := [(mx, .inr (4, [.int 0, .int (nI n), .int (nI 0), .int (nI bn), .int (nI wn), .ref m5, .ref m6, .ref m7, .ref m8, .ref m9, .ref m10, .ref m11])), (m5, .inl (cI, 40, .inl (fun j => nI (z j)))), (m6, .inl (cI, 210, .inl (fun j => nI (g3_87 j)))), (m9, .inl (cB, 8000, .inl (fun j => sb_b (g j))))]) [3, 0, 4, 1] (by decide) rfl
                    have hFc := va_free (wc := [(mx, .inr (4, [.int 0, .int (nI n), .int (nI 0), .int (nI bn), .int (nI wn), .ref m5, .ref m6, .ref m7, .ref m8, .ref m9, .ref m10, .ref m11])), (m5, .inl (cI, 40, .inl (fun j => nI (z j)))), (m6, .inl (cI, 210, .inl (fun j => nI (g3_87 j)))), (m9, .inl (cB, 8000, .inl (fun j => sb_b (g j))))]) hD hS hA [3, 0, 4, 1] rfl
                    refine va_calli (va_runV (As := [.int 2]) (rest := []) ⟨hx, hb, hml, hown, hts⟩ (c_X4_keep l dC dI cI cB mx m5 m6 m7 m8 m9 m10 m11 n 0 bn wn 0 g z g3_87 2 H.size hI hwK (Or.inl rfl)) (cwV 1 hts gX4_number_X4_keep rfl rfl rfl (by decide +kernel) ⟨Nat.le_of_ble_eq_true rfl, Nat.le_of_ble_eq_true rfl⟩) ⟨fun a U g mk q => by obtain ⟨q0, q1, qP, qK, qD⟩ := q; exact ⟨q0, q1, qP, va_K.moved (u := U) (U := U.calling g mk a) (Vm.Alike.refl U.vm) qK, qD⟩, va_recv hKc hPc (ci := 4) (q0 := 0) rfl rfl, fun U hU hW => ⟨rfl, by rw [hU], by rw [hU]; exact hPc, va_K.moved hW.alike hKc, hDc.weaken (fun _ _ _ _ => trivial)⟩⟩ rfl rfl hl.1 rfl (lv_room (Nat.le_of_ble_eq_true rfl)) dX4_number_92 ⟨Nat.le_of_ble_eq_true rfl, Nat.le_of_ble_eq_true rfl⟩) hS (fun q _ h => hFc q h) hFc (fun r92 uS tS H1 locs htS hvm h92 hB hzS hkS hS => ?_)
                    obtain ⟨th3_92, n3_92, g3_92, z3_92⟩ := uS
                    obtain ⟨hP1, hK1, hD1⟩ := hB
                    rw [htS] at hP1
                    have hK1 := va_K.moved hvm.symm hK1
                    try dsimp only at h92
                    obtain ⟨hP, hD⟩ := va_join (wr := [(m10, .inl (cB, 480, .inl (fun j => sb_b (dg j))))]) (w1 := [(mx, .inr (4, [.int th3_92, .int (nI n3_92), .int (nI 0), .int (nI bn), .int (nI wn), .ref m5, .ref m6, .ref m7, .ref m8, .ref m9, .ref m10, .ref m11])), (m5, .inl (cI, 40, .inl (fun j => nI (z3_92 j)))), (m6, .inl (cI, 210, .inl (fun j => nI (g3_87 j)))), (m9, .inl (cB, 8000, .inl (fun j => sb_b (g3_92 j))))]) hP hD [3, 0, 4, 1] [2] rfl rfl (by decide) (by decide) hkS hFc hP1 hD1
                    generalize H1 = H at hP hS ⊢
                    have hP : va_P (dC, dI) vwCl [(m10, .inl (cB, 480, .inl (fun j => sb_b (dg j)))), (mx, .inr (4, [.int th3_92, .int (nI n3_92), .int (nI 0), .int (nI bn), .int (nI wn), .ref m5, .ref m6, .ref m7, .ref m8, .ref m9, .ref m10, .ref m11])), (m5, .inl (cI, 40, .inl (fun j => nI (z3_92 j)))), (m6, .inl (cI, 210, .inl (fun j => nI (g3_87 j)))), (m9, .inl (cB, 8000, .inl (fun j => sb_b (g3_92 j))))] H := hP
                    have hD : va_D A [(m10, .inl (cB, 480, .inl (fun j => sb_b (dg j)))), (mx, .inr (4, [.int th3_92, .int (nI n3_92), .int (nI 0), .int (nI bn), .int (nI wn), .ref m5, .ref m6, .ref m7, .ref m8, .ref m9, .ref m10, .ref m11])), (m5, .inl (cI, 40, .inl (fun j => nI (z3_92 j)))), (m6, .inl (cI, 210, .inl (fun j => nI (g3_87 j)))), (m9, .inl (cB, 8000, .inl (fun j => sb_b (g3_92 j))))] := hD
                    rw [hZK] at h92
                    have hP9 := hP.sub (ws' := [(mx, .inr (4, [.int th3_92, .int (nI n3_92), .int (nI 0), .int (nI bn), .int (nI wn), .ref m5, .ref m6, .ref m7, .ref m8, .ref m9, .ref m10, .ref m11])), (m5, .inl (cI, 40, .inl (fun j => nI (z3_92 j)))), (m6, .inl (cI, 210, .inl (fun j => nI (g3_87 j)))), (m9, .inl (cB, 8000, .inl (fun j => sb_b (g3_92 j)))), (m10, .inl (cB, 480, .inl (fun j => sb_b (dg j))))]) [1, 2, 3, 4, 0] rfl
                    have hD9 := hD.sub (ws' := [(mx, .inr (4, [.int th3_92, .int (nI n3_92), .int (nI 0), .int (nI bn), .int (nI wn), .ref m5, .ref m6, .ref m7, .ref m8, .ref m9, .ref m10, .ref m11])), (m5, .inl (cI, 40, .inl (fun j => nI (z3_92 j)))), (m6, .inl (cI, 210, .inl (fun j => nI (g3_87 j)))), (m9, .inl (cB, 8000, .inl (fun j => sb_b (g3_92 j)))), (m10, .inl (cB, 480, .inl (fun j => sb_b (dg j))))]) [1, 2, 3, 4, 0] (by decide) rfl
                    have hK9 := hK.sub (tys' := [(cI, .int), (cB, .byte)]) [0, 1] rfl
                    exact W.iret (v := r92) hx hb hr (fun tS htS hW => ⟨⟨r92, (th3_92, n3_92, g3_92, z3_92, g3_87, 0), rfl, ⟨hwK, rfl, Or.inr (h92.elim (fun y => Or.inl ⟨y.1, y.2.1, hdn1, y.2.2⟩) (fun y => Or.inr ⟨y.1, y.2.1, y.2.2.1, y.2.2.2.1, hdn1, y.2.2.2.2⟩))⟩, by rw [htS]; exact hP9, va_K.moved hW.alike hK9, hD9⟩, hS.F htS⟩) hS.2.2 dX4_number_95
                · have hlt : i2 < dn := Nat.lt_of_not_le (fun h => c54 (nI_le h (by omega)))
                  refine lv_aload_n hx hb dX4_number_57 rfl (lv_at hl 0 rfl) ?_
                  refine lv_bipush (v := 10) hx hb dX4_number_58 (by decide) ?_
                  refine lv_aload_n hx hb dX4_number_60 rfl (lv_at hl 0 rfl) ?_
                  refine va_get (D := (dC, dI)) (ci := 4) (v := .ref m10) (C := RX4) (T := TX4) (N := 12) hx hb hts hinX4 hown hK hP 0 rfl rfl 10 (by decide) (hts (.fieldLink RX4 26 "NumberContentsModel" "digits" "[B") (by decide +kernel)) (fun _ h9 => h9) rfl dX4_number_61 ?_
                  refine lv_iload_n hx hb dX4_number_64 rfl (lv_at hl 2 rfl) ?_
                  refine va_bald hx hb hK hP 4 1 rfl rfl (vp_in_nI (by omega) (by omega)) dX4_number_65 ?_
                  refine lv_topi (fun x65 e65 => ?_)
                  obtain rfl : x65 = nI (dg i2) := e65.trans ((atsb (by omega)).trans (sb_small _ (by have := hdg i2; omega)))
                  have hPc := hP.sub (ws' := [(mx, .inr (4, [.int 0, .int (nI n), .int (nI dn), .int (nI bn), .int (nI wn), .ref m5, .ref m6, .ref m7, .ref m8, .ref m9, .ref m10, .ref m11])), (m6, .inl (cI, 210, .inl (fun j => nI (w4 j))))]) [0, 2] rfl
                  have hKc := hK.sub (tys' := [(cI, .int)]) [0] rfl
                  have hDc := hD.sub (ws' := [(mx, .inr (4, [.int 0, .int (nI n), .int (nI dn), .int (nI bn), .int (nI wn), .ref m5, .ref m6, .ref m7, .ref m8, .ref m9, .ref m10, .ref m11])), (m6, .inl (cI, 210, .inl (fun j => nI (w4 j))))]) [0, 2] (by decide) rfl
                  have hFc := va_free (wc := [(mx, .inr (4, [.int 0, .int (nI n), .int (nI dn), .int (nI bn), .int (nI wn), .ref m5, .ref m6, .ref m7, .ref m8, .ref m9, .ref m10, .ref m11])), (m6, .inl (cI, 210, .inl (fun j => nI (w4 j))))]) hD hS hA [0, 2] rfl
                  refine va_callv (va_runV (As := [.int 10, .int (nI (dg i2))]) (rest := []) ⟨hx, hb, hml, hown, hts⟩ (c_X4_times l dC dI cI mx m5 m6 m7 m8 m9 m10 m11 n dn bn wn 0 w4 10 (nI (dg i2)) H.size hw4) (cwV 2 hts gX4_number_X4_times rfl rfl rfl (by decide +kernel) ⟨Nat.le_of_ble_eq_true rfl, Nat.le_of_ble_eq_true rfl⟩) ⟨fun a U g mk q => by obtain ⟨q0, q1, qP, qK, qD⟩ := q; exact ⟨q0, q1, qP, va_K.moved (u := U) (U := U.calling g mk a) (Vm.Alike.refl U.vm) qK, qD⟩, va_recv hKc hPc (ci := 4) (q0 := 0) rfl rfl, fun U hU hW => ⟨rfl, by rw [hU], by rw [hU]; exact hPc, va_K.moved hW.alike hKc, hDc.weaken (fun _ _ _ _ => trivial)⟩⟩ rfl rfl hl.1 rfl (lv_room (Nat.le_of_ble_eq_true rfl)) dX4_number_66 ⟨Nat.le_of_ble_eq_true rfl, Nat.le_of_ble_eq_true rfl⟩) hS (fun q _ h => hFc q h) hFc (fun uS tS H1 locs htS hvm h66 hB hzS hkS hS => ?_)
                  obtain ⟨g3_66, rfl⟩ : ∃ z, z = uS := ⟨_, rfl⟩
                  obtain ⟨hP1, hK1, hD1⟩ := hB
                  rw [htS] at hP1
                  have hK1 := va_K.moved hvm.symm hK1
                  try dsimp only at h66
                  obtain ⟨hP, hD⟩ := va_join (wr := [(m5, .inl (cI, 40, .inl (fun j => nI (z j)))), (m9, .inl (cB, 8000, .inl (fun j => sb_b (g j)))), (m10, .inl (cB, 480, .inl (fun j => sb_b (dg j))))]) (w1 := [(mx, .inr (4, [.int 0, .int (nI n), .int (nI dn), .int (nI bn), .int (nI wn), .ref m5, .ref m6, .ref m7, .ref m8, .ref m9, .ref m10, .ref m11])), (m6, .inl (cI, 210, .inl (fun j => nI (g3_66 j))))]) hP hD [0, 2] [1, 3, 4] rfl rfl (by decide) (by decide) hkS hFc hP1 hD1
                  generalize H1 = H at hP hS ⊢
                  have hP : va_P (dC, dI) vwCl [(m5, .inl (cI, 40, .inl (fun j => nI (z j)))), (m9, .inl (cB, 8000, .inl (fun j => sb_b (g j)))), (m10, .inl (cB, 480, .inl (fun j => sb_b (dg j)))), (mx, .inr (4, [.int 0, .int (nI n), .int (nI dn), .int (nI bn), .int (nI wn), .ref m5, .ref m6, .ref m7, .ref m8, .ref m9, .ref m10, .ref m11])), (m6, .inl (cI, 210, .inl (fun j => nI (g3_66 j))))] H := hP
                  have hD : va_D A [(m5, .inl (cI, 40, .inl (fun j => nI (z j)))), (m9, .inl (cB, 8000, .inl (fun j => sb_b (g j)))), (m10, .inl (cB, 480, .inl (fun j => sb_b (dg j)))), (mx, .inr (4, [.int 0, .int (nI n), .int (nI dn), .int (nI bn), .int (nI wn), .ref m5, .ref m6, .ref m7, .ref m8, .ref m9, .ref m10, .ref m11])), (m6, .inl (cI, 210, .inl (fun j => nI (g3_66 j))))] := hD
                  obtain ⟨x69, e69⟩ : ∃ zz9 : Int32, zz9 = (nI i2) + 1 := ⟨_, rfl⟩
                  refine lv_iinc (v := x69) (lv' := [(2, .int x69), (0, .ref mx), (1, .int mi9)]) hx hb dX4_number_69 hl (k := 2) rfl (by rw [e69]; rfl) (by decide) rfl (fun ls hl => ?_)
                  obtain rfl : x69 = nI (i2 + 1) := e69.trans (nI_1 i2)
                  refine lv_goto (tgt := 49) hx hb dX4_number_72 (by decide) ?_
                  exact ih49 (i2 + 1) g3_66 (by omega) (by omega) h66.1 (dgm_ex hdg (by omega) hv4 h66) _ _ _ (hP.sub [3, 0, 4, 1, 2] rfl) (hD.sub [3, 0, 4, 1, 2] (by decide) rfl) hS (lv_sub hl [1, 2, 0] rfl)
            exact LP49 _ 0 w2 (Nat.lt_succ_self _) (by omega) hw2 (sv_zero (by decide) (fun j hj => hz2 j (by omega))) _ _ _ (hP.sub [0, 1, 2, 3, 4] rfl) (hD.sub [0, 1, 2, 3, 4] (by decide) rfl) hS (lv_sub hl [1, 2, 0] rfl)
          · have hlt : i < 210 := Nat.lt_of_not_le (fun h => c31 (nI_le h (by omega)))
            refine lv_aload_n hx hb dX4_number_34 rfl (lv_at hl 0 rfl) ?_
            refine va_get (D := (dC, dI)) (ci := 4) (v := .ref m6) (C := RX4) (T := TX4) (N := 12) hx hb hts hinX4 hown hK hP 0 rfl rfl 6 (by decide) (hts (.fieldLink RX4 13 "NumberContentsModel" "row" "[I") (by decide +kernel)) (fun _ h9 => h9) rfl dX4_number_35 ?_
            refine lv_iload_n hx hb dX4_number_38 rfl (lv_at hl 2 rfl) ?_
            refine lv_iconst (v := (nI 0)) hx hb dX4_number_39 (by decide) ?_
            refine va_iast hx hb hK hP hD hS 2 0 rfl rfl (vp_in_nI (by omega) (by omega)) dX4_number_40 (fun H locs hP hD hS => ?_)
            have hP : va_P (dC, dI) vwCl [(mx, .inr (4, [.int 0, .int (nI n), .int (nI dn), .int (nI bn), .int (nI wn), .ref m5, .ref m6, .ref m7, .ref m8, .ref m9, .ref m10, .ref m11])), (m5, .inl (cI, 40, .inl (fun j => nI (z j)))), (m6, .inl (cI, 210, .inl (upd (fun j => nI (w2 j)) (nI i).toNatClampNeg (nI 0)))), (m9, .inl (cB, 8000, .inl (fun j => sb_b (g j)))), (m10, .inl (cB, 480, .inl (fun j => sb_b (dg j))))] H := hP
            have hD : va_D A [(mx, .inr (4, [.int 0, .int (nI n), .int (nI dn), .int (nI bn), .int (nI wn), .ref m5, .ref m6, .ref m7, .ref m8, .ref m9, .ref m10, .ref m11])), (m5, .inl (cI, 40, .inl (fun j => nI (z j)))), (m6, .inl (cI, 210, .inl (upd (fun j => nI (w2 j)) (nI i).toNatClampNeg (nI 0)))), (m9, .inl (cB, 8000, .inl (fun j => sb_b (g j)))), (m10, .inl (cB, 480, .inl (fun j => sb_b (dg j))))] := hD
            obtain ⟨f40, e40⟩ : ∃ zz9 : Nat → Int32, zz9 = upd (fun j => nI (w2 j)) (nI i).toNatClampNeg (nI 0) := ⟨_, rfl⟩
            rw [← e40] at hP hD
            obtain rfl : f40 = fun j => nI (va_up w2 i 0 j) := e40.trans (upg (by omega))
            obtain ⟨x41, e41⟩ : ∃ zz9 : Int32, zz9 = (nI i) + 1 := ⟨_, rfl⟩
            refine lv_iinc (v := x41) (lv' := [(2, .int x41), (0, .ref mx), (1, .int mi9)]) hx hb dX4_number_41 hl (k := 2) rfl (by rw [e41]; rfl) (by decide) rfl (fun ls hl => ?_)
            obtain rfl : x41 = nI (i + 1) := e41.trans (nI_1 i)
            refine lv_goto (tgt := 27) hx hb dX4_number_44 (by decide) ?_
            exact ih27 (i + 1) (va_up w2 i 0) (by omega) (by omega) (up_lt hw2 (by decide)) (fun j h => by by_cases e : j = i; rw [e, va_up_self]; rw [va_up_ne _ _ e]; exact hz2 j (by omega)) _ _ _ (hP.sub [0, 1, 2, 3, 4] rfl) (hD.sub [0, 1, 2, 3, 4] (by decide) rfl) hS (lv_sub hl [1, 2, 0] rfl)
      exact LP27 _ 0 rw (Nat.lt_succ_self _) (by omega) hrw (fun j h => absurd h (by omega)) _ _ _ (hP.sub [0, 1, 2, 3, 4] rfl) (hD.sub [0, 1, 2, 3, 4] (by decide) rfl) hS (lv_sub hl [1, 2, 0] rfl)
    · first | exact absurd c20 (by decide) | exact (c20 (by decide)).elim
  · refine lv_iconst (v := 1) hx hb dX4_number_8 (by decide) ?_
    refine lv_goto (tgt := 13) hx hb dX4_number_9 (by decide) ?_
    refine va_put (D := (dC, dI)) (ci := 4) (v := .int 1) (ty := .int) (C := RX4) (T := TX4) (N := 12) hx hb hts hinX4 tyX4 tyX4_ok nmX4 hown hK hP hD hS 0 rfl rfl 0 (by decide) (hts (.fieldLink RX4 32 "NumberContentsModel" "thrown" "I") (by decide +kernel)) (fun _ h9 => h9) rfl (by decide +kernel) rfl rfl (Nat.le_of_ble_eq_true rfl) dX4_number_13 (fun H locs hP hD hS => ?_)
    have hP : va_P (dC, dI) vwCl [(mx, .inr (4, [.int 1, .int (nI n), .int (nI dn), .int (nI bn), .int (nI wn), .ref m5, .ref m6, .ref m7, .ref m8, .ref m9, .ref m10, .ref m11])), (m5, .inl (cI, 40, .inl (fun j => nI (z j)))), (m6, .inl (cI, 210, .inl (fun j => nI (rw j)))), (m9, .inl (cB, 8000, .inl (fun j => sb_b (g j)))), (m10, .inl (cB, 480, .inl (fun j => sb_b (dg j))))] H := hP
    have hD : va_D A [(mx, .inr (4, [.int 1, .int (nI n), .int (nI dn), .int (nI bn), .int (nI wn), .ref m5, .ref m6, .ref m7, .ref m8, .ref m9, .ref m10, .ref m11])), (m5, .inl (cI, 40, .inl (fun j => nI (z j)))), (m6, .inl (cI, 210, .inl (fun j => nI (rw j)))), (m9, .inl (cB, 8000, .inl (fun j => sb_b (g j)))), (m10, .inl (cB, 480, .inl (fun j => sb_b (dg j))))] := hD
    refine lv_aload_n hx hb dX4_number_16 rfl (lv_at hl 0 rfl) ?_
    refine va_get (D := (dC, dI)) (ci := 4) (v := .int 1) (C := RX4) (T := TX4) (N := 12) hx hb hts hinX4 hown hK hP 0 rfl rfl 0 (by decide) (hts (.fieldLink RX4 32 "NumberContentsModel" "thrown" "I") (by decide +kernel)) (fun _ h9 => h9) rfl dX4_number_17 ?_
    refine lv_if_le (tgt := 25) hx hb dX4_number_20 (by decide) (fun c20 => ?_) (fun c20 => ?_)
    · first | exact absurd c20 (by decide) | exact (c20 (by decide)).elim
    · refine lv_iconst (v := 0) hx hb dX4_number_23 (by decide) ?_
      have hP9 := hP.sub (ws' := [(mx, .inr (4, [.int 1, .int (nI n), .int (nI dn), .int (nI bn), .int (nI wn), .ref m5, .ref m6, .ref m7, .ref m8, .ref m9, .ref m10, .ref m11])), (m5, .inl (cI, 40, .inl (fun j => nI (z j)))), (m6, .inl (cI, 210, .inl (fun j => nI (rw j)))), (m9, .inl (cB, 8000, .inl (fun j => sb_b (g j)))), (m10, .inl (cB, 480, .inl (fun j => sb_b (dg j))))]) [0, 1, 2, 3, 4] rfl
      have hD9 := hD.sub (ws' := [(mx, .inr (4, [.int 1, .int (nI n), .int (nI dn), .int (nI bn), .int (nI wn), .ref m5, .ref m6, .ref m7, .ref m8, .ref m9, .ref m10, .ref m11])), (m5, .inl (cI, 40, .inl (fun j => nI (z j)))), (m6, .inl (cI, 210, .inl (fun j => nI (rw j)))), (m9, .inl (cB, 8000, .inl (fun j => sb_b (g j)))), (m10, .inl (cB, 480, .inl (fun j => sb_b (dg j))))]) [0, 1, 2, 3, 4] (by decide) rfl
      have hK9 := hK.sub (tys' := [(cI, .int), (cB, .byte)]) [0, 1] rfl
      exact W.iret (v := 0) hx hb hr (fun tS htS hW => ⟨⟨0, (1, n, g, z, rw, dn), rfl, (by have e9 : dn = 0 := (nI_eq (b := 0) (by omega) (by omega)).mp c5; exact ⟨hrw, e9, Or.inl ⟨rfl, rfl, rfl, rfl, e9⟩⟩), by rw [htS]; exact hP9, va_K.moved hW.alike hK9, hD9⟩, hS.F htS⟩) hS.2.2 dX4_number_24

theorem ct_lo {f2 g : Nat → Nat} {i n : Nat} (h : ∀ j, j < i → j < n → f2 j = g (n - 1 - j)) : ∀ j, j < i + 1 → j < n → va_up f2 i (g (n - 1 - i)) j = g (n - 1 - j) := by
  intro j h1 h2
  by_cases e : j = i
  · rw [e, va_up_self]
  · rw [va_up_ne _ _ e]; exact h j (by omega) h2
theorem ct_lo2 {f2 g : Nat → Nat} {i n v : Nat} (hge : n ≤ i) (h : ∀ j, j < i → j < n → f2 j = g (n - 1 - j)) : ∀ j, j < i + 1 → j < n → va_up f2 i v j = g (n - 1 - j) := by
  intro j h1 h2
  rw [va_up_ne _ _ (by omega)]; exact h j (by omega) h2
theorem ct_hi2 {f2 : Nat → Nat} {i n fl v : Nat} (e9 : v = fl) (h : ∀ j, j < i → n ≤ j → f2 j = fl) : ∀ j, j < i + 1 → n ≤ j → va_up f2 i v j = fl := by
  intro j h1 h2
  by_cases e : j = i
  · rw [e, va_up_self, e9]
  · rw [va_up_ne _ _ e]; exact h j (by omega) h2

set_option maxHeartbeats 4000000 in
set_option maxRecDepth 100000 in
theorem c_X4_contents (l : Launch) (dC : Nat → ClassId) (dI : Nat → Nat → Nat) (cI cB : ClassId) (mx m5 m6 m7 m8 m9 m10 m11 n dn bn wn : Nat) (th : Int32) (g z rw by9 : Nat → Nat) (sz : Nat) (hI : XM n g z) (hrw : ∀ j, rw j < 256) (hbn : bn ≤ 200) (hby : ∀ j, by9 j < 256) : Met l yX4_contents wsX4_contents ({ frames := 3, cells := 0, slots := 0, locals := 66 } : Room) (va_Pc [.ref mx] (fun U => U.heap.size = sz ∧ va_P (dC, dI) vwCl [(mx, .inr (4, [.int th, .int (nI n), .int (nI dn), .int (nI bn), .int (nI wn), .ref m5, .ref m6, .ref m7, .ref m8, .ref m9, .ref m10, .ref m11])), (m5, .inl (cI, 40, .inl (fun j => nI (z j)))), (m6, .inl (cI, 210, .inl (fun j => nI (rw j)))), (m9, .inl (cB, 8000, .inl (fun j => sb_b (g j)))), (m11, .inl (cB, 200, .inl (fun j => sb_b (by9 j))))] U.heap ∧ va_K (dC, dI) vwCl [(cI, .int), (cB, .byte)] U ∧ va_D (fun _ => True) [(mx, .inr (4, [.int th, .int (nI n), .int (nI dn), .int (nI bn), .int (nI wn), .ref m5, .ref m6, .ref m7, .ref m8, .ref m9, .ref m10, .ref m11])), (m5, .inl (cI, 40, .inl (fun j => nI (z j)))), (m6, .inl (cI, 210, .inl (fun j => nI (rw j)))), (m9, .inl (cB, 8000, .inl (fun j => sb_b (g j)))), (m11, .inl (cB, 200, .inl (fun j => sb_b (by9 j))))])) (va_Qi (fun (r : Int32) (uS : Int32 × Nat × (Nat → Nat) × (Nat → Nat) × (Nat → Nat)) => match uS with | (th3, n3, g3, z3, rw3) => (∀ j, rw3 j < 256) ∧ ((th3 = 1 ∧ n3 = n ∧ g3 = g ∧ z3 = z ∧ bn = 0) ∨ (th3 = 2 ∧ n3 = n ∧ g3 = g ∧ z3 = z ∧ 1 ≤ bn ∧ ¬ isz (sv (fun j => by9 (bn - 1 - j)) bn) bn) ∨ (th3 = 0 ∧ n3 = n + 1 ∧ 1 ≤ bn ∧ isz (sv (fun j => by9 (bn - 1 - j)) bn) bn ∧ KEPTM n g z g3 z3 (sv (fun j => by9 (bn - 1 - j)) bn) r) ∨ (th3 = 3 ∧ n3 = n ∧ g3 = g ∧ z3 = z ∧ 1 ≤ bn ∧ isz (sv (fun j => by9 (bn - 1 - j)) bn) bn ∧ NOKEEP n (sv (fun j => by9 (bn - 1 - j)) bn)))) (fun (uS : Int32 × Nat × (Nat → Nat) × (Nat → Nat) × (Nat → Nat)) (tS : State) => match uS with | (th3, n3, g3, z3, rw3) => va_P (dC, dI) vwCl [(mx, .inr (4, [.int th3, .int (nI n3), .int (nI dn), .int (nI 0), .int (nI wn), .ref m5, .ref m6, .ref m7, .ref m8, .ref m9, .ref m10, .ref m11])), (m5, .inl (cI, 40, .inl (fun j => nI (z3 j)))), (m6, .inl (cI, 210, .inl (fun j => nI (rw3 j)))), (m9, .inl (cB, 8000, .inl (fun j => sb_b (g3 j)))), (m11, .inl (cB, 200, .inl (fun j => sb_b (by9 j))))] tS.heap ∧ va_K (dC, dI) vwCl [(cI, .int), (cB, .byte)] tS ∧ va_D (va_A [(mx, .inr (4, [.int th, .int (nI n), .int (nI dn), .int (nI bn), .int (nI wn), .ref m5, .ref m6, .ref m7, .ref m8, .ref m9, .ref m10, .ref m11])), (m5, .inl (cI, 40, .inl (fun j => nI (z j)))), (m6, .inl (cI, 210, .inl (fun j => nI (rw j)))), (m9, .inl (cB, 8000, .inl (fun j => sb_b (g j)))), (m11, .inl (cB, 200, .inl (fun j => sb_b (by9 j))))] sz) [(mx, .inr (4, [.int th3, .int (nI n3), .int (nI dn), .int (nI 0), .int (nI wn), .ref m5, .ref m6, .ref m7, .ref m8, .ref m9, .ref m10, .ref m11])), (m5, .inl (cI, 40, .inl (fun j => nI (z3 j)))), (m6, .inl (cI, 210, .inl (fun j => nI (rw3 j)))), (m9, .inl (cB, 8000, .inl (fun j => sb_b (g3 j)))), (m11, .inl (cB, 200, .inl (fun j => sb_b (by9 j))))]) (va_A [(mx, .inr (4, [.int th, .int (nI n), .int (nI dn), .int (nI bn), .int (nI wn), .ref m5, .ref m6, .ref m7, .ref m8, .ref m9, .ref m10, .ref m11])), (m5, .inl (cI, 40, .inl (fun j => nI (z j)))), (m6, .inl (cI, 210, .inl (fun j => nI (rw j)))), (m9, .inl (cB, 8000, .inl (fun j => sb_b (g j)))), (m11, .inl (cB, 200, .inl (fun j => sb_b (by9 j))))] sz)) 0 0 (va_A [(mx, .inr (4, [.int th, .int (nI n), .int (nI dn), .int (nI bn), .int (nI wn), .ref m5, .ref m6, .ref m7, .ref m8, .ref m9, .ref m10, .ref m11])), (m5, .inl (cI, 40, .inl (fun j => nI (z j)))), (m6, .inl (cI, 210, .inl (fun j => nI (rw j)))), (m9, .inl (cB, 8000, .inl (fun j => sb_b (g j)))), (m11, .inl (cB, 200, .inl (fun j => sb_b (by9 j))))] sz) := by
  refine Met.ofW (cc := cX4_contents) (maxL := 4) (ret := (some .int)) (by decide) rfl ?_
  intro p e s m args below meth c s₁ B hml hv
  obtain ⟨rfl, hsz, hP, hK, hD0⟩ := hv
  have hx := B.exec
  have hb := B.bytes
  have hr := B.returns
  have hts := atoms_spec (ws := wsX4_contents) B.pre
  have hown : s.vm.findClass RX4 = some m.cls := findClass_of_methodNamed B.named
  have hlocks := B.notSynchronized
  subst hsz
  have hD := hD0.self (sz := s.heap.size)
  generalize hAe : va_A [(mx, .inr (4, [.int th, .int (nI n), .int (nI dn), .int (nI bn), .int (nI wn), .ref m5, .ref m6, .ref m7, .ref m8, .ref m9, .ref m10, .ref m11])), (m5, .inl (cI, 40, .inl (fun j => nI (z j)))), (m6, .inl (cI, 210, .inl (fun j => nI (rw j)))), (m9, .inl (cB, 8000, .inl (fun j => sb_b (g j)))), (m11, .inl (cB, 200, .inl (fun j => sb_b (by9 j))))] s.heap.size = A at hD ⊢
  have hA : ∀ q : Nat, s.heap.size ≤ q → A q := fun q h => by rw [← hAe]; exact Or.inr h
  have hS : va_S A s.heap s.heap [] := va_S.rf
  have hinX4 : ∀ w ∈ wsX40, w ∈ wsX4_contents := by decide +kernel
  have hl := lv_entry ([.ref mx]) (n := 4) (Nat.le_of_ble_eq_true rfl)
  rw [lg_entry_eq]
  generalize (lg_sl ([.ref mx]) ++ List.replicate (4 - (lg_sl ([.ref mx])).length) Slot.unset).toArray = ls at hl ⊢
  have hl : lv_has ls 4 [(0, .ref mx)] := hl
  obtain ⟨hg, hn, hz, hq⟩ := id hI
  refine lv_aload_n hx hb dX4_contents_0 rfl (lv_at hl 0 rfl) ?_
  refine va_get (D := (dC, dI)) (ci := 4) (v := .int (nI bn)) (C := RX4) (T := TX4) (N := 12) hx hb hts hinX4 hown hK hP 0 rfl rfl 3 (by decide) (hts (.fieldLink RX4 39 "NumberContentsModel" "byteMany" "I") (by decide +kernel)) (fun _ h9 => h9) rfl dX4_contents_1 ?_
  refine lv_istore_n (lv' := [(1, .int (nI bn)), (0, .ref mx)]) hx hb dX4_contents_4 rfl hl (by decide) rfl (fun ls hl => ?_)
  refine lv_aload_n hx hb dX4_contents_5 rfl (lv_at hl 1 rfl) ?_
  refine lv_iconst (v := (nI 0)) hx hb dX4_contents_6 (by decide) ?_
  refine va_put (D := (dC, dI)) (ci := 4) (v := .int (nI 0)) (ty := .int) (C := RX4) (T := TX4) (N := 12) hx hb hts hinX4 tyX4 tyX4_ok nmX4 hown hK hP hD hS 0 rfl rfl 3 (by decide) (hts (.fieldLink RX4 39 "NumberContentsModel" "byteMany" "I") (by decide +kernel)) (fun _ h9 => h9) rfl (by decide +kernel) rfl rfl (Nat.le_of_ble_eq_true rfl) dX4_contents_7 (fun H locs hP hD hS => ?_)
  have hP : va_P (dC, dI) vwCl [(mx, .inr (4, [.int th, .int (nI n), .int (nI dn), .int (nI 0), .int (nI wn), .ref m5, .ref m6, .ref m7, .ref m8, .ref m9, .ref m10, .ref m11])), (m5, .inl (cI, 40, .inl (fun j => nI (z j)))), (m6, .inl (cI, 210, .inl (fun j => nI (rw j)))), (m9, .inl (cB, 8000, .inl (fun j => sb_b (g j)))), (m11, .inl (cB, 200, .inl (fun j => sb_b (by9 j))))] H := hP
  have hD : va_D A [(mx, .inr (4, [.int th, .int (nI n), .int (nI dn), .int (nI 0), .int (nI wn), .ref m5, .ref m6, .ref m7, .ref m8, .ref m9, .ref m10, .ref m11])), (m5, .inl (cI, 40, .inl (fun j => nI (z j)))), (m6, .inl (cI, 210, .inl (fun j => nI (rw j)))), (m9, .inl (cB, 8000, .inl (fun j => sb_b (g j)))), (m11, .inl (cB, 200, .inl (fun j => sb_b (by9 j))))] := hD
  refine lv_iload_n hx hb dX4_contents_10 rfl (lv_at hl 0 rfl) ?_
  refine lv_iconst (v := (nI 2)) hx hb dX4_contents_11 (by decide) ?_
  refine lv_icmp_lt (tgt := 52) hx hb dX4_contents_12 (by decide) (fun c12 => ?_) (fun c12 => ?_)
  · have hfy : bn < 2 ∨ ¬ ((by9 0 = 0 ∧ by9 1 < 128) ∨ (by9 0 = 255 ∧ 128 ≤ by9 1)) := (by first | exact Or.inl ((nI_ltI (by omega) (by omega)).mp c12) | exact Or.inr (fun y => y.elim (fun y => by first | exact c21 ((sb_0 (hby 0)).mpr y.1) | exact c30 ((sb_ge _ (hby 1)).mpr y.2)) (fun y => by first | exact c40 ((sb_m (hby 0)).mpr y.1) | exact c49 ((sb_lt0 _ (hby 1)).mpr y.2))))
    refine lv_iconst (v := 1) hx hb dX4_contents_52 (by decide) ?_
    refine lv_goto (tgt := 57) hx hb dX4_contents_53 (by decide) ?_
    refine lv_istore_n (lv' := [(2, .int 1), (1, .int (nI bn)), (0, .ref mx)]) hx hb dX4_contents_57 rfl hl (by decide) rfl (fun ls hl => ?_)
    refine lv_aload_n hx hb dX4_contents_58 rfl (lv_at hl 2 rfl) ?_
    refine lv_iload_n hx hb dX4_contents_59 rfl (lv_at hl 1 rfl) ?_
    refine lv_if_ne (tgt := 67) hx hb dX4_contents_60 (by decide) (fun c60 => ?_) (fun c60 => ?_)
    · have hbn1 : 1 ≤ bn := Nat.pos_of_ne_zero (fun y => c60 (by rw [y]; rfl))
      refine lv_iload_n hx hb dX4_contents_67 rfl (lv_at hl 0 rfl) ?_
      refine lv_if_ne (tgt := 75) hx hb dX4_contents_68 (by decide) (fun c68 => ?_) (fun c68 => ?_)
      · refine lv_iconst (v := 0) hx hb dX4_contents_75 (by decide) ?_
        refine va_put (D := (dC, dI)) (ci := 4) (v := .int 0) (ty := .int) (C := RX4) (T := TX4) (N := 12) hx hb hts hinX4 tyX4 tyX4_ok nmX4 hown hK hP hD hS 0 rfl rfl 0 (by decide) (hts (.fieldLink RX4 32 "NumberContentsModel" "thrown" "I") (by decide +kernel)) (fun _ h9 => h9) rfl (by decide +kernel) rfl rfl (Nat.le_of_ble_eq_true rfl) dX4_contents_76 (fun H locs hP hD hS => ?_)
        have hP : va_P (dC, dI) vwCl [(mx, .inr (4, [.int 0, .int (nI n), .int (nI dn), .int (nI 0), .int (nI wn), .ref m5, .ref m6, .ref m7, .ref m8, .ref m9, .ref m10, .ref m11])), (m5, .inl (cI, 40, .inl (fun j => nI (z j)))), (m6, .inl (cI, 210, .inl (fun j => nI (rw j)))), (m9, .inl (cB, 8000, .inl (fun j => sb_b (g j)))), (m11, .inl (cB, 200, .inl (fun j => sb_b (by9 j))))] H := hP
        have hD : va_D A [(mx, .inr (4, [.int 0, .int (nI n), .int (nI dn), .int (nI 0), .int (nI wn), .ref m5, .ref m6, .ref m7, .ref m8, .ref m9, .ref m10, .ref m11])), (m5, .inl (cI, 40, .inl (fun j => nI (z j)))), (m6, .inl (cI, 210, .inl (fun j => nI (rw j)))), (m9, .inl (cB, 8000, .inl (fun j => sb_b (g j)))), (m11, .inl (cB, 200, .inl (fun j => sb_b (by9 j))))] := hD
        refine lv_aload_n hx hb dX4_contents_79 rfl (lv_at hl 2 rfl) ?_
        refine va_get (D := (dC, dI)) (ci := 4) (v := .int 0) (C := RX4) (T := TX4) (N := 12) hx hb hts hinX4 hown hK hP 0 rfl rfl 0 (by decide) (hts (.fieldLink RX4 32 "NumberContentsModel" "thrown" "I") (by decide +kernel)) (fun _ h9 => h9) rfl dX4_contents_80 ?_
        refine lv_if_le (tgt := 88) hx hb dX4_contents_83 (by decide) (fun c83 => ?_) (fun c83 => ?_)
        · have hisz := fw_yes hby hbn1 hfy
          refine lv_iconst (v := (nI 0)) hx hb dX4_contents_88 (by decide) ?_
          refine lv_istore_n (lv' := [(3, .int (nI 0)), (2, .int 1), (1, .int (nI bn)), (0, .ref mx)]) hx hb dX4_contents_89 rfl hl (by decide) rfl (fun ls hl => ?_)
          have LP90 : ∀ (n9 : Nat) (i : Nat) (w2 : Nat → Nat) (hm : (210 - i) < n9) (hi : i ≤ 210) (hw2 : ∀ j, w2 j < 256) (hlo : ∀ j, j < i → j < bn → w2 j = by9 (bn - 1 - j)) (hhi : ∀ j, j < i → bn ≤ j → w2 j = (if 128 ≤ by9 0 then 255 else 0)) (H : Heap) (locs : List Loc) (ls : Array Slot) (hP : va_P (dC, dI) vwCl [(mx, .inr (4, [.int 0, .int (nI n), .int (nI dn), .int (nI 0), .int (nI wn), .ref m5, .ref m6, .ref m7, .ref m8, .ref m9, .ref m10, .ref m11])), (m5, .inl (cI, 40, .inl (fun j => nI (z j)))), (m6, .inl (cI, 210, .inl (fun j => nI (w2 j)))), (m9, .inl (cB, 8000, .inl (fun j => sb_b (g j)))), (m11, .inl (cB, 200, .inl (fun j => sb_b (by9 j))))] H) (hD : va_D A [(mx, .inr (4, [.int 0, .int (nI n), .int (nI dn), .int (nI 0), .int (nI wn), .ref m5, .ref m6, .ref m7, .ref m8, .ref m9, .ref m10, .ref m11])), (m5, .inl (cI, 40, .inl (fun j => nI (z j)))), (m6, .inl (cI, 210, .inl (fun j => nI (w2 j)))), (m9, .inl (cB, 8000, .inl (fun j => sb_b (g j)))), (m11, .inl (cB, 200, .inl (fun j => sb_b (by9 j))))]) (hS : va_S A s.heap H locs) (hl : lv_has ls 4 [(0, .ref mx), (1, .int (nI bn)), (3, .int (nI i))]), W p l e (headSpec wsX4_contents ({ frames := 3, cells := 0, slots := 0, locals := 66 } : Room)).room s m ([.ref mx]).toArray below meth c H locs 0 0 (MQ below (va_Qi (fun (r : Int32) (uS : Int32 × Nat × (Nat → Nat) × (Nat → Nat) × (Nat → Nat)) => match uS with | (th3, n3, g3, z3, rw3) => (∀ j, rw3 j < 256) ∧ ((th3 = 1 ∧ n3 = n ∧ g3 = g ∧ z3 = z ∧ bn = 0) ∨ (th3 = 2 ∧ n3 = n ∧ g3 = g ∧ z3 = z ∧ 1 ≤ bn ∧ ¬ isz (sv (fun j => by9 (bn - 1 - j)) bn) bn) ∨ (th3 = 0 ∧ n3 = n + 1 ∧ 1 ≤ bn ∧ isz (sv (fun j => by9 (bn - 1 - j)) bn) bn ∧ KEPTM n g z g3 z3 (sv (fun j => by9 (bn - 1 - j)) bn) r) ∨ (th3 = 3 ∧ n3 = n ∧ g3 = g ∧ z3 = z ∧ 1 ≤ bn ∧ isz (sv (fun j => by9 (bn - 1 - j)) bn) bn ∧ NOKEEP n (sv (fun j => by9 (bn - 1 - j)) bn)))) (fun (uS : Int32 × Nat × (Nat → Nat) × (Nat → Nat) × (Nat → Nat)) (tS : State) => match uS with | (th3, n3, g3, z3, rw3) => va_P (dC, dI) vwCl [(mx, .inr (4, [.int th3, .int (nI n3), .int (nI dn), .int (nI 0), .int (nI wn), .ref m5, .ref m6, .ref m7, .ref m8, .ref m9, .ref m10, .ref m11])), (m5, .inl (cI, 40, .inl (fun j => nI (z3 j)))), (m6, .inl (cI, 210, .inl (fun j => nI (rw3 j)))), (m9, .inl (cB, 8000, .inl (fun j => sb_b (g3 j)))), (m11, .inl (cB, 200, .inl (fun j => sb_b (by9 j))))] tS.heap ∧ va_K (dC, dI) vwCl [(cI, .int), (cB, .byte)] tS ∧ va_D A [(mx, .inr (4, [.int th3, .int (nI n3), .int (nI dn), .int (nI 0), .int (nI wn), .ref m5, .ref m6, .ref m7, .ref m8, .ref m9, .ref m10, .ref m11])), (m5, .inl (cI, 40, .inl (fun j => nI (z3 j)))), (m6, .inl (cI, 210, .inl (fun j => nI (rw3 j)))), (m9, .inl (cB, 8000, .inl (fun j => sb_b (g3 j)))), (m11, .inl (cB, 200, .inl (fun j => sb_b (by9 j))))]) A) ([.ref mx]).toArray s 0 0 A) (F0 m 90 ls []) := by
            intro n9
            induction n9 with
            | zero => intro i w2 hm; exact absurd hm (Nat.not_lt_zero _)
            | succ n9 ih =>
              intro i w2 hm hi hw2 hlo hhi H locs ls hP hD hS hl
              have ih90 := ih
              refine lv_iload_n hx hb dX4_contents_90 rfl (lv_at hl 2 rfl) ?_
              refine lv_sipush (v := (nI 210)) hx hb dX4_contents_91 (by decide) ?_
              refine lv_icmp_ge (tgt := 147) hx hb dX4_contents_94 (by decide) (fun c94 => ?_) (fun c94 => ?_)
              · obtain rfl : i = 210 := Nat.le_antisymm hi ((nI_leI (by omega) (by omega)).mp c94)
                have hZK : sv w2 210 = sv (fun j => by9 (bn - 1 - j)) bn := ext_sv (r := fun j => by9 (bn - 1 - j)) (fl := if 128 ≤ by9 0 then 255 else 0) hbn1 (by omega) (by show _ ∧ 128 ≤ by9 (bn - 1 - (bn - 1)) ∨ _ ∧ by9 (bn - 1 - (bn - 1)) < 128; rw [Nat.sub_self]; by_cases y : 128 ≤ by9 0; exact Or.inl ⟨if_pos y, y⟩; exact Or.inr ⟨if_neg y, by omega⟩) (fun j hj => hlo j (by omega) hj) (fun j h1 h2 => hhi j h2 h1)
                refine lv_aload_n hx hb dX4_contents_147 rfl (lv_at hl 0 rfl) ?_
                refine lv_iconst (v := 3) hx hb dX4_contents_148 (by decide) ?_
                have hPc := hP.sub (ws' := [(mx, .inr (4, [.int 0, .int (nI n), .int (nI dn), .int (nI 0), .int (nI wn), .ref m5, .ref m6, .ref m7, .ref m8, .ref m9, .ref m10, .ref m11])), (m5, .inl (cI, 40, .inl (fun j => nI (z j)))), (m6, .inl (cI, 210, .inl (fun j => nI (w2 j)))), (m9, .inl (cB, 8000, .inl (fun j => sb_b (g j))))]) [0, 1, 2, 3] rfl
                have hKc := hK.sub (tys' := [(cI, .int), (cB, .byte)]) [0, 1] rfl
                have hDc := hD.sub (ws' := [(mx, .inr (4, [.int 0, .int (nI n), .int (nI dn), .int (nI 0), .int (nI wn), .ref m5, .ref m6, .ref m7, .ref m8, .ref m9, .ref m10, .ref m11])), (m5, .inl (cI, 40, .inl (fun j => nI (z j)))), (m6, .inl (cI, 210, .inl (fun j => nI (w2 j)))), (m9, .inl (cB, 8000, .inl (fun j => sb_b (g j))))]) [0, 1, 2, 3] (by decide) rfl
                have hFc := va_free (wc := [(mx, .inr (4, [.int 0, .int (nI n), .int (nI dn), .int (nI 0), .int (nI wn), .ref m5, .ref m6, .ref m7, .ref m8, .ref m9, .ref m10, .ref m11])), (m5, .inl (cI, 40, .inl (fun j => nI (z j)))), (m6, .inl (cI, 210, .inl (fun j => nI (w2 j)))), (m9, .inl (cB, 8000, .inl (fun j => sb_b (g j))))]) hD hS hA [0, 1, 2, 3] rfl
                refine va_calli (va_runV (As := [.int 3]) (rest := []) ⟨hx, hb, hml, hown, hts⟩ (c_X4_keep l dC dI cI cB mx m5 m6 m7 m8 m9 m10 m11 n dn 0 wn 0 g z w2 3 H.size hI hw2 (Or.inr rfl)) (cwV 1 hts gX4_contents_X4_keep rfl rfl rfl (by decide +kernel) ⟨Nat.le_of_ble_eq_true rfl, Nat.le_of_ble_eq_true rfl⟩) ⟨fun a U g mk q => by obtain ⟨q0, q1, qP, qK, qD⟩ := q; exact ⟨q0, q1, qP, va_K.moved (u := U) (U := U.calling g mk a) (Vm.Alike.refl U.vm) qK, qD⟩, va_recv hKc hPc (ci := 4) (q0 := 0) rfl rfl, fun U hU hW => ⟨rfl, by rw [hU], by rw [hU]; exact hPc, va_K.moved hW.alike hKc, hDc.weaken (fun _ _ _ _ => trivial)⟩⟩ rfl rfl hl.1 rfl (lv_room (Nat.le_of_ble_eq_true rfl)) dX4_contents_149 ⟨Nat.le_of_ble_eq_true rfl, Nat.le_of_ble_eq_true rfl⟩) hS (fun q _ h => hFc q h) hFc (fun r149 uS tS H1 locs htS hvm h149 hB hzS hkS hS => ?_)
                obtain ⟨th3_149, n3_149, g3_149, z3_149⟩ := uS
                obtain ⟨hP1, hK1, hD1⟩ := hB
                rw [htS] at hP1
                have hK1 := va_K.moved hvm.symm hK1
                try dsimp only at h149
                obtain ⟨hP, hD⟩ := va_join (wr := [(m11, .inl (cB, 200, .inl (fun j => sb_b (by9 j))))]) (w1 := [(mx, .inr (4, [.int th3_149, .int (nI n3_149), .int (nI dn), .int (nI 0), .int (nI wn), .ref m5, .ref m6, .ref m7, .ref m8, .ref m9, .ref m10, .ref m11])), (m5, .inl (cI, 40, .inl (fun j => nI (z3_149 j)))), (m6, .inl (cI, 210, .inl (fun j => nI (w2 j)))), (m9, .inl (cB, 8000, .inl (fun j => sb_b (g3_149 j))))]) hP hD [0, 1, 2, 3] [4] rfl rfl (by decide) (by decide) hkS hFc hP1 hD1
                generalize H1 = H at hP hS ⊢
                have hP : va_P (dC, dI) vwCl [(m11, .inl (cB, 200, .inl (fun j => sb_b (by9 j)))), (mx, .inr (4, [.int th3_149, .int (nI n3_149), .int (nI dn), .int (nI 0), .int (nI wn), .ref m5, .ref m6, .ref m7, .ref m8, .ref m9, .ref m10, .ref m11])), (m5, .inl (cI, 40, .inl (fun j => nI (z3_149 j)))), (m6, .inl (cI, 210, .inl (fun j => nI (w2 j)))), (m9, .inl (cB, 8000, .inl (fun j => sb_b (g3_149 j))))] H := hP
                have hD : va_D A [(m11, .inl (cB, 200, .inl (fun j => sb_b (by9 j)))), (mx, .inr (4, [.int th3_149, .int (nI n3_149), .int (nI dn), .int (nI 0), .int (nI wn), .ref m5, .ref m6, .ref m7, .ref m8, .ref m9, .ref m10, .ref m11])), (m5, .inl (cI, 40, .inl (fun j => nI (z3_149 j)))), (m6, .inl (cI, 210, .inl (fun j => nI (w2 j)))), (m9, .inl (cB, 8000, .inl (fun j => sb_b (g3_149 j))))] := hD
                rw [hZK] at h149
                have hP9 := hP.sub (ws' := [(mx, .inr (4, [.int th3_149, .int (nI n3_149), .int (nI dn), .int (nI 0), .int (nI wn), .ref m5, .ref m6, .ref m7, .ref m8, .ref m9, .ref m10, .ref m11])), (m5, .inl (cI, 40, .inl (fun j => nI (z3_149 j)))), (m6, .inl (cI, 210, .inl (fun j => nI (w2 j)))), (m9, .inl (cB, 8000, .inl (fun j => sb_b (g3_149 j)))), (m11, .inl (cB, 200, .inl (fun j => sb_b (by9 j))))]) [1, 2, 3, 4, 0] rfl
                have hD9 := hD.sub (ws' := [(mx, .inr (4, [.int th3_149, .int (nI n3_149), .int (nI dn), .int (nI 0), .int (nI wn), .ref m5, .ref m6, .ref m7, .ref m8, .ref m9, .ref m10, .ref m11])), (m5, .inl (cI, 40, .inl (fun j => nI (z3_149 j)))), (m6, .inl (cI, 210, .inl (fun j => nI (w2 j)))), (m9, .inl (cB, 8000, .inl (fun j => sb_b (g3_149 j)))), (m11, .inl (cB, 200, .inl (fun j => sb_b (by9 j))))]) [1, 2, 3, 4, 0] (by decide) rfl
                have hK9 := hK.sub (tys' := [(cI, .int), (cB, .byte)]) [0, 1] rfl
                exact W.iret (v := r149) hx hb hr (fun tS htS hW => ⟨⟨r149, (th3_149, n3_149, g3_149, z3_149, w2), rfl, ⟨hw2, Or.inr (Or.inr (h149.elim (fun y => Or.inl ⟨y.1, y.2.1, hbn1, hisz, y.2.2⟩) (fun y => Or.inr ⟨y.1, y.2.1, y.2.2.1, y.2.2.2.1, hbn1, hisz, y.2.2.2.2⟩)))⟩, by rw [htS]; exact hP9, va_K.moved hW.alike hK9, hD9⟩, hS.F htS⟩) hS.2.2 dX4_contents_152
              · have hlt : i < 210 := Nat.lt_of_not_le (fun h => c94 (nI_le h (by omega)))
                refine lv_aload_n hx hb dX4_contents_97 rfl (lv_at hl 0 rfl) ?_
                refine va_get (D := (dC, dI)) (ci := 4) (v := .ref m6) (C := RX4) (T := TX4) (N := 12) hx hb hts hinX4 hown hK hP 0 rfl rfl 6 (by decide) (hts (.fieldLink RX4 13 "NumberContentsModel" "row" "[I") (by decide +kernel)) (fun _ h9 => h9) rfl dX4_contents_98 ?_
                refine lv_iload_n hx hb dX4_contents_101 rfl (lv_at hl 2 rfl) ?_
                refine lv_iload_n hx hb dX4_contents_102 rfl (lv_at hl 2 rfl) ?_
                refine lv_iload_n hx hb dX4_contents_103 rfl (lv_at hl 1 rfl) ?_
                refine lv_icmp_ge (tgt := 124) hx hb dX4_contents_104 (by decide) (fun c104 => ?_) (fun c104 => ?_)
                · have hge2 : bn ≤ i := (nI_leI (by omega) (by omega)).mp c104
                  refine lv_aload_n hx hb dX4_contents_124 rfl (lv_at hl 0 rfl) ?_
                  refine va_get (D := (dC, dI)) (ci := 4) (v := .ref m11) (C := RX4) (T := TX4) (N := 12) hx hb hts hinX4 hown hK hP 0 rfl rfl 11 (by decide) (hts (.fieldLink RX4 29 "NumberContentsModel" "bytes" "[B") (by decide +kernel)) (fun _ h9 => h9) rfl dX4_contents_125 ?_
                  refine lv_iconst (v := (nI 0)) hx hb dX4_contents_128 (by decide) ?_
                  refine va_bald hx hb hK hP 4 1 rfl rfl (vp_in_nI (by omega) (by omega)) dX4_contents_129 ?_
                  refine lv_topi (fun x129 e129 => ?_)
                  obtain rfl : x129 = sb_b (by9 0) := e129.trans (atsb (k := 0) (by omega))
                  refine lv_if_ge (tgt := 139) hx hb dX4_contents_130 (by decide) (fun c130 => ?_) (fun c130 => ?_)
                  · refine lv_iconst (v := (nI 0)) hx hb dX4_contents_139 (by decide) ?_
                    refine va_iast hx hb hK hP hD hS 2 0 rfl rfl (vp_in_nI (by omega) (by omega)) dX4_contents_140 (fun H locs hP hD hS => ?_)
                    have hP : va_P (dC, dI) vwCl [(mx, .inr (4, [.int 0, .int (nI n), .int (nI dn), .int (nI 0), .int (nI wn), .ref m5, .ref m6, .ref m7, .ref m8, .ref m9, .ref m10, .ref m11])), (m5, .inl (cI, 40, .inl (fun j => nI (z j)))), (m6, .inl (cI, 210, .inl (upd (fun j => nI (w2 j)) (nI i).toNatClampNeg (nI 0)))), (m9, .inl (cB, 8000, .inl (fun j => sb_b (g j)))), (m11, .inl (cB, 200, .inl (fun j => sb_b (by9 j))))] H := hP
                    have hD : va_D A [(mx, .inr (4, [.int 0, .int (nI n), .int (nI dn), .int (nI 0), .int (nI wn), .ref m5, .ref m6, .ref m7, .ref m8, .ref m9, .ref m10, .ref m11])), (m5, .inl (cI, 40, .inl (fun j => nI (z j)))), (m6, .inl (cI, 210, .inl (upd (fun j => nI (w2 j)) (nI i).toNatClampNeg (nI 0)))), (m9, .inl (cB, 8000, .inl (fun j => sb_b (g j)))), (m11, .inl (cB, 200, .inl (fun j => sb_b (by9 j))))] := hD
                    obtain ⟨f140, e140⟩ : ∃ zz9 : Nat → Int32, zz9 = upd (fun j => nI (w2 j)) (nI i).toNatClampNeg (nI 0) := ⟨_, rfl⟩
                    rw [← e140] at hP hD
                    obtain rfl : f140 = fun j => nI (va_up w2 i 0 j) := e140.trans (upg (by omega))
                    obtain ⟨x141, e141⟩ : ∃ zz9 : Int32, zz9 = (nI i) + 1 := ⟨_, rfl⟩
                    refine lv_iinc (v := x141) (lv' := [(3, .int x141), (0, .ref mx), (1, .int (nI bn))]) hx hb dX4_contents_141 hl (k := 2) rfl (by rw [e141]; rfl) (by decide) rfl (fun ls hl => ?_)
                    obtain rfl : x141 = nI (i + 1) := e141.trans (nI_1 i)
                    refine lv_goto (tgt := 90) hx hb dX4_contents_144 (by decide) ?_
                    exact ih90 (i + 1) (va_up w2 i 0) (by omega) (by omega) (up_lt hw2 (by decide)) (ct_lo2 hge2 hlo) (ct_hi2 (by rw [if_neg (by have := (sb_ge _ (hby 0)).mp c130; omega)]) hhi) _ _ _ (hP.sub [0, 1, 2, 3, 4] rfl) (hD.sub [0, 1, 2, 3, 4] (by decide) rfl) hS (lv_sub hl [1, 2, 0] rfl)
                  · refine lv_sipush (v := (nI 255)) hx hb dX4_contents_133 (by decide) ?_
                    refine lv_goto (tgt := 140) hx hb dX4_contents_136 (by decide) ?_
                    refine va_iast hx hb hK hP hD hS 2 0 rfl rfl (vp_in_nI (by omega) (by omega)) dX4_contents_140 (fun H locs hP hD hS => ?_)
                    have hP : va_P (dC, dI) vwCl [(mx, .inr (4, [.int 0, .int (nI n), .int (nI dn), .int (nI 0), .int (nI wn), .ref m5, .ref m6, .ref m7, .ref m8, .ref m9, .ref m10, .ref m11])), (m5, .inl (cI, 40, .inl (fun j => nI (z j)))), (m6, .inl (cI, 210, .inl (upd (fun j => nI (w2 j)) (nI i).toNatClampNeg (nI 255)))), (m9, .inl (cB, 8000, .inl (fun j => sb_b (g j)))), (m11, .inl (cB, 200, .inl (fun j => sb_b (by9 j))))] H := hP
                    have hD : va_D A [(mx, .inr (4, [.int 0, .int (nI n), .int (nI dn), .int (nI 0), .int (nI wn), .ref m5, .ref m6, .ref m7, .ref m8, .ref m9, .ref m10, .ref m11])), (m5, .inl (cI, 40, .inl (fun j => nI (z j)))), (m6, .inl (cI, 210, .inl (upd (fun j => nI (w2 j)) (nI i).toNatClampNeg (nI 255)))), (m9, .inl (cB, 8000, .inl (fun j => sb_b (g j)))), (m11, .inl (cB, 200, .inl (fun j => sb_b (by9 j))))] := hD
                    obtain ⟨f140, e140⟩ : ∃ zz9 : Nat → Int32, zz9 = upd (fun j => nI (w2 j)) (nI i).toNatClampNeg (nI 255) := ⟨_, rfl⟩
                    rw [← e140] at hP hD
                    obtain rfl : f140 = fun j => nI (va_up w2 i 255 j) := e140.trans (upg (by omega))
                    obtain ⟨x141, e141⟩ : ∃ zz9 : Int32, zz9 = (nI i) + 1 := ⟨_, rfl⟩
                    refine lv_iinc (v := x141) (lv' := [(3, .int x141), (0, .ref mx), (1, .int (nI bn))]) hx hb dX4_contents_141 hl (k := 2) rfl (by rw [e141]; rfl) (by decide) rfl (fun ls hl => ?_)
                    obtain rfl : x141 = nI (i + 1) := e141.trans (nI_1 i)
                    refine lv_goto (tgt := 90) hx hb dX4_contents_144 (by decide) ?_
                    exact ih90 (i + 1) (va_up w2 i 255) (by omega) (by omega) (up_lt hw2 (by decide)) (ct_lo2 hge2 hlo) (ct_hi2 (by rw [if_pos (Nat.le_of_not_lt (fun y => c130 ((sb_ge _ (hby 0)).mpr y)))]) hhi) _ _ _ (hP.sub [0, 1, 2, 3, 4] rfl) (hD.sub [0, 1, 2, 3, 4] (by decide) rfl) hS (lv_sub hl [1, 2, 0] rfl)
                · have hlt2 : i < bn := Nat.lt_of_not_le (fun h => c104 (nI_le h (by omega)))
                  refine lv_aload_n hx hb dX4_contents_107 rfl (lv_at hl 0 rfl) ?_
                  refine va_get (D := (dC, dI)) (ci := 4) (v := .ref m11) (C := RX4) (T := TX4) (N := 12) hx hb hts hinX4 hown hK hP 0 rfl rfl 11 (by decide) (hts (.fieldLink RX4 29 "NumberContentsModel" "bytes" "[B") (by decide +kernel)) (fun _ h9 => h9) rfl dX4_contents_108 ?_
                  refine lv_iload_n hx hb dX4_contents_111 rfl (lv_at hl 1 rfl) ?_
                  refine lv_iconst (v := 1) hx hb dX4_contents_112 (by decide) ?_
                  refine lv_isub hx hb dX4_contents_113 ?_
                  refine lv_topi (fun x113 e113 => ?_)
                  obtain rfl : x113 = nI (bn - 1) := e113.trans (nI_m1 (by omega))
                  refine lv_iload_n hx hb dX4_contents_114 rfl (lv_at hl 2 rfl) ?_
                  refine lv_isub hx hb dX4_contents_115 ?_
                  refine lv_topi (fun x115 e115 => ?_)
                  obtain rfl : x115 = nI (bn - 1 - i) := e115.trans (pk_sub (by omega))
                  refine va_bald hx hb hK hP 4 1 rfl rfl (vp_in_nI (by omega) (by omega)) dX4_contents_116 ?_
                  refine lv_topi (fun x116 e116 => ?_)
                  obtain rfl : x116 = sb_b (by9 (bn - 1 - i)) := e116.trans (atsb (by omega))
                  refine lv_sipush (v := 255) hx hb dX4_contents_117 (by decide) ?_
                  refine lv_iand hx hb dX4_contents_120 ?_
                  refine lv_topi (fun x120 e120 => ?_)
                  obtain rfl : x120 = nI (by9 (bn - 1 - i)) := e120.trans (sb_and (hby _))
                  refine lv_goto (tgt := 140) hx hb dX4_contents_121 (by decide) ?_
                  refine va_iast hx hb hK hP hD hS 2 0 rfl rfl (vp_in_nI (by omega) (by omega)) dX4_contents_140 (fun H locs hP hD hS => ?_)
                  have hP : va_P (dC, dI) vwCl [(mx, .inr (4, [.int 0, .int (nI n), .int (nI dn), .int (nI 0), .int (nI wn), .ref m5, .ref m6, .ref m7, .ref m8, .ref m9, .ref m10, .ref m11])), (m5, .inl (cI, 40, .inl (fun j => nI (z j)))), (m6, .inl (cI, 210, .inl (upd (fun j => nI (w2 j)) (nI i).toNatClampNeg (nI (by9 (bn - 1 - i)))))), (m9, .inl (cB, 8000, .inl (fun j => sb_b (g j)))), (m11, .inl (cB, 200, .inl (fun j => sb_b (by9 j))))] H := hP
                  have hD : va_D A [(mx, .inr (4, [.int 0, .int (nI n), .int (nI dn), .int (nI 0), .int (nI wn), .ref m5, .ref m6, .ref m7, .ref m8, .ref m9, .ref m10, .ref m11])), (m5, .inl (cI, 40, .inl (fun j => nI (z j)))), (m6, .inl (cI, 210, .inl (upd (fun j => nI (w2 j)) (nI i).toNatClampNeg (nI (by9 (bn - 1 - i)))))), (m9, .inl (cB, 8000, .inl (fun j => sb_b (g j)))), (m11, .inl (cB, 200, .inl (fun j => sb_b (by9 j))))] := hD
                  obtain ⟨f140, e140⟩ : ∃ zz9 : Nat → Int32, zz9 = upd (fun j => nI (w2 j)) (nI i).toNatClampNeg (nI (by9 (bn - 1 - i))) := ⟨_, rfl⟩
                  rw [← e140] at hP hD
                  obtain rfl : f140 = fun j => nI (va_up w2 i (by9 (bn - 1 - i)) j) := e140.trans (upg (by omega))
                  obtain ⟨x141, e141⟩ : ∃ zz9 : Int32, zz9 = (nI i) + 1 := ⟨_, rfl⟩
                  refine lv_iinc (v := x141) (lv' := [(3, .int x141), (0, .ref mx), (1, .int (nI bn))]) hx hb dX4_contents_141 hl (k := 2) rfl (by rw [e141]; rfl) (by decide) rfl (fun ls hl => ?_)
                  obtain rfl : x141 = nI (i + 1) := e141.trans (nI_1 i)
                  refine lv_goto (tgt := 90) hx hb dX4_contents_144 (by decide) ?_
                  exact ih90 (i + 1) (va_up w2 i (by9 (bn - 1 - i))) (by omega) (by omega) (up_lt hw2 (hby _)) (ct_lo hlo) (fl_hi hlt2 hhi) _ _ _ (hP.sub [0, 1, 2, 3, 4] rfl) (hD.sub [0, 1, 2, 3, 4] (by decide) rfl) hS (lv_sub hl [1, 2, 0] rfl)
          exact LP90 _ 0 rw (Nat.lt_succ_self _) (by omega) hrw (fun j h => absurd h (by omega)) (fun j h => absurd h (by omega)) _ _ _ (hP.sub [0, 1, 2, 3, 4] rfl) (hD.sub [0, 1, 2, 3, 4] (by decide) rfl) hS (lv_sub hl [3, 2, 0] rfl)
        · first | exact absurd c83 (by decide) | exact (c83 (by decide)).elim
      · first | exact absurd c68 (by decide) | exact (c68 (by decide)).elim
    · refine lv_iconst (v := 1) hx hb dX4_contents_63 (by decide) ?_
      refine lv_goto (tgt := 76) hx hb dX4_contents_64 (by decide) ?_
      refine va_put (D := (dC, dI)) (ci := 4) (v := .int 1) (ty := .int) (C := RX4) (T := TX4) (N := 12) hx hb hts hinX4 tyX4 tyX4_ok nmX4 hown hK hP hD hS 0 rfl rfl 0 (by decide) (hts (.fieldLink RX4 32 "NumberContentsModel" "thrown" "I") (by decide +kernel)) (fun _ h9 => h9) rfl (by decide +kernel) rfl rfl (Nat.le_of_ble_eq_true rfl) dX4_contents_76 (fun H locs hP hD hS => ?_)
      have hP : va_P (dC, dI) vwCl [(mx, .inr (4, [.int 1, .int (nI n), .int (nI dn), .int (nI 0), .int (nI wn), .ref m5, .ref m6, .ref m7, .ref m8, .ref m9, .ref m10, .ref m11])), (m5, .inl (cI, 40, .inl (fun j => nI (z j)))), (m6, .inl (cI, 210, .inl (fun j => nI (rw j)))), (m9, .inl (cB, 8000, .inl (fun j => sb_b (g j)))), (m11, .inl (cB, 200, .inl (fun j => sb_b (by9 j))))] H := hP
      have hD : va_D A [(mx, .inr (4, [.int 1, .int (nI n), .int (nI dn), .int (nI 0), .int (nI wn), .ref m5, .ref m6, .ref m7, .ref m8, .ref m9, .ref m10, .ref m11])), (m5, .inl (cI, 40, .inl (fun j => nI (z j)))), (m6, .inl (cI, 210, .inl (fun j => nI (rw j)))), (m9, .inl (cB, 8000, .inl (fun j => sb_b (g j)))), (m11, .inl (cB, 200, .inl (fun j => sb_b (by9 j))))] := hD
      refine lv_aload_n hx hb dX4_contents_79 rfl (lv_at hl 2 rfl) ?_
      refine va_get (D := (dC, dI)) (ci := 4) (v := .int 1) (C := RX4) (T := TX4) (N := 12) hx hb hts hinX4 hown hK hP 0 rfl rfl 0 (by decide) (hts (.fieldLink RX4 32 "NumberContentsModel" "thrown" "I") (by decide +kernel)) (fun _ h9 => h9) rfl dX4_contents_80 ?_
      refine lv_if_le (tgt := 88) hx hb dX4_contents_83 (by decide) (fun c83 => ?_) (fun c83 => ?_)
      · first | exact absurd c83 (by decide) | exact (c83 (by decide)).elim
      · refine lv_iconst (v := 0) hx hb dX4_contents_86 (by decide) ?_
        have hP9 := hP.sub (ws' := [(mx, .inr (4, [.int 1, .int (nI n), .int (nI dn), .int (nI 0), .int (nI wn), .ref m5, .ref m6, .ref m7, .ref m8, .ref m9, .ref m10, .ref m11])), (m5, .inl (cI, 40, .inl (fun j => nI (z j)))), (m6, .inl (cI, 210, .inl (fun j => nI (rw j)))), (m9, .inl (cB, 8000, .inl (fun j => sb_b (g j)))), (m11, .inl (cB, 200, .inl (fun j => sb_b (by9 j))))]) [0, 1, 2, 3, 4] rfl
        have hD9 := hD.sub (ws' := [(mx, .inr (4, [.int 1, .int (nI n), .int (nI dn), .int (nI 0), .int (nI wn), .ref m5, .ref m6, .ref m7, .ref m8, .ref m9, .ref m10, .ref m11])), (m5, .inl (cI, 40, .inl (fun j => nI (z j)))), (m6, .inl (cI, 210, .inl (fun j => nI (rw j)))), (m9, .inl (cB, 8000, .inl (fun j => sb_b (g j)))), (m11, .inl (cB, 200, .inl (fun j => sb_b (by9 j))))]) [0, 1, 2, 3, 4] (by decide) rfl
        have hK9 := hK.sub (tys' := [(cI, .int), (cB, .byte)]) [0, 1] rfl
        exact W.iret (v := 0) hx hb hr (fun tS htS hW => ⟨⟨0, (1, n, g, z, rw), rfl, (by first | exact ⟨hrw, Or.inr (Or.inl ⟨rfl, rfl, rfl, rfl, hbn1, fw_no hby hfn.1 hfn.2⟩)⟩ | exact ⟨hrw, Or.inl ⟨rfl, rfl, rfl, rfl, (nI_eq (b := 0) (by omega) (by omega)).mp c60⟩⟩), by rw [htS]; exact hP9, va_K.moved hW.alike hK9, hD9⟩, hS.F htS⟩) hS.2.2 dX4_contents_87
  · refine lv_aload_n hx hb dX4_contents_15 rfl (lv_at hl 1 rfl) ?_
    refine va_get (D := (dC, dI)) (ci := 4) (v := .ref m11) (C := RX4) (T := TX4) (N := 12) hx hb hts hinX4 hown hK hP 0 rfl rfl 11 (by decide) (hts (.fieldLink RX4 29 "NumberContentsModel" "bytes" "[B") (by decide +kernel)) (fun _ h9 => h9) rfl dX4_contents_16 ?_
    refine lv_iconst (v := (nI 0)) hx hb dX4_contents_19 (by decide) ?_
    refine va_bald hx hb hK hP 4 1 rfl rfl (vp_in_nI (by omega) (by omega)) dX4_contents_20 ?_
    refine lv_topi (fun x20 e20 => ?_)
    obtain rfl : x20 = sb_b (by9 0) := e20.trans (atsb (k := 0) (by omega))
    refine lv_if_ne (tgt := 33) hx hb dX4_contents_21 (by decide) (fun c21 => ?_) (fun c21 => ?_)
    · refine lv_aload_n hx hb dX4_contents_33 rfl (lv_at hl 1 rfl) ?_
      refine va_get (D := (dC, dI)) (ci := 4) (v := .ref m11) (C := RX4) (T := TX4) (N := 12) hx hb hts hinX4 hown hK hP 0 rfl rfl 11 (by decide) (hts (.fieldLink RX4 29 "NumberContentsModel" "bytes" "[B") (by decide +kernel)) (fun _ h9 => h9) rfl dX4_contents_34 ?_
      refine lv_iconst (v := (nI 0)) hx hb dX4_contents_37 (by decide) ?_
      refine va_bald hx hb hK hP 4 1 rfl rfl (vp_in_nI (by omega) (by omega)) dX4_contents_38 ?_
      refine lv_topi (fun x38 e38 => ?_)
      obtain rfl : x38 = sb_b (by9 0) := e38.trans (atsb (k := 0) (by omega))
      refine lv_iconst (v := (-1)) hx hb dX4_contents_39 (by decide) ?_
      refine lv_icmp_ne (tgt := 52) hx hb dX4_contents_40 (by decide) (fun c40 => ?_) (fun c40 => ?_)
      · have hfy : bn < 2 ∨ ¬ ((by9 0 = 0 ∧ by9 1 < 128) ∨ (by9 0 = 255 ∧ 128 ≤ by9 1)) := (by first | exact Or.inl ((nI_ltI (by omega) (by omega)).mp c12) | exact Or.inr (fun y => y.elim (fun y => by first | exact c21 ((sb_0 (hby 0)).mpr y.1) | exact c30 ((sb_ge _ (hby 1)).mpr y.2)) (fun y => by first | exact c40 ((sb_m (hby 0)).mpr y.1) | exact c49 ((sb_lt0 _ (hby 1)).mpr y.2))))
        refine lv_iconst (v := 1) hx hb dX4_contents_52 (by decide) ?_
        refine lv_goto (tgt := 57) hx hb dX4_contents_53 (by decide) ?_
        refine lv_istore_n (lv' := [(2, .int 1), (1, .int (nI bn)), (0, .ref mx)]) hx hb dX4_contents_57 rfl hl (by decide) rfl (fun ls hl => ?_)
        refine lv_aload_n hx hb dX4_contents_58 rfl (lv_at hl 2 rfl) ?_
        refine lv_iload_n hx hb dX4_contents_59 rfl (lv_at hl 1 rfl) ?_
        refine lv_if_ne (tgt := 67) hx hb dX4_contents_60 (by decide) (fun c60 => ?_) (fun c60 => ?_)
        · have hbn1 : 1 ≤ bn := Nat.pos_of_ne_zero (fun y => c60 (by rw [y]; rfl))
          refine lv_iload_n hx hb dX4_contents_67 rfl (lv_at hl 0 rfl) ?_
          refine lv_if_ne (tgt := 75) hx hb dX4_contents_68 (by decide) (fun c68 => ?_) (fun c68 => ?_)
          · refine lv_iconst (v := 0) hx hb dX4_contents_75 (by decide) ?_
            refine va_put (D := (dC, dI)) (ci := 4) (v := .int 0) (ty := .int) (C := RX4) (T := TX4) (N := 12) hx hb hts hinX4 tyX4 tyX4_ok nmX4 hown hK hP hD hS 0 rfl rfl 0 (by decide) (hts (.fieldLink RX4 32 "NumberContentsModel" "thrown" "I") (by decide +kernel)) (fun _ h9 => h9) rfl (by decide +kernel) rfl rfl (Nat.le_of_ble_eq_true rfl) dX4_contents_76 (fun H locs hP hD hS => ?_)
            have hP : va_P (dC, dI) vwCl [(mx, .inr (4, [.int 0, .int (nI n), .int (nI dn), .int (nI 0), .int (nI wn), .ref m5, .ref m6, .ref m7, .ref m8, .ref m9, .ref m10, .ref m11])), (m5, .inl (cI, 40, .inl (fun j => nI (z j)))), (m6, .inl (cI, 210, .inl (fun j => nI (rw j)))), (m9, .inl (cB, 8000, .inl (fun j => sb_b (g j)))), (m11, .inl (cB, 200, .inl (fun j => sb_b (by9 j))))] H := hP
            have hD : va_D A [(mx, .inr (4, [.int 0, .int (nI n), .int (nI dn), .int (nI 0), .int (nI wn), .ref m5, .ref m6, .ref m7, .ref m8, .ref m9, .ref m10, .ref m11])), (m5, .inl (cI, 40, .inl (fun j => nI (z j)))), (m6, .inl (cI, 210, .inl (fun j => nI (rw j)))), (m9, .inl (cB, 8000, .inl (fun j => sb_b (g j)))), (m11, .inl (cB, 200, .inl (fun j => sb_b (by9 j))))] := hD
            refine lv_aload_n hx hb dX4_contents_79 rfl (lv_at hl 2 rfl) ?_
            refine va_get (D := (dC, dI)) (ci := 4) (v := .int 0) (C := RX4) (T := TX4) (N := 12) hx hb hts hinX4 hown hK hP 0 rfl rfl 0 (by decide) (hts (.fieldLink RX4 32 "NumberContentsModel" "thrown" "I") (by decide +kernel)) (fun _ h9 => h9) rfl dX4_contents_80 ?_
            refine lv_if_le (tgt := 88) hx hb dX4_contents_83 (by decide) (fun c83 => ?_) (fun c83 => ?_)
            · have hisz := fw_yes hby hbn1 hfy
              refine lv_iconst (v := (nI 0)) hx hb dX4_contents_88 (by decide) ?_
              refine lv_istore_n (lv' := [(3, .int (nI 0)), (2, .int 1), (1, .int (nI bn)), (0, .ref mx)]) hx hb dX4_contents_89 rfl hl (by decide) rfl (fun ls hl => ?_)
              have LP90 : ∀ (n9 : Nat) (i : Nat) (w2 : Nat → Nat) (hm : (210 - i) < n9) (hi : i ≤ 210) (hw2 : ∀ j, w2 j < 256) (hlo : ∀ j, j < i → j < bn → w2 j = by9 (bn - 1 - j)) (hhi : ∀ j, j < i → bn ≤ j → w2 j = (if 128 ≤ by9 0 then 255 else 0)) (H : Heap) (locs : List Loc) (ls : Array Slot) (hP : va_P (dC, dI) vwCl [(mx, .inr (4, [.int 0, .int (nI n), .int (nI dn), .int (nI 0), .int (nI wn), .ref m5, .ref m6, .ref m7, .ref m8, .ref m9, .ref m10, .ref m11])), (m5, .inl (cI, 40, .inl (fun j => nI (z j)))), (m6, .inl (cI, 210, .inl (fun j => nI (w2 j)))), (m9, .inl (cB, 8000, .inl (fun j => sb_b (g j)))), (m11, .inl (cB, 200, .inl (fun j => sb_b (by9 j))))] H) (hD : va_D A [(mx, .inr (4, [.int 0, .int (nI n), .int (nI dn), .int (nI 0), .int (nI wn), .ref m5, .ref m6, .ref m7, .ref m8, .ref m9, .ref m10, .ref m11])), (m5, .inl (cI, 40, .inl (fun j => nI (z j)))), (m6, .inl (cI, 210, .inl (fun j => nI (w2 j)))), (m9, .inl (cB, 8000, .inl (fun j => sb_b (g j)))), (m11, .inl (cB, 200, .inl (fun j => sb_b (by9 j))))]) (hS : va_S A s.heap H locs) (hl : lv_has ls 4 [(0, .ref mx), (1, .int (nI bn)), (3, .int (nI i))]), W p l e (headSpec wsX4_contents ({ frames := 3, cells := 0, slots := 0, locals := 66 } : Room)).room s m ([.ref mx]).toArray below meth c H locs 0 0 (MQ below (va_Qi (fun (r : Int32) (uS : Int32 × Nat × (Nat → Nat) × (Nat → Nat) × (Nat → Nat)) => match uS with | (th3, n3, g3, z3, rw3) => (∀ j, rw3 j < 256) ∧ ((th3 = 1 ∧ n3 = n ∧ g3 = g ∧ z3 = z ∧ bn = 0) ∨ (th3 = 2 ∧ n3 = n ∧ g3 = g ∧ z3 = z ∧ 1 ≤ bn ∧ ¬ isz (sv (fun j => by9 (bn - 1 - j)) bn) bn) ∨ (th3 = 0 ∧ n3 = n + 1 ∧ 1 ≤ bn ∧ isz (sv (fun j => by9 (bn - 1 - j)) bn) bn ∧ KEPTM n g z g3 z3 (sv (fun j => by9 (bn - 1 - j)) bn) r) ∨ (th3 = 3 ∧ n3 = n ∧ g3 = g ∧ z3 = z ∧ 1 ≤ bn ∧ isz (sv (fun j => by9 (bn - 1 - j)) bn) bn ∧ NOKEEP n (sv (fun j => by9 (bn - 1 - j)) bn)))) (fun (uS : Int32 × Nat × (Nat → Nat) × (Nat → Nat) × (Nat → Nat)) (tS : State) => match uS with | (th3, n3, g3, z3, rw3) => va_P (dC, dI) vwCl [(mx, .inr (4, [.int th3, .int (nI n3), .int (nI dn), .int (nI 0), .int (nI wn), .ref m5, .ref m6, .ref m7, .ref m8, .ref m9, .ref m10, .ref m11])), (m5, .inl (cI, 40, .inl (fun j => nI (z3 j)))), (m6, .inl (cI, 210, .inl (fun j => nI (rw3 j)))), (m9, .inl (cB, 8000, .inl (fun j => sb_b (g3 j)))), (m11, .inl (cB, 200, .inl (fun j => sb_b (by9 j))))] tS.heap ∧ va_K (dC, dI) vwCl [(cI, .int), (cB, .byte)] tS ∧ va_D A [(mx, .inr (4, [.int th3, .int (nI n3), .int (nI dn), .int (nI 0), .int (nI wn), .ref m5, .ref m6, .ref m7, .ref m8, .ref m9, .ref m10, .ref m11])), (m5, .inl (cI, 40, .inl (fun j => nI (z3 j)))), (m6, .inl (cI, 210, .inl (fun j => nI (rw3 j)))), (m9, .inl (cB, 8000, .inl (fun j => sb_b (g3 j)))), (m11, .inl (cB, 200, .inl (fun j => sb_b (by9 j))))]) A) ([.ref mx]).toArray s 0 0 A) (F0 m 90 ls []) := by
                intro n9
                induction n9 with
                | zero => intro i w2 hm; exact absurd hm (Nat.not_lt_zero _)
                | succ n9 ih =>
                  intro i w2 hm hi hw2 hlo hhi H locs ls hP hD hS hl
                  have ih90 := ih
                  refine lv_iload_n hx hb dX4_contents_90 rfl (lv_at hl 2 rfl) ?_
                  refine lv_sipush (v := (nI 210)) hx hb dX4_contents_91 (by decide) ?_
                  refine lv_icmp_ge (tgt := 147) hx hb dX4_contents_94 (by decide) (fun c94 => ?_) (fun c94 => ?_)
                  · obtain rfl : i = 210 := Nat.le_antisymm hi ((nI_leI (by omega) (by omega)).mp c94)
                    have hZK : sv w2 210 = sv (fun j => by9 (bn - 1 - j)) bn := ext_sv (r := fun j => by9 (bn - 1 - j)) (fl := if 128 ≤ by9 0 then 255 else 0) hbn1 (by omega) (by show _ ∧ 128 ≤ by9 (bn - 1 - (bn - 1)) ∨ _ ∧ by9 (bn - 1 - (bn - 1)) < 128; rw [Nat.sub_self]; by_cases y : 128 ≤ by9 0; exact Or.inl ⟨if_pos y, y⟩; exact Or.inr ⟨if_neg y, by omega⟩) (fun j hj => hlo j (by omega) hj) (fun j h1 h2 => hhi j h2 h1)
                    refine lv_aload_n hx hb dX4_contents_147 rfl (lv_at hl 0 rfl) ?_
                    refine lv_iconst (v := 3) hx hb dX4_contents_148 (by decide) ?_
                    have hPc := hP.sub (ws' := [(mx, .inr (4, [.int 0, .int (nI n), .int (nI dn), .int (nI 0), .int (nI wn), .ref m5, .ref m6, .ref m7, .ref m8, .ref m9, .ref m10, .ref m11])), (m5, .inl (cI, 40, .inl (fun j => nI (z j)))), (m6, .inl (cI, 210, .inl (fun j => nI (w2 j)))), (m9, .inl (cB, 8000, .inl (fun j => sb_b (g j))))]) [0, 1, 2, 3] rfl
                    have hKc := hK.sub (tys' := [(cI, .int), (cB, .byte)]) [0, 1] rfl
                    have hDc := hD.sub (ws' := [(mx, .inr (4, [.int 0, .int (nI n), .int (nI dn), .int (nI 0), .int (nI wn), .ref m5, .ref m6, .ref m7, .ref m8, .ref m9, .ref m10, .ref m11])), (m5, .inl (cI, 40, .inl (fun j => nI (z j)))), (m6, .inl (cI, 210, .inl (fun j => nI (w2 j)))), (m9, .inl (cB, 8000, .inl (fun j => sb_b (g j))))]) [0, 1, 2, 3] (by decide) rfl
                    have hFc := va_free (wc := [(mx, .inr (4, [.int 0, .int (nI n), .int (nI dn), .int (nI 0), .int (nI wn), .ref m5, .ref m6, .ref m7, .ref m8, .ref m9, .ref m10, .ref m11])), (m5, .inl (cI, 40, .inl (fun j => nI (z j)))), (m6, .inl (cI, 210, .inl (fun j => nI (w2 j)))), (m9, .inl (cB, 8000, .inl (fun j => sb_b (g j))))]) hD hS hA [0, 1, 2, 3] rfl
                    refine va_calli (va_runV (As := [.int 3]) (rest := []) ⟨hx, hb, hml, hown, hts⟩ (c_X4_keep l dC dI cI cB mx m5 m6 m7 m8 m9 m10 m11 n dn 0 wn 0 g z w2 3 H.size hI hw2 (Or.inr rfl)) (cwV 1 hts gX4_contents_X4_keep rfl rfl rfl (by decide +kernel) ⟨Nat.le_of_ble_eq_true rfl, Nat.le_of_ble_eq_true rfl⟩) ⟨fun a U g mk q => by obtain ⟨q0, q1, qP, qK, qD⟩ := q; exact ⟨q0, q1, qP, va_K.moved (u := U) (U := U.calling g mk a) (Vm.Alike.refl U.vm) qK, qD⟩, va_recv hKc hPc (ci := 4) (q0 := 0) rfl rfl, fun U hU hW => ⟨rfl, by rw [hU], by rw [hU]; exact hPc, va_K.moved hW.alike hKc, hDc.weaken (fun _ _ _ _ => trivial)⟩⟩ rfl rfl hl.1 rfl (lv_room (Nat.le_of_ble_eq_true rfl)) dX4_contents_149 ⟨Nat.le_of_ble_eq_true rfl, Nat.le_of_ble_eq_true rfl⟩) hS (fun q _ h => hFc q h) hFc (fun r149 uS tS H1 locs htS hvm h149 hB hzS hkS hS => ?_)
                    obtain ⟨th3_149, n3_149, g3_149, z3_149⟩ := uS
                    obtain ⟨hP1, hK1, hD1⟩ := hB
                    rw [htS] at hP1
                    have hK1 := va_K.moved hvm.symm hK1
                    try dsimp only at h149
                    obtain ⟨hP, hD⟩ := va_join (wr := [(m11, .inl (cB, 200, .inl (fun j => sb_b (by9 j))))]) (w1 := [(mx, .inr (4, [.int th3_149, .int (nI n3_149), .int (nI dn), .int (nI 0), .int (nI wn), .ref m5, .ref m6, .ref m7, .ref m8, .ref m9, .ref m10, .ref m11])), (m5, .inl (cI, 40, .inl (fun j => nI (z3_149 j)))), (m6, .inl (cI, 210, .inl (fun j => nI (w2 j)))), (m9, .inl (cB, 8000, .inl (fun j => sb_b (g3_149 j))))]) hP hD [0, 1, 2, 3] [4] rfl rfl (by decide) (by decide) hkS hFc hP1 hD1
                    generalize H1 = H at hP hS ⊢
                    have hP : va_P (dC, dI) vwCl [(m11, .inl (cB, 200, .inl (fun j => sb_b (by9 j)))), (mx, .inr (4, [.int th3_149, .int (nI n3_149), .int (nI dn), .int (nI 0), .int (nI wn), .ref m5, .ref m6, .ref m7, .ref m8, .ref m9, .ref m10, .ref m11])), (m5, .inl (cI, 40, .inl (fun j => nI (z3_149 j)))), (m6, .inl (cI, 210, .inl (fun j => nI (w2 j)))), (m9, .inl (cB, 8000, .inl (fun j => sb_b (g3_149 j))))] H := hP
                    have hD : va_D A [(m11, .inl (cB, 200, .inl (fun j => sb_b (by9 j)))), (mx, .inr (4, [.int th3_149, .int (nI n3_149), .int (nI dn), .int (nI 0), .int (nI wn), .ref m5, .ref m6, .ref m7, .ref m8, .ref m9, .ref m10, .ref m11])), (m5, .inl (cI, 40, .inl (fun j => nI (z3_149 j)))), (m6, .inl (cI, 210, .inl (fun j => nI (w2 j)))), (m9, .inl (cB, 8000, .inl (fun j => sb_b (g3_149 j))))] := hD
                    rw [hZK] at h149
                    have hP9 := hP.sub (ws' := [(mx, .inr (4, [.int th3_149, .int (nI n3_149), .int (nI dn), .int (nI 0), .int (nI wn), .ref m5, .ref m6, .ref m7, .ref m8, .ref m9, .ref m10, .ref m11])), (m5, .inl (cI, 40, .inl (fun j => nI (z3_149 j)))), (m6, .inl (cI, 210, .inl (fun j => nI (w2 j)))), (m9, .inl (cB, 8000, .inl (fun j => sb_b (g3_149 j)))), (m11, .inl (cB, 200, .inl (fun j => sb_b (by9 j))))]) [1, 2, 3, 4, 0] rfl
                    have hD9 := hD.sub (ws' := [(mx, .inr (4, [.int th3_149, .int (nI n3_149), .int (nI dn), .int (nI 0), .int (nI wn), .ref m5, .ref m6, .ref m7, .ref m8, .ref m9, .ref m10, .ref m11])), (m5, .inl (cI, 40, .inl (fun j => nI (z3_149 j)))), (m6, .inl (cI, 210, .inl (fun j => nI (w2 j)))), (m9, .inl (cB, 8000, .inl (fun j => sb_b (g3_149 j)))), (m11, .inl (cB, 200, .inl (fun j => sb_b (by9 j))))]) [1, 2, 3, 4, 0] (by decide) rfl
                    have hK9 := hK.sub (tys' := [(cI, .int), (cB, .byte)]) [0, 1] rfl
                    exact W.iret (v := r149) hx hb hr (fun tS htS hW => ⟨⟨r149, (th3_149, n3_149, g3_149, z3_149, w2), rfl, ⟨hw2, Or.inr (Or.inr (h149.elim (fun y => Or.inl ⟨y.1, y.2.1, hbn1, hisz, y.2.2⟩) (fun y => Or.inr ⟨y.1, y.2.1, y.2.2.1, y.2.2.2.1, hbn1, hisz, y.2.2.2.2⟩)))⟩, by rw [htS]; exact hP9, va_K.moved hW.alike hK9, hD9⟩, hS.F htS⟩) hS.2.2 dX4_contents_152
                  · have hlt : i < 210 := Nat.lt_of_not_le (fun h => c94 (nI_le h (by omega)))
                    refine lv_aload_n hx hb dX4_contents_97 rfl (lv_at hl 0 rfl) ?_
                    refine va_get (D := (dC, dI)) (ci := 4) (v := .ref m6) (C := RX4) (T := TX4) (N := 12) hx hb hts hinX4 hown hK hP 0 rfl rfl 6 (by decide) (hts (.fieldLink RX4 13 "NumberContentsModel" "row" "[I") (by decide +kernel)) (fun _ h9 => h9) rfl dX4_contents_98 ?_
                    refine lv_iload_n hx hb dX4_contents_101 rfl (lv_at hl 2 rfl) ?_
                    refine lv_iload_n hx hb dX4_contents_102 rfl (lv_at hl 2 rfl) ?_
                    refine lv_iload_n hx hb dX4_contents_103 rfl (lv_at hl 1 rfl) ?_
                    refine lv_icmp_ge (tgt := 124) hx hb dX4_contents_104 (by decide) (fun c104 => ?_) (fun c104 => ?_)
                    · have hge2 : bn ≤ i := (nI_leI (by omega) (by omega)).mp c104
                      refine lv_aload_n hx hb dX4_contents_124 rfl (lv_at hl 0 rfl) ?_
                      refine va_get (D := (dC, dI)) (ci := 4) (v := .ref m11) (C := RX4) (T := TX4) (N := 12) hx hb hts hinX4 hown hK hP 0 rfl rfl 11 (by decide) (hts (.fieldLink RX4 29 "NumberContentsModel" "bytes" "[B") (by decide +kernel)) (fun _ h9 => h9) rfl dX4_contents_125 ?_
                      refine lv_iconst (v := (nI 0)) hx hb dX4_contents_128 (by decide) ?_
                      refine va_bald hx hb hK hP 4 1 rfl rfl (vp_in_nI (by omega) (by omega)) dX4_contents_129 ?_
                      refine lv_topi (fun x129 e129 => ?_)
                      obtain rfl : x129 = sb_b (by9 0) := e129.trans (atsb (k := 0) (by omega))
                      refine lv_if_ge (tgt := 139) hx hb dX4_contents_130 (by decide) (fun c130 => ?_) (fun c130 => ?_)
                      · refine lv_iconst (v := (nI 0)) hx hb dX4_contents_139 (by decide) ?_
                        refine va_iast hx hb hK hP hD hS 2 0 rfl rfl (vp_in_nI (by omega) (by omega)) dX4_contents_140 (fun H locs hP hD hS => ?_)
                        have hP : va_P (dC, dI) vwCl [(mx, .inr (4, [.int 0, .int (nI n), .int (nI dn), .int (nI 0), .int (nI wn), .ref m5, .ref m6, .ref m7, .ref m8, .ref m9, .ref m10, .ref m11])), (m5, .inl (cI, 40, .inl (fun j => nI (z j)))), (m6, .inl (cI, 210, .inl (upd (fun j => nI (w2 j)) (nI i).toNatClampNeg (nI 0)))), (m9, .inl (cB, 8000, .inl (fun j => sb_b (g j)))), (m11, .inl (cB, 200, .inl (fun j => sb_b (by9 j))))] H := hP
                        have hD : va_D A [(mx, .inr (4, [.int 0, .int (nI n), .int (nI dn), .int (nI 0), .int (nI wn), .ref m5, .ref m6, .ref m7, .ref m8, .ref m9, .ref m10, .ref m11])), (m5, .inl (cI, 40, .inl (fun j => nI (z j)))), (m6, .inl (cI, 210, .inl (upd (fun j => nI (w2 j)) (nI i).toNatClampNeg (nI 0)))), (m9, .inl (cB, 8000, .inl (fun j => sb_b (g j)))), (m11, .inl (cB, 200, .inl (fun j => sb_b (by9 j))))] := hD
                        obtain ⟨f140, e140⟩ : ∃ zz9 : Nat → Int32, zz9 = upd (fun j => nI (w2 j)) (nI i).toNatClampNeg (nI 0) := ⟨_, rfl⟩
                        rw [← e140] at hP hD
                        obtain rfl : f140 = fun j => nI (va_up w2 i 0 j) := e140.trans (upg (by omega))
                        obtain ⟨x141, e141⟩ : ∃ zz9 : Int32, zz9 = (nI i) + 1 := ⟨_, rfl⟩
                        refine lv_iinc (v := x141) (lv' := [(3, .int x141), (0, .ref mx), (1, .int (nI bn))]) hx hb dX4_contents_141 hl (k := 2) rfl (by rw [e141]; rfl) (by decide) rfl (fun ls hl => ?_)
                        obtain rfl : x141 = nI (i + 1) := e141.trans (nI_1 i)
                        refine lv_goto (tgt := 90) hx hb dX4_contents_144 (by decide) ?_
                        exact ih90 (i + 1) (va_up w2 i 0) (by omega) (by omega) (up_lt hw2 (by decide)) (ct_lo2 hge2 hlo) (ct_hi2 (by rw [if_neg (by have := (sb_ge _ (hby 0)).mp c130; omega)]) hhi) _ _ _ (hP.sub [0, 1, 2, 3, 4] rfl) (hD.sub [0, 1, 2, 3, 4] (by decide) rfl) hS (lv_sub hl [1, 2, 0] rfl)
                      · refine lv_sipush (v := (nI 255)) hx hb dX4_contents_133 (by decide) ?_
                        refine lv_goto (tgt := 140) hx hb dX4_contents_136 (by decide) ?_
                        refine va_iast hx hb hK hP hD hS 2 0 rfl rfl (vp_in_nI (by omega) (by omega)) dX4_contents_140 (fun H locs hP hD hS => ?_)
                        have hP : va_P (dC, dI) vwCl [(mx, .inr (4, [.int 0, .int (nI n), .int (nI dn), .int (nI 0), .int (nI wn), .ref m5, .ref m6, .ref m7, .ref m8, .ref m9, .ref m10, .ref m11])), (m5, .inl (cI, 40, .inl (fun j => nI (z j)))), (m6, .inl (cI, 210, .inl (upd (fun j => nI (w2 j)) (nI i).toNatClampNeg (nI 255)))), (m9, .inl (cB, 8000, .inl (fun j => sb_b (g j)))), (m11, .inl (cB, 200, .inl (fun j => sb_b (by9 j))))] H := hP
                        have hD : va_D A [(mx, .inr (4, [.int 0, .int (nI n), .int (nI dn), .int (nI 0), .int (nI wn), .ref m5, .ref m6, .ref m7, .ref m8, .ref m9, .ref m10, .ref m11])), (m5, .inl (cI, 40, .inl (fun j => nI (z j)))), (m6, .inl (cI, 210, .inl (upd (fun j => nI (w2 j)) (nI i).toNatClampNeg (nI 255)))), (m9, .inl (cB, 8000, .inl (fun j => sb_b (g j)))), (m11, .inl (cB, 200, .inl (fun j => sb_b (by9 j))))] := hD
                        obtain ⟨f140, e140⟩ : ∃ zz9 : Nat → Int32, zz9 = upd (fun j => nI (w2 j)) (nI i).toNatClampNeg (nI 255) := ⟨_, rfl⟩
                        rw [← e140] at hP hD
                        obtain rfl : f140 = fun j => nI (va_up w2 i 255 j) := e140.trans (upg (by omega))
                        obtain ⟨x141, e141⟩ : ∃ zz9 : Int32, zz9 = (nI i) + 1 := ⟨_, rfl⟩
                        refine lv_iinc (v := x141) (lv' := [(3, .int x141), (0, .ref mx), (1, .int (nI bn))]) hx hb dX4_contents_141 hl (k := 2) rfl (by rw [e141]; rfl) (by decide) rfl (fun ls hl => ?_)
                        obtain rfl : x141 = nI (i + 1) := e141.trans (nI_1 i)
                        refine lv_goto (tgt := 90) hx hb dX4_contents_144 (by decide) ?_
                        exact ih90 (i + 1) (va_up w2 i 255) (by omega) (by omega) (up_lt hw2 (by decide)) (ct_lo2 hge2 hlo) (ct_hi2 (by rw [if_pos (Nat.le_of_not_lt (fun y => c130 ((sb_ge _ (hby 0)).mpr y)))]) hhi) _ _ _ (hP.sub [0, 1, 2, 3, 4] rfl) (hD.sub [0, 1, 2, 3, 4] (by decide) rfl) hS (lv_sub hl [1, 2, 0] rfl)
                    · have hlt2 : i < bn := Nat.lt_of_not_le (fun h => c104 (nI_le h (by omega)))
                      refine lv_aload_n hx hb dX4_contents_107 rfl (lv_at hl 0 rfl) ?_
                      refine va_get (D := (dC, dI)) (ci := 4) (v := .ref m11) (C := RX4) (T := TX4) (N := 12) hx hb hts hinX4 hown hK hP 0 rfl rfl 11 (by decide) (hts (.fieldLink RX4 29 "NumberContentsModel" "bytes" "[B") (by decide +kernel)) (fun _ h9 => h9) rfl dX4_contents_108 ?_
                      refine lv_iload_n hx hb dX4_contents_111 rfl (lv_at hl 1 rfl) ?_
                      refine lv_iconst (v := 1) hx hb dX4_contents_112 (by decide) ?_
                      refine lv_isub hx hb dX4_contents_113 ?_
                      refine lv_topi (fun x113 e113 => ?_)
                      obtain rfl : x113 = nI (bn - 1) := e113.trans (nI_m1 (by omega))
                      refine lv_iload_n hx hb dX4_contents_114 rfl (lv_at hl 2 rfl) ?_
                      refine lv_isub hx hb dX4_contents_115 ?_
                      refine lv_topi (fun x115 e115 => ?_)
                      obtain rfl : x115 = nI (bn - 1 - i) := e115.trans (pk_sub (by omega))
                      refine va_bald hx hb hK hP 4 1 rfl rfl (vp_in_nI (by omega) (by omega)) dX4_contents_116 ?_
                      refine lv_topi (fun x116 e116 => ?_)
                      obtain rfl : x116 = sb_b (by9 (bn - 1 - i)) := e116.trans (atsb (by omega))
                      refine lv_sipush (v := 255) hx hb dX4_contents_117 (by decide) ?_
                      refine lv_iand hx hb dX4_contents_120 ?_
                      refine lv_topi (fun x120 e120 => ?_)
                      obtain rfl : x120 = nI (by9 (bn - 1 - i)) := e120.trans (sb_and (hby _))
                      refine lv_goto (tgt := 140) hx hb dX4_contents_121 (by decide) ?_
                      refine va_iast hx hb hK hP hD hS 2 0 rfl rfl (vp_in_nI (by omega) (by omega)) dX4_contents_140 (fun H locs hP hD hS => ?_)
                      have hP : va_P (dC, dI) vwCl [(mx, .inr (4, [.int 0, .int (nI n), .int (nI dn), .int (nI 0), .int (nI wn), .ref m5, .ref m6, .ref m7, .ref m8, .ref m9, .ref m10, .ref m11])), (m5, .inl (cI, 40, .inl (fun j => nI (z j)))), (m6, .inl (cI, 210, .inl (upd (fun j => nI (w2 j)) (nI i).toNatClampNeg (nI (by9 (bn - 1 - i)))))), (m9, .inl (cB, 8000, .inl (fun j => sb_b (g j)))), (m11, .inl (cB, 200, .inl (fun j => sb_b (by9 j))))] H := hP
                      have hD : va_D A [(mx, .inr (4, [.int 0, .int (nI n), .int (nI dn), .int (nI 0), .int (nI wn), .ref m5, .ref m6, .ref m7, .ref m8, .ref m9, .ref m10, .ref m11])), (m5, .inl (cI, 40, .inl (fun j => nI (z j)))), (m6, .inl (cI, 210, .inl (upd (fun j => nI (w2 j)) (nI i).toNatClampNeg (nI (by9 (bn - 1 - i)))))), (m9, .inl (cB, 8000, .inl (fun j => sb_b (g j)))), (m11, .inl (cB, 200, .inl (fun j => sb_b (by9 j))))] := hD
                      obtain ⟨f140, e140⟩ : ∃ zz9 : Nat → Int32, zz9 = upd (fun j => nI (w2 j)) (nI i).toNatClampNeg (nI (by9 (bn - 1 - i))) := ⟨_, rfl⟩
                      rw [← e140] at hP hD
                      obtain rfl : f140 = fun j => nI (va_up w2 i (by9 (bn - 1 - i)) j) := e140.trans (upg (by omega))
                      obtain ⟨x141, e141⟩ : ∃ zz9 : Int32, zz9 = (nI i) + 1 := ⟨_, rfl⟩
                      refine lv_iinc (v := x141) (lv' := [(3, .int x141), (0, .ref mx), (1, .int (nI bn))]) hx hb dX4_contents_141 hl (k := 2) rfl (by rw [e141]; rfl) (by decide) rfl (fun ls hl => ?_)
                      obtain rfl : x141 = nI (i + 1) := e141.trans (nI_1 i)
                      refine lv_goto (tgt := 90) hx hb dX4_contents_144 (by decide) ?_
                      exact ih90 (i + 1) (va_up w2 i (by9 (bn - 1 - i))) (by omega) (by omega) (up_lt hw2 (hby _)) (ct_lo hlo) (fl_hi hlt2 hhi) _ _ _ (hP.sub [0, 1, 2, 3, 4] rfl) (hD.sub [0, 1, 2, 3, 4] (by decide) rfl) hS (lv_sub hl [1, 2, 0] rfl)
              exact LP90 _ 0 rw (Nat.lt_succ_self _) (by omega) hrw (fun j h => absurd h (by omega)) (fun j h => absurd h (by omega)) _ _ _ (hP.sub [0, 1, 2, 3, 4] rfl) (hD.sub [0, 1, 2, 3, 4] (by decide) rfl) hS (lv_sub hl [3, 2, 0] rfl)
            · first | exact absurd c83 (by decide) | exact (c83 (by decide)).elim
          · first | exact absurd c68 (by decide) | exact (c68 (by decide)).elim
        · refine lv_iconst (v := 1) hx hb dX4_contents_63 (by decide) ?_
          refine lv_goto (tgt := 76) hx hb dX4_contents_64 (by decide) ?_
          refine va_put (D := (dC, dI)) (ci := 4) (v := .int 1) (ty := .int) (C := RX4) (T := TX4) (N := 12) hx hb hts hinX4 tyX4 tyX4_ok nmX4 hown hK hP hD hS 0 rfl rfl 0 (by decide) (hts (.fieldLink RX4 32 "NumberContentsModel" "thrown" "I") (by decide +kernel)) (fun _ h9 => h9) rfl (by decide +kernel) rfl rfl (Nat.le_of_ble_eq_true rfl) dX4_contents_76 (fun H locs hP hD hS => ?_)
          have hP : va_P (dC, dI) vwCl [(mx, .inr (4, [.int 1, .int (nI n), .int (nI dn), .int (nI 0), .int (nI wn), .ref m5, .ref m6, .ref m7, .ref m8, .ref m9, .ref m10, .ref m11])), (m5, .inl (cI, 40, .inl (fun j => nI (z j)))), (m6, .inl (cI, 210, .inl (fun j => nI (rw j)))), (m9, .inl (cB, 8000, .inl (fun j => sb_b (g j)))), (m11, .inl (cB, 200, .inl (fun j => sb_b (by9 j))))] H := hP
          have hD : va_D A [(mx, .inr (4, [.int 1, .int (nI n), .int (nI dn), .int (nI 0), .int (nI wn), .ref m5, .ref m6, .ref m7, .ref m8, .ref m9, .ref m10, .ref m11])), (m5, .inl (cI, 40, .inl (fun j => nI (z j)))), (m6, .inl (cI, 210, .inl (fun j => nI (rw j)))), (m9, .inl (cB, 8000, .inl (fun j => sb_b (g j)))), (m11, .inl (cB, 200, .inl (fun j => sb_b (by9 j))))] := hD
          refine lv_aload_n hx hb dX4_contents_79 rfl (lv_at hl 2 rfl) ?_
          refine va_get (D := (dC, dI)) (ci := 4) (v := .int 1) (C := RX4) (T := TX4) (N := 12) hx hb hts hinX4 hown hK hP 0 rfl rfl 0 (by decide) (hts (.fieldLink RX4 32 "NumberContentsModel" "thrown" "I") (by decide +kernel)) (fun _ h9 => h9) rfl dX4_contents_80 ?_
          refine lv_if_le (tgt := 88) hx hb dX4_contents_83 (by decide) (fun c83 => ?_) (fun c83 => ?_)
          · first | exact absurd c83 (by decide) | exact (c83 (by decide)).elim
          · refine lv_iconst (v := 0) hx hb dX4_contents_86 (by decide) ?_
            have hP9 := hP.sub (ws' := [(mx, .inr (4, [.int 1, .int (nI n), .int (nI dn), .int (nI 0), .int (nI wn), .ref m5, .ref m6, .ref m7, .ref m8, .ref m9, .ref m10, .ref m11])), (m5, .inl (cI, 40, .inl (fun j => nI (z j)))), (m6, .inl (cI, 210, .inl (fun j => nI (rw j)))), (m9, .inl (cB, 8000, .inl (fun j => sb_b (g j)))), (m11, .inl (cB, 200, .inl (fun j => sb_b (by9 j))))]) [0, 1, 2, 3, 4] rfl
            have hD9 := hD.sub (ws' := [(mx, .inr (4, [.int 1, .int (nI n), .int (nI dn), .int (nI 0), .int (nI wn), .ref m5, .ref m6, .ref m7, .ref m8, .ref m9, .ref m10, .ref m11])), (m5, .inl (cI, 40, .inl (fun j => nI (z j)))), (m6, .inl (cI, 210, .inl (fun j => nI (rw j)))), (m9, .inl (cB, 8000, .inl (fun j => sb_b (g j)))), (m11, .inl (cB, 200, .inl (fun j => sb_b (by9 j))))]) [0, 1, 2, 3, 4] (by decide) rfl
            have hK9 := hK.sub (tys' := [(cI, .int), (cB, .byte)]) [0, 1] rfl
            exact W.iret (v := 0) hx hb hr (fun tS htS hW => ⟨⟨0, (1, n, g, z, rw), rfl, (by first | exact ⟨hrw, Or.inr (Or.inl ⟨rfl, rfl, rfl, rfl, hbn1, fw_no hby hfn.1 hfn.2⟩)⟩ | exact ⟨hrw, Or.inl ⟨rfl, rfl, rfl, rfl, (nI_eq (b := 0) (by omega) (by omega)).mp c60⟩⟩), by rw [htS]; exact hP9, va_K.moved hW.alike hK9, hD9⟩, hS.F htS⟩) hS.2.2 dX4_contents_87
      · refine lv_aload_n hx hb dX4_contents_43 rfl (lv_at hl 1 rfl) ?_
        refine va_get (D := (dC, dI)) (ci := 4) (v := .ref m11) (C := RX4) (T := TX4) (N := 12) hx hb hts hinX4 hown hK hP 0 rfl rfl 11 (by decide) (hts (.fieldLink RX4 29 "NumberContentsModel" "bytes" "[B") (by decide +kernel)) (fun _ h9 => h9) rfl dX4_contents_44 ?_
        refine lv_iconst (v := (nI 1)) hx hb dX4_contents_47 (by decide) ?_
        refine va_bald hx hb hK hP 4 1 rfl rfl (vp_in_nI (by omega) (by omega)) dX4_contents_48 ?_
        refine lv_topi (fun x48 e48 => ?_)
        obtain rfl : x48 = sb_b (by9 1) := e48.trans (atsb (k := 1) (by omega))
        refine lv_if_lt (tgt := 56) hx hb dX4_contents_49 (by decide) (fun c49 => ?_) (fun c49 => ?_)
        · have hfn : 2 ≤ bn ∧ ((by9 0 = 0 ∧ by9 1 < 128) ∨ (by9 0 = 255 ∧ 128 ≤ by9 1)) := (by first | exact ⟨Nat.le_of_not_lt (fun y => c12 (nI_lt y (by omega))), Or.inl ⟨(sb_0 (hby 0)).mp c21, (sb_ge _ (hby 1)).mp c30⟩⟩ | exact ⟨Nat.le_of_not_lt (fun y => c12 (nI_lt y (by omega))), Or.inr ⟨(sb_m (hby 0)).mp c40, (sb_lt0 _ (hby 1)).mp c49⟩⟩)
          refine lv_iconst (v := 0) hx hb dX4_contents_56 (by decide) ?_
          refine lv_istore_n (lv' := [(2, .int 0), (1, .int (nI bn)), (0, .ref mx)]) hx hb dX4_contents_57 rfl hl (by decide) rfl (fun ls hl => ?_)
          refine lv_aload_n hx hb dX4_contents_58 rfl (lv_at hl 2 rfl) ?_
          refine lv_iload_n hx hb dX4_contents_59 rfl (lv_at hl 1 rfl) ?_
          refine lv_if_ne (tgt := 67) hx hb dX4_contents_60 (by decide) (fun c60 => ?_) (fun c60 => ?_)
          · have hbn1 : 1 ≤ bn := Nat.pos_of_ne_zero (fun y => c60 (by rw [y]; rfl))
            refine lv_iload_n hx hb dX4_contents_67 rfl (lv_at hl 0 rfl) ?_
            refine lv_if_ne (tgt := 75) hx hb dX4_contents_68 (by decide) (fun c68 => ?_) (fun c68 => ?_)
            · first | exact absurd c68 (by decide) | exact (c68 (by decide)).elim
            · refine lv_iconst (v := 2) hx hb dX4_contents_71 (by decide) ?_
              refine lv_goto (tgt := 76) hx hb dX4_contents_72 (by decide) ?_
              refine va_put (D := (dC, dI)) (ci := 4) (v := .int 2) (ty := .int) (C := RX4) (T := TX4) (N := 12) hx hb hts hinX4 tyX4 tyX4_ok nmX4 hown hK hP hD hS 0 rfl rfl 0 (by decide) (hts (.fieldLink RX4 32 "NumberContentsModel" "thrown" "I") (by decide +kernel)) (fun _ h9 => h9) rfl (by decide +kernel) rfl rfl (Nat.le_of_ble_eq_true rfl) dX4_contents_76 (fun H locs hP hD hS => ?_)
              have hP : va_P (dC, dI) vwCl [(mx, .inr (4, [.int 2, .int (nI n), .int (nI dn), .int (nI 0), .int (nI wn), .ref m5, .ref m6, .ref m7, .ref m8, .ref m9, .ref m10, .ref m11])), (m5, .inl (cI, 40, .inl (fun j => nI (z j)))), (m6, .inl (cI, 210, .inl (fun j => nI (rw j)))), (m9, .inl (cB, 8000, .inl (fun j => sb_b (g j)))), (m11, .inl (cB, 200, .inl (fun j => sb_b (by9 j))))] H := hP
              have hD : va_D A [(mx, .inr (4, [.int 2, .int (nI n), .int (nI dn), .int (nI 0), .int (nI wn), .ref m5, .ref m6, .ref m7, .ref m8, .ref m9, .ref m10, .ref m11])), (m5, .inl (cI, 40, .inl (fun j => nI (z j)))), (m6, .inl (cI, 210, .inl (fun j => nI (rw j)))), (m9, .inl (cB, 8000, .inl (fun j => sb_b (g j)))), (m11, .inl (cB, 200, .inl (fun j => sb_b (by9 j))))] := hD
              refine lv_aload_n hx hb dX4_contents_79 rfl (lv_at hl 2 rfl) ?_
              refine va_get (D := (dC, dI)) (ci := 4) (v := .int 2) (C := RX4) (T := TX4) (N := 12) hx hb hts hinX4 hown hK hP 0 rfl rfl 0 (by decide) (hts (.fieldLink RX4 32 "NumberContentsModel" "thrown" "I") (by decide +kernel)) (fun _ h9 => h9) rfl dX4_contents_80 ?_
              refine lv_if_le (tgt := 88) hx hb dX4_contents_83 (by decide) (fun c83 => ?_) (fun c83 => ?_)
              · first | exact absurd c83 (by decide) | exact (c83 (by decide)).elim
              · refine lv_iconst (v := 0) hx hb dX4_contents_86 (by decide) ?_
                have hP9 := hP.sub (ws' := [(mx, .inr (4, [.int 2, .int (nI n), .int (nI dn), .int (nI 0), .int (nI wn), .ref m5, .ref m6, .ref m7, .ref m8, .ref m9, .ref m10, .ref m11])), (m5, .inl (cI, 40, .inl (fun j => nI (z j)))), (m6, .inl (cI, 210, .inl (fun j => nI (rw j)))), (m9, .inl (cB, 8000, .inl (fun j => sb_b (g j)))), (m11, .inl (cB, 200, .inl (fun j => sb_b (by9 j))))]) [0, 1, 2, 3, 4] rfl
                have hD9 := hD.sub (ws' := [(mx, .inr (4, [.int 2, .int (nI n), .int (nI dn), .int (nI 0), .int (nI wn), .ref m5, .ref m6, .ref m7, .ref m8, .ref m9, .ref m10, .ref m11])), (m5, .inl (cI, 40, .inl (fun j => nI (z j)))), (m6, .inl (cI, 210, .inl (fun j => nI (rw j)))), (m9, .inl (cB, 8000, .inl (fun j => sb_b (g j)))), (m11, .inl (cB, 200, .inl (fun j => sb_b (by9 j))))]) [0, 1, 2, 3, 4] (by decide) rfl
                have hK9 := hK.sub (tys' := [(cI, .int), (cB, .byte)]) [0, 1] rfl
                exact W.iret (v := 0) hx hb hr (fun tS htS hW => ⟨⟨0, (2, n, g, z, rw), rfl, (by first | exact ⟨hrw, Or.inr (Or.inl ⟨rfl, rfl, rfl, rfl, hbn1, fw_no hby hfn.1 hfn.2⟩)⟩ | exact ⟨hrw, Or.inl ⟨rfl, rfl, rfl, rfl, (nI_eq (b := 0) (by omega) (by omega)).mp c60⟩⟩), by rw [htS]; exact hP9, va_K.moved hW.alike hK9, hD9⟩, hS.F htS⟩) hS.2.2 dX4_contents_87
          · refine lv_iconst (v := 1) hx hb dX4_contents_63 (by decide) ?_
            refine lv_goto (tgt := 76) hx hb dX4_contents_64 (by decide) ?_
            refine va_put (D := (dC, dI)) (ci := 4) (v := .int 1) (ty := .int) (C := RX4) (T := TX4) (N := 12) hx hb hts hinX4 tyX4 tyX4_ok nmX4 hown hK hP hD hS 0 rfl rfl 0 (by decide) (hts (.fieldLink RX4 32 "NumberContentsModel" "thrown" "I") (by decide +kernel)) (fun _ h9 => h9) rfl (by decide +kernel) rfl rfl (Nat.le_of_ble_eq_true rfl) dX4_contents_76 (fun H locs hP hD hS => ?_)
            have hP : va_P (dC, dI) vwCl [(mx, .inr (4, [.int 1, .int (nI n), .int (nI dn), .int (nI 0), .int (nI wn), .ref m5, .ref m6, .ref m7, .ref m8, .ref m9, .ref m10, .ref m11])), (m5, .inl (cI, 40, .inl (fun j => nI (z j)))), (m6, .inl (cI, 210, .inl (fun j => nI (rw j)))), (m9, .inl (cB, 8000, .inl (fun j => sb_b (g j)))), (m11, .inl (cB, 200, .inl (fun j => sb_b (by9 j))))] H := hP
            have hD : va_D A [(mx, .inr (4, [.int 1, .int (nI n), .int (nI dn), .int (nI 0), .int (nI wn), .ref m5, .ref m6, .ref m7, .ref m8, .ref m9, .ref m10, .ref m11])), (m5, .inl (cI, 40, .inl (fun j => nI (z j)))), (m6, .inl (cI, 210, .inl (fun j => nI (rw j)))), (m9, .inl (cB, 8000, .inl (fun j => sb_b (g j)))), (m11, .inl (cB, 200, .inl (fun j => sb_b (by9 j))))] := hD
            refine lv_aload_n hx hb dX4_contents_79 rfl (lv_at hl 2 rfl) ?_
            refine va_get (D := (dC, dI)) (ci := 4) (v := .int 1) (C := RX4) (T := TX4) (N := 12) hx hb hts hinX4 hown hK hP 0 rfl rfl 0 (by decide) (hts (.fieldLink RX4 32 "NumberContentsModel" "thrown" "I") (by decide +kernel)) (fun _ h9 => h9) rfl dX4_contents_80 ?_
            refine lv_if_le (tgt := 88) hx hb dX4_contents_83 (by decide) (fun c83 => ?_) (fun c83 => ?_)
            · first | exact absurd c83 (by decide) | exact (c83 (by decide)).elim
            · refine lv_iconst (v := 0) hx hb dX4_contents_86 (by decide) ?_
              have hP9 := hP.sub (ws' := [(mx, .inr (4, [.int 1, .int (nI n), .int (nI dn), .int (nI 0), .int (nI wn), .ref m5, .ref m6, .ref m7, .ref m8, .ref m9, .ref m10, .ref m11])), (m5, .inl (cI, 40, .inl (fun j => nI (z j)))), (m6, .inl (cI, 210, .inl (fun j => nI (rw j)))), (m9, .inl (cB, 8000, .inl (fun j => sb_b (g j)))), (m11, .inl (cB, 200, .inl (fun j => sb_b (by9 j))))]) [0, 1, 2, 3, 4] rfl
              have hD9 := hD.sub (ws' := [(mx, .inr (4, [.int 1, .int (nI n), .int (nI dn), .int (nI 0), .int (nI wn), .ref m5, .ref m6, .ref m7, .ref m8, .ref m9, .ref m10, .ref m11])), (m5, .inl (cI, 40, .inl (fun j => nI (z j)))), (m6, .inl (cI, 210, .inl (fun j => nI (rw j)))), (m9, .inl (cB, 8000, .inl (fun j => sb_b (g j)))), (m11, .inl (cB, 200, .inl (fun j => sb_b (by9 j))))]) [0, 1, 2, 3, 4] (by decide) rfl
              have hK9 := hK.sub (tys' := [(cI, .int), (cB, .byte)]) [0, 1] rfl
              exact W.iret (v := 0) hx hb hr (fun tS htS hW => ⟨⟨0, (1, n, g, z, rw), rfl, (by first | exact ⟨hrw, Or.inr (Or.inl ⟨rfl, rfl, rfl, rfl, hbn1, fw_no hby hfn.1 hfn.2⟩)⟩ | exact ⟨hrw, Or.inl ⟨rfl, rfl, rfl, rfl, (nI_eq (b := 0) (by omega) (by omega)).mp c60⟩⟩), by rw [htS]; exact hP9, va_K.moved hW.alike hK9, hD9⟩, hS.F htS⟩) hS.2.2 dX4_contents_87
        · have hfy : bn < 2 ∨ ¬ ((by9 0 = 0 ∧ by9 1 < 128) ∨ (by9 0 = 255 ∧ 128 ≤ by9 1)) := (by first | exact Or.inl ((nI_ltI (by omega) (by omega)).mp c12) | exact Or.inr (fun y => y.elim (fun y => by first | exact c21 ((sb_0 (hby 0)).mpr y.1) | exact c30 ((sb_ge _ (hby 1)).mpr y.2)) (fun y => by first | exact c40 ((sb_m (hby 0)).mpr y.1) | exact c49 ((sb_lt0 _ (hby 1)).mpr y.2))))
          refine lv_iconst (v := 1) hx hb dX4_contents_52 (by decide) ?_
          refine lv_goto (tgt := 57) hx hb dX4_contents_53 (by decide) ?_
          refine lv_istore_n (lv' := [(2, .int 1), (1, .int (nI bn)), (0, .ref mx)]) hx hb dX4_contents_57 rfl hl (by decide) rfl (fun ls hl => ?_)
          refine lv_aload_n hx hb dX4_contents_58 rfl (lv_at hl 2 rfl) ?_
          refine lv_iload_n hx hb dX4_contents_59 rfl (lv_at hl 1 rfl) ?_
          refine lv_if_ne (tgt := 67) hx hb dX4_contents_60 (by decide) (fun c60 => ?_) (fun c60 => ?_)
          · have hbn1 : 1 ≤ bn := Nat.pos_of_ne_zero (fun y => c60 (by rw [y]; rfl))
            refine lv_iload_n hx hb dX4_contents_67 rfl (lv_at hl 0 rfl) ?_
            refine lv_if_ne (tgt := 75) hx hb dX4_contents_68 (by decide) (fun c68 => ?_) (fun c68 => ?_)
            · refine lv_iconst (v := 0) hx hb dX4_contents_75 (by decide) ?_
              refine va_put (D := (dC, dI)) (ci := 4) (v := .int 0) (ty := .int) (C := RX4) (T := TX4) (N := 12) hx hb hts hinX4 tyX4 tyX4_ok nmX4 hown hK hP hD hS 0 rfl rfl 0 (by decide) (hts (.fieldLink RX4 32 "NumberContentsModel" "thrown" "I") (by decide +kernel)) (fun _ h9 => h9) rfl (by decide +kernel) rfl rfl (Nat.le_of_ble_eq_true rfl) dX4_contents_76 (fun H locs hP hD hS => ?_)
              have hP : va_P (dC, dI) vwCl [(mx, .inr (4, [.int 0, .int (nI n), .int (nI dn), .int (nI 0), .int (nI wn), .ref m5, .ref m6, .ref m7, .ref m8, .ref m9, .ref m10, .ref m11])), (m5, .inl (cI, 40, .inl (fun j => nI (z j)))), (m6, .inl (cI, 210, .inl (fun j => nI (rw j)))), (m9, .inl (cB, 8000, .inl (fun j => sb_b (g j)))), (m11, .inl (cB, 200, .inl (fun j => sb_b (by9 j))))] H := hP
              have hD : va_D A [(mx, .inr (4, [.int 0, .int (nI n), .int (nI dn), .int (nI 0), .int (nI wn), .ref m5, .ref m6, .ref m7, .ref m8, .ref m9, .ref m10, .ref m11])), (m5, .inl (cI, 40, .inl (fun j => nI (z j)))), (m6, .inl (cI, 210, .inl (fun j => nI (rw j)))), (m9, .inl (cB, 8000, .inl (fun j => sb_b (g j)))), (m11, .inl (cB, 200, .inl (fun j => sb_b (by9 j))))] := hD
              refine lv_aload_n hx hb dX4_contents_79 rfl (lv_at hl 2 rfl) ?_
              refine va_get (D := (dC, dI)) (ci := 4) (v := .int 0) (C := RX4) (T := TX4) (N := 12) hx hb hts hinX4 hown hK hP 0 rfl rfl 0 (by decide) (hts (.fieldLink RX4 32 "NumberContentsModel" "thrown" "I") (by decide +kernel)) (fun _ h9 => h9) rfl dX4_contents_80 ?_
              refine lv_if_le (tgt := 88) hx hb dX4_contents_83 (by decide) (fun c83 => ?_) (fun c83 => ?_)
              · have hisz := fw_yes hby hbn1 hfy
                refine lv_iconst (v := (nI 0)) hx hb dX4_contents_88 (by decide) ?_
                refine lv_istore_n (lv' := [(3, .int (nI 0)), (2, .int 1), (1, .int (nI bn)), (0, .ref mx)]) hx hb dX4_contents_89 rfl hl (by decide) rfl (fun ls hl => ?_)
                have LP90 : ∀ (n9 : Nat) (i : Nat) (w2 : Nat → Nat) (hm : (210 - i) < n9) (hi : i ≤ 210) (hw2 : ∀ j, w2 j < 256) (hlo : ∀ j, j < i → j < bn → w2 j = by9 (bn - 1 - j)) (hhi : ∀ j, j < i → bn ≤ j → w2 j = (if 128 ≤ by9 0 then 255 else 0)) (H : Heap) (locs : List Loc) (ls : Array Slot) (hP : va_P (dC, dI) vwCl [(mx, .inr (4, [.int 0, .int (nI n), .int (nI dn), .int (nI 0), .int (nI wn), .ref m5, .ref m6, .ref m7, .ref m8, .ref m9, .ref m10, .ref m11])), (m5, .inl (cI, 40, .inl (fun j => nI (z j)))), (m6, .inl (cI, 210, .inl (fun j => nI (w2 j)))), (m9, .inl (cB, 8000, .inl (fun j => sb_b (g j)))), (m11, .inl (cB, 200, .inl (fun j => sb_b (by9 j))))] H) (hD : va_D A [(mx, .inr (4, [.int 0, .int (nI n), .int (nI dn), .int (nI 0), .int (nI wn), .ref m5, .ref m6, .ref m7, .ref m8, .ref m9, .ref m10, .ref m11])), (m5, .inl (cI, 40, .inl (fun j => nI (z j)))), (m6, .inl (cI, 210, .inl (fun j => nI (w2 j)))), (m9, .inl (cB, 8000, .inl (fun j => sb_b (g j)))), (m11, .inl (cB, 200, .inl (fun j => sb_b (by9 j))))]) (hS : va_S A s.heap H locs) (hl : lv_has ls 4 [(0, .ref mx), (1, .int (nI bn)), (3, .int (nI i))]), W p l e (headSpec wsX4_contents ({ frames := 3, cells := 0, slots := 0, locals := 66 } : Room)).room s m ([.ref mx]).toArray below meth c H locs 0 0 (MQ below (va_Qi (fun (r : Int32) (uS : Int32 × Nat × (Nat → Nat) × (Nat → Nat) × (Nat → Nat)) => match uS with | (th3, n3, g3, z3, rw3) => (∀ j, rw3 j < 256) ∧ ((th3 = 1 ∧ n3 = n ∧ g3 = g ∧ z3 = z ∧ bn = 0) ∨ (th3 = 2 ∧ n3 = n ∧ g3 = g ∧ z3 = z ∧ 1 ≤ bn ∧ ¬ isz (sv (fun j => by9 (bn - 1 - j)) bn) bn) ∨ (th3 = 0 ∧ n3 = n + 1 ∧ 1 ≤ bn ∧ isz (sv (fun j => by9 (bn - 1 - j)) bn) bn ∧ KEPTM n g z g3 z3 (sv (fun j => by9 (bn - 1 - j)) bn) r) ∨ (th3 = 3 ∧ n3 = n ∧ g3 = g ∧ z3 = z ∧ 1 ≤ bn ∧ isz (sv (fun j => by9 (bn - 1 - j)) bn) bn ∧ NOKEEP n (sv (fun j => by9 (bn - 1 - j)) bn)))) (fun (uS : Int32 × Nat × (Nat → Nat) × (Nat → Nat) × (Nat → Nat)) (tS : State) => match uS with | (th3, n3, g3, z3, rw3) => va_P (dC, dI) vwCl [(mx, .inr (4, [.int th3, .int (nI n3), .int (nI dn), .int (nI 0), .int (nI wn), .ref m5, .ref m6, .ref m7, .ref m8, .ref m9, .ref m10, .ref m11])), (m5, .inl (cI, 40, .inl (fun j => nI (z3 j)))), (m6, .inl (cI, 210, .inl (fun j => nI (rw3 j)))), (m9, .inl (cB, 8000, .inl (fun j => sb_b (g3 j)))), (m11, .inl (cB, 200, .inl (fun j => sb_b (by9 j))))] tS.heap ∧ va_K (dC, dI) vwCl [(cI, .int), (cB, .byte)] tS ∧ va_D A [(mx, .inr (4, [.int th3, .int (nI n3), .int (nI dn), .int (nI 0), .int (nI wn), .ref m5, .ref m6, .ref m7, .ref m8, .ref m9, .ref m10, .ref m11])), (m5, .inl (cI, 40, .inl (fun j => nI (z3 j)))), (m6, .inl (cI, 210, .inl (fun j => nI (rw3 j)))), (m9, .inl (cB, 8000, .inl (fun j => sb_b (g3 j)))), (m11, .inl (cB, 200, .inl (fun j => sb_b (by9 j))))]) A) ([.ref mx]).toArray s 0 0 A) (F0 m 90 ls []) := by
                  intro n9
                  induction n9 with
                  | zero => intro i w2 hm; exact absurd hm (Nat.not_lt_zero _)
                  | succ n9 ih =>
                    intro i w2 hm hi hw2 hlo hhi H locs ls hP hD hS hl
                    have ih90 := ih
                    refine lv_iload_n hx hb dX4_contents_90 rfl (lv_at hl 2 rfl) ?_
                    refine lv_sipush (v := (nI 210)) hx hb dX4_contents_91 (by decide) ?_
                    refine lv_icmp_ge (tgt := 147) hx hb dX4_contents_94 (by decide) (fun c94 => ?_) (fun c94 => ?_)
                    · obtain rfl : i = 210 := Nat.le_antisymm hi ((nI_leI (by omega) (by omega)).mp c94)
                      have hZK : sv w2 210 = sv (fun j => by9 (bn - 1 - j)) bn := ext_sv (r := fun j => by9 (bn - 1 - j)) (fl := if 128 ≤ by9 0 then 255 else 0) hbn1 (by omega) (by show _ ∧ 128 ≤ by9 (bn - 1 - (bn - 1)) ∨ _ ∧ by9 (bn - 1 - (bn - 1)) < 128; rw [Nat.sub_self]; by_cases y : 128 ≤ by9 0; exact Or.inl ⟨if_pos y, y⟩; exact Or.inr ⟨if_neg y, by omega⟩) (fun j hj => hlo j (by omega) hj) (fun j h1 h2 => hhi j h2 h1)
                      refine lv_aload_n hx hb dX4_contents_147 rfl (lv_at hl 0 rfl) ?_
                      refine lv_iconst (v := 3) hx hb dX4_contents_148 (by decide) ?_
                      have hPc := hP.sub (ws' := [(mx, .inr (4, [.int 0, .int (nI n), .int (nI dn), .int (nI 0), .int (nI wn), .ref m5, .ref m6, .ref m7, .ref m8, .ref m9, .ref m10, .ref m11])), (m5, .inl (cI, 40, .inl (fun j => nI (z j)))), (m6, .inl (cI, 210, .inl (fun j => nI (w2 j)))), (m9, .inl (cB, 8000, .inl (fun j => sb_b (g j))))]) [0, 1, 2, 3] rfl
                      have hKc := hK.sub (tys' := [(cI, .int), (cB, .byte)]) [0, 1] rfl
                      have hDc := hD.sub (ws' := [(mx, .inr (4, [.int 0, .int (nI n), .int (nI dn), .int (nI 0), .int (nI wn), .ref m5, .ref m6, .ref m7, .ref m8, .ref m9, .ref m10, .ref m11])), (m5, .inl (cI, 40, .inl (fun j => nI (z j)))), (m6, .inl (cI, 210, .inl (fun j => nI (w2 j)))), (m9, .inl (cB, 8000, .inl (fun j => sb_b (g j))))]) [0, 1, 2, 3] (by decide) rfl
                      have hFc := va_free (wc := [(mx, .inr (4, [.int 0, .int (nI n), .int (nI dn), .int (nI 0), .int (nI wn), .ref m5, .ref m6, .ref m7, .ref m8, .ref m9, .ref m10, .ref m11])), (m5, .inl (cI, 40, .inl (fun j => nI (z j)))), (m6, .inl (cI, 210, .inl (fun j => nI (w2 j)))), (m9, .inl (cB, 8000, .inl (fun j => sb_b (g j))))]) hD hS hA [0, 1, 2, 3] rfl
                      refine va_calli (va_runV (As := [.int 3]) (rest := []) ⟨hx, hb, hml, hown, hts⟩ (c_X4_keep l dC dI cI cB mx m5 m6 m7 m8 m9 m10 m11 n dn 0 wn 0 g z w2 3 H.size hI hw2 (Or.inr rfl)) (cwV 1 hts gX4_contents_X4_keep rfl rfl rfl (by decide +kernel) ⟨Nat.le_of_ble_eq_true rfl, Nat.le_of_ble_eq_true rfl⟩) ⟨fun a U g mk q => by obtain ⟨q0, q1, qP, qK, qD⟩ := q; exact ⟨q0, q1, qP, va_K.moved (u := U) (U := U.calling g mk a) (Vm.Alike.refl U.vm) qK, qD⟩, va_recv hKc hPc (ci := 4) (q0 := 0) rfl rfl, fun U hU hW => ⟨rfl, by rw [hU], by rw [hU]; exact hPc, va_K.moved hW.alike hKc, hDc.weaken (fun _ _ _ _ => trivial)⟩⟩ rfl rfl hl.1 rfl (lv_room (Nat.le_of_ble_eq_true rfl)) dX4_contents_149 ⟨Nat.le_of_ble_eq_true rfl, Nat.le_of_ble_eq_true rfl⟩) hS (fun q _ h => hFc q h) hFc (fun r149 uS tS H1 locs htS hvm h149 hB hzS hkS hS => ?_)
                      obtain ⟨th3_149, n3_149, g3_149, z3_149⟩ := uS
                      obtain ⟨hP1, hK1, hD1⟩ := hB
                      rw [htS] at hP1
                      have hK1 := va_K.moved hvm.symm hK1
                      try dsimp only at h149
                      obtain ⟨hP, hD⟩ := va_join (wr := [(m11, .inl (cB, 200, .inl (fun j => sb_b (by9 j))))]) (w1 := [(mx, .inr (4, [.int th3_149, .int (nI n3_149), .int (nI dn), .int (nI 0), .int (nI wn), .ref m5, .ref m6, .ref m7, .ref m8, .ref m9, .ref m10, .ref m11])), (m5, .inl (cI, 40, .inl (fun j => nI (z3_149 j)))), (m6, .inl (cI, 210, .inl (fun j => nI (w2 j)))), (m9, .inl (cB, 8000, .inl (fun j => sb_b (g3_149 j))))]) hP hD [0, 1, 2, 3] [4] rfl rfl (by decide) (by decide) hkS hFc hP1 hD1
                      generalize H1 = H at hP hS ⊢
                      have hP : va_P (dC, dI) vwCl [(m11, .inl (cB, 200, .inl (fun j => sb_b (by9 j)))), (mx, .inr (4, [.int th3_149, .int (nI n3_149), .int (nI dn), .int (nI 0), .int (nI wn), .ref m5, .ref m6, .ref m7, .ref m8, .ref m9, .ref m10, .ref m11])), (m5, .inl (cI, 40, .inl (fun j => nI (z3_149 j)))), (m6, .inl (cI, 210, .inl (fun j => nI (w2 j)))), (m9, .inl (cB, 8000, .inl (fun j => sb_b (g3_149 j))))] H := hP
                      have hD : va_D A [(m11, .inl (cB, 200, .inl (fun j => sb_b (by9 j)))), (mx, .inr (4, [.int th3_149, .int (nI n3_149), .int (nI dn), .int (nI 0), .int (nI wn), .ref m5, .ref m6, .ref m7, .ref m8, .ref m9, .ref m10, .ref m11])), (m5, .inl (cI, 40, .inl (fun j => nI (z3_149 j)))), (m6, .inl (cI, 210, .inl (fun j => nI (w2 j)))), (m9, .inl (cB, 8000, .inl (fun j => sb_b (g3_149 j))))] := hD
                      rw [hZK] at h149
                      have hP9 := hP.sub (ws' := [(mx, .inr (4, [.int th3_149, .int (nI n3_149), .int (nI dn), .int (nI 0), .int (nI wn), .ref m5, .ref m6, .ref m7, .ref m8, .ref m9, .ref m10, .ref m11])), (m5, .inl (cI, 40, .inl (fun j => nI (z3_149 j)))), (m6, .inl (cI, 210, .inl (fun j => nI (w2 j)))), (m9, .inl (cB, 8000, .inl (fun j => sb_b (g3_149 j)))), (m11, .inl (cB, 200, .inl (fun j => sb_b (by9 j))))]) [1, 2, 3, 4, 0] rfl
                      have hD9 := hD.sub (ws' := [(mx, .inr (4, [.int th3_149, .int (nI n3_149), .int (nI dn), .int (nI 0), .int (nI wn), .ref m5, .ref m6, .ref m7, .ref m8, .ref m9, .ref m10, .ref m11])), (m5, .inl (cI, 40, .inl (fun j => nI (z3_149 j)))), (m6, .inl (cI, 210, .inl (fun j => nI (w2 j)))), (m9, .inl (cB, 8000, .inl (fun j => sb_b (g3_149 j)))), (m11, .inl (cB, 200, .inl (fun j => sb_b (by9 j))))]) [1, 2, 3, 4, 0] (by decide) rfl
                      have hK9 := hK.sub (tys' := [(cI, .int), (cB, .byte)]) [0, 1] rfl
                      exact W.iret (v := r149) hx hb hr (fun tS htS hW => ⟨⟨r149, (th3_149, n3_149, g3_149, z3_149, w2), rfl, ⟨hw2, Or.inr (Or.inr (h149.elim (fun y => Or.inl ⟨y.1, y.2.1, hbn1, hisz, y.2.2⟩) (fun y => Or.inr ⟨y.1, y.2.1, y.2.2.1, y.2.2.2.1, hbn1, hisz, y.2.2.2.2⟩)))⟩, by rw [htS]; exact hP9, va_K.moved hW.alike hK9, hD9⟩, hS.F htS⟩) hS.2.2 dX4_contents_152
                    · have hlt : i < 210 := Nat.lt_of_not_le (fun h => c94 (nI_le h (by omega)))
                      refine lv_aload_n hx hb dX4_contents_97 rfl (lv_at hl 0 rfl) ?_
                      refine va_get (D := (dC, dI)) (ci := 4) (v := .ref m6) (C := RX4) (T := TX4) (N := 12) hx hb hts hinX4 hown hK hP 0 rfl rfl 6 (by decide) (hts (.fieldLink RX4 13 "NumberContentsModel" "row" "[I") (by decide +kernel)) (fun _ h9 => h9) rfl dX4_contents_98 ?_
                      refine lv_iload_n hx hb dX4_contents_101 rfl (lv_at hl 2 rfl) ?_
                      refine lv_iload_n hx hb dX4_contents_102 rfl (lv_at hl 2 rfl) ?_
                      refine lv_iload_n hx hb dX4_contents_103 rfl (lv_at hl 1 rfl) ?_
                      refine lv_icmp_ge (tgt := 124) hx hb dX4_contents_104 (by decide) (fun c104 => ?_) (fun c104 => ?_)
                      · have hge2 : bn ≤ i := (nI_leI (by omega) (by omega)).mp c104
                        refine lv_aload_n hx hb dX4_contents_124 rfl (lv_at hl 0 rfl) ?_
                        refine va_get (D := (dC, dI)) (ci := 4) (v := .ref m11) (C := RX4) (T := TX4) (N := 12) hx hb hts hinX4 hown hK hP 0 rfl rfl 11 (by decide) (hts (.fieldLink RX4 29 "NumberContentsModel" "bytes" "[B") (by decide +kernel)) (fun _ h9 => h9) rfl dX4_contents_125 ?_
                        refine lv_iconst (v := (nI 0)) hx hb dX4_contents_128 (by decide) ?_
                        refine va_bald hx hb hK hP 4 1 rfl rfl (vp_in_nI (by omega) (by omega)) dX4_contents_129 ?_
                        refine lv_topi (fun x129 e129 => ?_)
                        obtain rfl : x129 = sb_b (by9 0) := e129.trans (atsb (k := 0) (by omega))
                        refine lv_if_ge (tgt := 139) hx hb dX4_contents_130 (by decide) (fun c130 => ?_) (fun c130 => ?_)
                        · refine lv_iconst (v := (nI 0)) hx hb dX4_contents_139 (by decide) ?_
                          refine va_iast hx hb hK hP hD hS 2 0 rfl rfl (vp_in_nI (by omega) (by omega)) dX4_contents_140 (fun H locs hP hD hS => ?_)
                          have hP : va_P (dC, dI) vwCl [(mx, .inr (4, [.int 0, .int (nI n), .int (nI dn), .int (nI 0), .int (nI wn), .ref m5, .ref m6, .ref m7, .ref m8, .ref m9, .ref m10, .ref m11])), (m5, .inl (cI, 40, .inl (fun j => nI (z j)))), (m6, .inl (cI, 210, .inl (upd (fun j => nI (w2 j)) (nI i).toNatClampNeg (nI 0)))), (m9, .inl (cB, 8000, .inl (fun j => sb_b (g j)))), (m11, .inl (cB, 200, .inl (fun j => sb_b (by9 j))))] H := hP
                          have hD : va_D A [(mx, .inr (4, [.int 0, .int (nI n), .int (nI dn), .int (nI 0), .int (nI wn), .ref m5, .ref m6, .ref m7, .ref m8, .ref m9, .ref m10, .ref m11])), (m5, .inl (cI, 40, .inl (fun j => nI (z j)))), (m6, .inl (cI, 210, .inl (upd (fun j => nI (w2 j)) (nI i).toNatClampNeg (nI 0)))), (m9, .inl (cB, 8000, .inl (fun j => sb_b (g j)))), (m11, .inl (cB, 200, .inl (fun j => sb_b (by9 j))))] := hD
                          obtain ⟨f140, e140⟩ : ∃ zz9 : Nat → Int32, zz9 = upd (fun j => nI (w2 j)) (nI i).toNatClampNeg (nI 0) := ⟨_, rfl⟩
                          rw [← e140] at hP hD
                          obtain rfl : f140 = fun j => nI (va_up w2 i 0 j) := e140.trans (upg (by omega))
                          obtain ⟨x141, e141⟩ : ∃ zz9 : Int32, zz9 = (nI i) + 1 := ⟨_, rfl⟩
                          refine lv_iinc (v := x141) (lv' := [(3, .int x141), (0, .ref mx), (1, .int (nI bn))]) hx hb dX4_contents_141 hl (k := 2) rfl (by rw [e141]; rfl) (by decide) rfl (fun ls hl => ?_)
                          obtain rfl : x141 = nI (i + 1) := e141.trans (nI_1 i)
                          refine lv_goto (tgt := 90) hx hb dX4_contents_144 (by decide) ?_
                          exact ih90 (i + 1) (va_up w2 i 0) (by omega) (by omega) (up_lt hw2 (by decide)) (ct_lo2 hge2 hlo) (ct_hi2 (by rw [if_neg (by have := (sb_ge _ (hby 0)).mp c130; omega)]) hhi) _ _ _ (hP.sub [0, 1, 2, 3, 4] rfl) (hD.sub [0, 1, 2, 3, 4] (by decide) rfl) hS (lv_sub hl [1, 2, 0] rfl)
                        · refine lv_sipush (v := (nI 255)) hx hb dX4_contents_133 (by decide) ?_
                          refine lv_goto (tgt := 140) hx hb dX4_contents_136 (by decide) ?_
                          refine va_iast hx hb hK hP hD hS 2 0 rfl rfl (vp_in_nI (by omega) (by omega)) dX4_contents_140 (fun H locs hP hD hS => ?_)
                          have hP : va_P (dC, dI) vwCl [(mx, .inr (4, [.int 0, .int (nI n), .int (nI dn), .int (nI 0), .int (nI wn), .ref m5, .ref m6, .ref m7, .ref m8, .ref m9, .ref m10, .ref m11])), (m5, .inl (cI, 40, .inl (fun j => nI (z j)))), (m6, .inl (cI, 210, .inl (upd (fun j => nI (w2 j)) (nI i).toNatClampNeg (nI 255)))), (m9, .inl (cB, 8000, .inl (fun j => sb_b (g j)))), (m11, .inl (cB, 200, .inl (fun j => sb_b (by9 j))))] H := hP
                          have hD : va_D A [(mx, .inr (4, [.int 0, .int (nI n), .int (nI dn), .int (nI 0), .int (nI wn), .ref m5, .ref m6, .ref m7, .ref m8, .ref m9, .ref m10, .ref m11])), (m5, .inl (cI, 40, .inl (fun j => nI (z j)))), (m6, .inl (cI, 210, .inl (upd (fun j => nI (w2 j)) (nI i).toNatClampNeg (nI 255)))), (m9, .inl (cB, 8000, .inl (fun j => sb_b (g j)))), (m11, .inl (cB, 200, .inl (fun j => sb_b (by9 j))))] := hD
                          obtain ⟨f140, e140⟩ : ∃ zz9 : Nat → Int32, zz9 = upd (fun j => nI (w2 j)) (nI i).toNatClampNeg (nI 255) := ⟨_, rfl⟩
                          rw [← e140] at hP hD
                          obtain rfl : f140 = fun j => nI (va_up w2 i 255 j) := e140.trans (upg (by omega))
                          obtain ⟨x141, e141⟩ : ∃ zz9 : Int32, zz9 = (nI i) + 1 := ⟨_, rfl⟩
                          refine lv_iinc (v := x141) (lv' := [(3, .int x141), (0, .ref mx), (1, .int (nI bn))]) hx hb dX4_contents_141 hl (k := 2) rfl (by rw [e141]; rfl) (by decide) rfl (fun ls hl => ?_)
                          obtain rfl : x141 = nI (i + 1) := e141.trans (nI_1 i)
                          refine lv_goto (tgt := 90) hx hb dX4_contents_144 (by decide) ?_
                          exact ih90 (i + 1) (va_up w2 i 255) (by omega) (by omega) (up_lt hw2 (by decide)) (ct_lo2 hge2 hlo) (ct_hi2 (by rw [if_pos (Nat.le_of_not_lt (fun y => c130 ((sb_ge _ (hby 0)).mpr y)))]) hhi) _ _ _ (hP.sub [0, 1, 2, 3, 4] rfl) (hD.sub [0, 1, 2, 3, 4] (by decide) rfl) hS (lv_sub hl [1, 2, 0] rfl)
                      · have hlt2 : i < bn := Nat.lt_of_not_le (fun h => c104 (nI_le h (by omega)))
                        refine lv_aload_n hx hb dX4_contents_107 rfl (lv_at hl 0 rfl) ?_
                        refine va_get (D := (dC, dI)) (ci := 4) (v := .ref m11) (C := RX4) (T := TX4) (N := 12) hx hb hts hinX4 hown hK hP 0 rfl rfl 11 (by decide) (hts (.fieldLink RX4 29 "NumberContentsModel" "bytes" "[B") (by decide +kernel)) (fun _ h9 => h9) rfl dX4_contents_108 ?_
                        refine lv_iload_n hx hb dX4_contents_111 rfl (lv_at hl 1 rfl) ?_
                        refine lv_iconst (v := 1) hx hb dX4_contents_112 (by decide) ?_
                        refine lv_isub hx hb dX4_contents_113 ?_
                        refine lv_topi (fun x113 e113 => ?_)
                        obtain rfl : x113 = nI (bn - 1) := e113.trans (nI_m1 (by omega))
                        refine lv_iload_n hx hb dX4_contents_114 rfl (lv_at hl 2 rfl) ?_
                        refine lv_isub hx hb dX4_contents_115 ?_
                        refine lv_topi (fun x115 e115 => ?_)
                        obtain rfl : x115 = nI (bn - 1 - i) := e115.trans (pk_sub (by omega))
                        refine va_bald hx hb hK hP 4 1 rfl rfl (vp_in_nI (by omega) (by omega)) dX4_contents_116 ?_
                        refine lv_topi (fun x116 e116 => ?_)
                        obtain rfl : x116 = sb_b (by9 (bn - 1 - i)) := e116.trans (atsb (by omega))
                        refine lv_sipush (v := 255) hx hb dX4_contents_117 (by decide) ?_
                        refine lv_iand hx hb dX4_contents_120 ?_
                        refine lv_topi (fun x120 e120 => ?_)
                        obtain rfl : x120 = nI (by9 (bn - 1 - i)) := e120.trans (sb_and (hby _))
                        refine lv_goto (tgt := 140) hx hb dX4_contents_121 (by decide) ?_
                        refine va_iast hx hb hK hP hD hS 2 0 rfl rfl (vp_in_nI (by omega) (by omega)) dX4_contents_140 (fun H locs hP hD hS => ?_)
                        have hP : va_P (dC, dI) vwCl [(mx, .inr (4, [.int 0, .int (nI n), .int (nI dn), .int (nI 0), .int (nI wn), .ref m5, .ref m6, .ref m7, .ref m8, .ref m9, .ref m10, .ref m11])), (m5, .inl (cI, 40, .inl (fun j => nI (z j)))), (m6, .inl (cI, 210, .inl (upd (fun j => nI (w2 j)) (nI i).toNatClampNeg (nI (by9 (bn - 1 - i)))))), (m9, .inl (cB, 8000, .inl (fun j => sb_b (g j)))), (m11, .inl (cB, 200, .inl (fun j => sb_b (by9 j))))] H := hP
                        have hD : va_D A [(mx, .inr (4, [.int 0, .int (nI n), .int (nI dn), .int (nI 0), .int (nI wn), .ref m5, .ref m6, .ref m7, .ref m8, .ref m9, .ref m10, .ref m11])), (m5, .inl (cI, 40, .inl (fun j => nI (z j)))), (m6, .inl (cI, 210, .inl (upd (fun j => nI (w2 j)) (nI i).toNatClampNeg (nI (by9 (bn - 1 - i)))))), (m9, .inl (cB, 8000, .inl (fun j => sb_b (g j)))), (m11, .inl (cB, 200, .inl (fun j => sb_b (by9 j))))] := hD
                        obtain ⟨f140, e140⟩ : ∃ zz9 : Nat → Int32, zz9 = upd (fun j => nI (w2 j)) (nI i).toNatClampNeg (nI (by9 (bn - 1 - i))) := ⟨_, rfl⟩
                        rw [← e140] at hP hD
                        obtain rfl : f140 = fun j => nI (va_up w2 i (by9 (bn - 1 - i)) j) := e140.trans (upg (by omega))
                        obtain ⟨x141, e141⟩ : ∃ zz9 : Int32, zz9 = (nI i) + 1 := ⟨_, rfl⟩
                        refine lv_iinc (v := x141) (lv' := [(3, .int x141), (0, .ref mx), (1, .int (nI bn))]) hx hb dX4_contents_141 hl (k := 2) rfl (by rw [e141]; rfl) (by decide) rfl (fun ls hl => ?_)
                        obtain rfl : x141 = nI (i + 1) := e141.trans (nI_1 i)
                        refine lv_goto (tgt := 90) hx hb dX4_contents_144 (by decide) ?_
                        exact ih90 (i + 1) (va_up w2 i (by9 (bn - 1 - i))) (by omega) (by omega) (up_lt hw2 (hby _)) (ct_lo hlo) (fl_hi hlt2 hhi) _ _ _ (hP.sub [0, 1, 2, 3, 4] rfl) (hD.sub [0, 1, 2, 3, 4] (by decide) rfl) hS (lv_sub hl [1, 2, 0] rfl)
                exact LP90 _ 0 rw (Nat.lt_succ_self _) (by omega) hrw (fun j h => absurd h (by omega)) (fun j h => absurd h (by omega)) _ _ _ (hP.sub [0, 1, 2, 3, 4] rfl) (hD.sub [0, 1, 2, 3, 4] (by decide) rfl) hS (lv_sub hl [3, 2, 0] rfl)
              · first | exact absurd c83 (by decide) | exact (c83 (by decide)).elim
            · first | exact absurd c68 (by decide) | exact (c68 (by decide)).elim
          · refine lv_iconst (v := 1) hx hb dX4_contents_63 (by decide) ?_
            refine lv_goto (tgt := 76) hx hb dX4_contents_64 (by decide) ?_
            refine va_put (D := (dC, dI)) (ci := 4) (v := .int 1) (ty := .int) (C := RX4) (T := TX4) (N := 12) hx hb hts hinX4 tyX4 tyX4_ok nmX4 hown hK hP hD hS 0 rfl rfl 0 (by decide) (hts (.fieldLink RX4 32 "NumberContentsModel" "thrown" "I") (by decide +kernel)) (fun _ h9 => h9) rfl (by decide +kernel) rfl rfl (Nat.le_of_ble_eq_true rfl) dX4_contents_76 (fun H locs hP hD hS => ?_)
            have hP : va_P (dC, dI) vwCl [(mx, .inr (4, [.int 1, .int (nI n), .int (nI dn), .int (nI 0), .int (nI wn), .ref m5, .ref m6, .ref m7, .ref m8, .ref m9, .ref m10, .ref m11])), (m5, .inl (cI, 40, .inl (fun j => nI (z j)))), (m6, .inl (cI, 210, .inl (fun j => nI (rw j)))), (m9, .inl (cB, 8000, .inl (fun j => sb_b (g j)))), (m11, .inl (cB, 200, .inl (fun j => sb_b (by9 j))))] H := hP
            have hD : va_D A [(mx, .inr (4, [.int 1, .int (nI n), .int (nI dn), .int (nI 0), .int (nI wn), .ref m5, .ref m6, .ref m7, .ref m8, .ref m9, .ref m10, .ref m11])), (m5, .inl (cI, 40, .inl (fun j => nI (z j)))), (m6, .inl (cI, 210, .inl (fun j => nI (rw j)))), (m9, .inl (cB, 8000, .inl (fun j => sb_b (g j)))), (m11, .inl (cB, 200, .inl (fun j => sb_b (by9 j))))] := hD
            refine lv_aload_n hx hb dX4_contents_79 rfl (lv_at hl 2 rfl) ?_
            refine va_get (D := (dC, dI)) (ci := 4) (v := .int 1) (C := RX4) (T := TX4) (N := 12) hx hb hts hinX4 hown hK hP 0 rfl rfl 0 (by decide) (hts (.fieldLink RX4 32 "NumberContentsModel" "thrown" "I") (by decide +kernel)) (fun _ h9 => h9) rfl dX4_contents_80 ?_
            refine lv_if_le (tgt := 88) hx hb dX4_contents_83 (by decide) (fun c83 => ?_) (fun c83 => ?_)
            · first | exact absurd c83 (by decide) | exact (c83 (by decide)).elim
            · refine lv_iconst (v := 0) hx hb dX4_contents_86 (by decide) ?_
              have hP9 := hP.sub (ws' := [(mx, .inr (4, [.int 1, .int (nI n), .int (nI dn), .int (nI 0), .int (nI wn), .ref m5, .ref m6, .ref m7, .ref m8, .ref m9, .ref m10, .ref m11])), (m5, .inl (cI, 40, .inl (fun j => nI (z j)))), (m6, .inl (cI, 210, .inl (fun j => nI (rw j)))), (m9, .inl (cB, 8000, .inl (fun j => sb_b (g j)))), (m11, .inl (cB, 200, .inl (fun j => sb_b (by9 j))))]) [0, 1, 2, 3, 4] rfl
              have hD9 := hD.sub (ws' := [(mx, .inr (4, [.int 1, .int (nI n), .int (nI dn), .int (nI 0), .int (nI wn), .ref m5, .ref m6, .ref m7, .ref m8, .ref m9, .ref m10, .ref m11])), (m5, .inl (cI, 40, .inl (fun j => nI (z j)))), (m6, .inl (cI, 210, .inl (fun j => nI (rw j)))), (m9, .inl (cB, 8000, .inl (fun j => sb_b (g j)))), (m11, .inl (cB, 200, .inl (fun j => sb_b (by9 j))))]) [0, 1, 2, 3, 4] (by decide) rfl
              have hK9 := hK.sub (tys' := [(cI, .int), (cB, .byte)]) [0, 1] rfl
              exact W.iret (v := 0) hx hb hr (fun tS htS hW => ⟨⟨0, (1, n, g, z, rw), rfl, (by first | exact ⟨hrw, Or.inr (Or.inl ⟨rfl, rfl, rfl, rfl, hbn1, fw_no hby hfn.1 hfn.2⟩)⟩ | exact ⟨hrw, Or.inl ⟨rfl, rfl, rfl, rfl, (nI_eq (b := 0) (by omega) (by omega)).mp c60⟩⟩), by rw [htS]; exact hP9, va_K.moved hW.alike hK9, hD9⟩, hS.F htS⟩) hS.2.2 dX4_contents_87
    · refine lv_aload_n hx hb dX4_contents_24 rfl (lv_at hl 1 rfl) ?_
      refine va_get (D := (dC, dI)) (ci := 4) (v := .ref m11) (C := RX4) (T := TX4) (N := 12) hx hb hts hinX4 hown hK hP 0 rfl rfl 11 (by decide) (hts (.fieldLink RX4 29 "NumberContentsModel" "bytes" "[B") (by decide +kernel)) (fun _ h9 => h9) rfl dX4_contents_25 ?_
      refine lv_iconst (v := (nI 1)) hx hb dX4_contents_28 (by decide) ?_
      refine va_bald hx hb hK hP 4 1 rfl rfl (vp_in_nI (by omega) (by omega)) dX4_contents_29 ?_
      refine lv_topi (fun x29 e29 => ?_)
      obtain rfl : x29 = sb_b (by9 1) := e29.trans (atsb (k := 1) (by omega))
      refine lv_if_ge (tgt := 56) hx hb dX4_contents_30 (by decide) (fun c30 => ?_) (fun c30 => ?_)
      · have hfn : 2 ≤ bn ∧ ((by9 0 = 0 ∧ by9 1 < 128) ∨ (by9 0 = 255 ∧ 128 ≤ by9 1)) := (by first | exact ⟨Nat.le_of_not_lt (fun y => c12 (nI_lt y (by omega))), Or.inl ⟨(sb_0 (hby 0)).mp c21, (sb_ge _ (hby 1)).mp c30⟩⟩ | exact ⟨Nat.le_of_not_lt (fun y => c12 (nI_lt y (by omega))), Or.inr ⟨(sb_m (hby 0)).mp c40, (sb_lt0 _ (hby 1)).mp c49⟩⟩)
        refine lv_iconst (v := 0) hx hb dX4_contents_56 (by decide) ?_
        refine lv_istore_n (lv' := [(2, .int 0), (1, .int (nI bn)), (0, .ref mx)]) hx hb dX4_contents_57 rfl hl (by decide) rfl (fun ls hl => ?_)
        refine lv_aload_n hx hb dX4_contents_58 rfl (lv_at hl 2 rfl) ?_
        refine lv_iload_n hx hb dX4_contents_59 rfl (lv_at hl 1 rfl) ?_
        refine lv_if_ne (tgt := 67) hx hb dX4_contents_60 (by decide) (fun c60 => ?_) (fun c60 => ?_)
        · have hbn1 : 1 ≤ bn := Nat.pos_of_ne_zero (fun y => c60 (by rw [y]; rfl))
          refine lv_iload_n hx hb dX4_contents_67 rfl (lv_at hl 0 rfl) ?_
          refine lv_if_ne (tgt := 75) hx hb dX4_contents_68 (by decide) (fun c68 => ?_) (fun c68 => ?_)
          · first | exact absurd c68 (by decide) | exact (c68 (by decide)).elim
          · refine lv_iconst (v := 2) hx hb dX4_contents_71 (by decide) ?_
            refine lv_goto (tgt := 76) hx hb dX4_contents_72 (by decide) ?_
            refine va_put (D := (dC, dI)) (ci := 4) (v := .int 2) (ty := .int) (C := RX4) (T := TX4) (N := 12) hx hb hts hinX4 tyX4 tyX4_ok nmX4 hown hK hP hD hS 0 rfl rfl 0 (by decide) (hts (.fieldLink RX4 32 "NumberContentsModel" "thrown" "I") (by decide +kernel)) (fun _ h9 => h9) rfl (by decide +kernel) rfl rfl (Nat.le_of_ble_eq_true rfl) dX4_contents_76 (fun H locs hP hD hS => ?_)
            have hP : va_P (dC, dI) vwCl [(mx, .inr (4, [.int 2, .int (nI n), .int (nI dn), .int (nI 0), .int (nI wn), .ref m5, .ref m6, .ref m7, .ref m8, .ref m9, .ref m10, .ref m11])), (m5, .inl (cI, 40, .inl (fun j => nI (z j)))), (m6, .inl (cI, 210, .inl (fun j => nI (rw j)))), (m9, .inl (cB, 8000, .inl (fun j => sb_b (g j)))), (m11, .inl (cB, 200, .inl (fun j => sb_b (by9 j))))] H := hP
            have hD : va_D A [(mx, .inr (4, [.int 2, .int (nI n), .int (nI dn), .int (nI 0), .int (nI wn), .ref m5, .ref m6, .ref m7, .ref m8, .ref m9, .ref m10, .ref m11])), (m5, .inl (cI, 40, .inl (fun j => nI (z j)))), (m6, .inl (cI, 210, .inl (fun j => nI (rw j)))), (m9, .inl (cB, 8000, .inl (fun j => sb_b (g j)))), (m11, .inl (cB, 200, .inl (fun j => sb_b (by9 j))))] := hD
            refine lv_aload_n hx hb dX4_contents_79 rfl (lv_at hl 2 rfl) ?_
            refine va_get (D := (dC, dI)) (ci := 4) (v := .int 2) (C := RX4) (T := TX4) (N := 12) hx hb hts hinX4 hown hK hP 0 rfl rfl 0 (by decide) (hts (.fieldLink RX4 32 "NumberContentsModel" "thrown" "I") (by decide +kernel)) (fun _ h9 => h9) rfl dX4_contents_80 ?_
            refine lv_if_le (tgt := 88) hx hb dX4_contents_83 (by decide) (fun c83 => ?_) (fun c83 => ?_)
            · first | exact absurd c83 (by decide) | exact (c83 (by decide)).elim
            · refine lv_iconst (v := 0) hx hb dX4_contents_86 (by decide) ?_
              have hP9 := hP.sub (ws' := [(mx, .inr (4, [.int 2, .int (nI n), .int (nI dn), .int (nI 0), .int (nI wn), .ref m5, .ref m6, .ref m7, .ref m8, .ref m9, .ref m10, .ref m11])), (m5, .inl (cI, 40, .inl (fun j => nI (z j)))), (m6, .inl (cI, 210, .inl (fun j => nI (rw j)))), (m9, .inl (cB, 8000, .inl (fun j => sb_b (g j)))), (m11, .inl (cB, 200, .inl (fun j => sb_b (by9 j))))]) [0, 1, 2, 3, 4] rfl
              have hD9 := hD.sub (ws' := [(mx, .inr (4, [.int 2, .int (nI n), .int (nI dn), .int (nI 0), .int (nI wn), .ref m5, .ref m6, .ref m7, .ref m8, .ref m9, .ref m10, .ref m11])), (m5, .inl (cI, 40, .inl (fun j => nI (z j)))), (m6, .inl (cI, 210, .inl (fun j => nI (rw j)))), (m9, .inl (cB, 8000, .inl (fun j => sb_b (g j)))), (m11, .inl (cB, 200, .inl (fun j => sb_b (by9 j))))]) [0, 1, 2, 3, 4] (by decide) rfl
              have hK9 := hK.sub (tys' := [(cI, .int), (cB, .byte)]) [0, 1] rfl
              exact W.iret (v := 0) hx hb hr (fun tS htS hW => ⟨⟨0, (2, n, g, z, rw), rfl, (by first | exact ⟨hrw, Or.inr (Or.inl ⟨rfl, rfl, rfl, rfl, hbn1, fw_no hby hfn.1 hfn.2⟩)⟩ | exact ⟨hrw, Or.inl ⟨rfl, rfl, rfl, rfl, (nI_eq (b := 0) (by omega) (by omega)).mp c60⟩⟩), by rw [htS]; exact hP9, va_K.moved hW.alike hK9, hD9⟩, hS.F htS⟩) hS.2.2 dX4_contents_87
        · refine lv_iconst (v := 1) hx hb dX4_contents_63 (by decide) ?_
          refine lv_goto (tgt := 76) hx hb dX4_contents_64 (by decide) ?_
          refine va_put (D := (dC, dI)) (ci := 4) (v := .int 1) (ty := .int) (C := RX4) (T := TX4) (N := 12) hx hb hts hinX4 tyX4 tyX4_ok nmX4 hown hK hP hD hS 0 rfl rfl 0 (by decide) (hts (.fieldLink RX4 32 "NumberContentsModel" "thrown" "I") (by decide +kernel)) (fun _ h9 => h9) rfl (by decide +kernel) rfl rfl (Nat.le_of_ble_eq_true rfl) dX4_contents_76 (fun H locs hP hD hS => ?_)
          have hP : va_P (dC, dI) vwCl [(mx, .inr (4, [.int 1, .int (nI n), .int (nI dn), .int (nI 0), .int (nI wn), .ref m5, .ref m6, .ref m7, .ref m8, .ref m9, .ref m10, .ref m11])), (m5, .inl (cI, 40, .inl (fun j => nI (z j)))), (m6, .inl (cI, 210, .inl (fun j => nI (rw j)))), (m9, .inl (cB, 8000, .inl (fun j => sb_b (g j)))), (m11, .inl (cB, 200, .inl (fun j => sb_b (by9 j))))] H := hP
          have hD : va_D A [(mx, .inr (4, [.int 1, .int (nI n), .int (nI dn), .int (nI 0), .int (nI wn), .ref m5, .ref m6, .ref m7, .ref m8, .ref m9, .ref m10, .ref m11])), (m5, .inl (cI, 40, .inl (fun j => nI (z j)))), (m6, .inl (cI, 210, .inl (fun j => nI (rw j)))), (m9, .inl (cB, 8000, .inl (fun j => sb_b (g j)))), (m11, .inl (cB, 200, .inl (fun j => sb_b (by9 j))))] := hD
          refine lv_aload_n hx hb dX4_contents_79 rfl (lv_at hl 2 rfl) ?_
          refine va_get (D := (dC, dI)) (ci := 4) (v := .int 1) (C := RX4) (T := TX4) (N := 12) hx hb hts hinX4 hown hK hP 0 rfl rfl 0 (by decide) (hts (.fieldLink RX4 32 "NumberContentsModel" "thrown" "I") (by decide +kernel)) (fun _ h9 => h9) rfl dX4_contents_80 ?_
          refine lv_if_le (tgt := 88) hx hb dX4_contents_83 (by decide) (fun c83 => ?_) (fun c83 => ?_)
          · first | exact absurd c83 (by decide) | exact (c83 (by decide)).elim
          · refine lv_iconst (v := 0) hx hb dX4_contents_86 (by decide) ?_
            have hP9 := hP.sub (ws' := [(mx, .inr (4, [.int 1, .int (nI n), .int (nI dn), .int (nI 0), .int (nI wn), .ref m5, .ref m6, .ref m7, .ref m8, .ref m9, .ref m10, .ref m11])), (m5, .inl (cI, 40, .inl (fun j => nI (z j)))), (m6, .inl (cI, 210, .inl (fun j => nI (rw j)))), (m9, .inl (cB, 8000, .inl (fun j => sb_b (g j)))), (m11, .inl (cB, 200, .inl (fun j => sb_b (by9 j))))]) [0, 1, 2, 3, 4] rfl
            have hD9 := hD.sub (ws' := [(mx, .inr (4, [.int 1, .int (nI n), .int (nI dn), .int (nI 0), .int (nI wn), .ref m5, .ref m6, .ref m7, .ref m8, .ref m9, .ref m10, .ref m11])), (m5, .inl (cI, 40, .inl (fun j => nI (z j)))), (m6, .inl (cI, 210, .inl (fun j => nI (rw j)))), (m9, .inl (cB, 8000, .inl (fun j => sb_b (g j)))), (m11, .inl (cB, 200, .inl (fun j => sb_b (by9 j))))]) [0, 1, 2, 3, 4] (by decide) rfl
            have hK9 := hK.sub (tys' := [(cI, .int), (cB, .byte)]) [0, 1] rfl
            exact W.iret (v := 0) hx hb hr (fun tS htS hW => ⟨⟨0, (1, n, g, z, rw), rfl, (by first | exact ⟨hrw, Or.inr (Or.inl ⟨rfl, rfl, rfl, rfl, hbn1, fw_no hby hfn.1 hfn.2⟩)⟩ | exact ⟨hrw, Or.inl ⟨rfl, rfl, rfl, rfl, (nI_eq (b := 0) (by omega) (by omega)).mp c60⟩⟩), by rw [htS]; exact hP9, va_K.moved hW.alike hK9, hD9⟩, hS.F htS⟩) hS.2.2 dX4_contents_87
      · refine lv_aload_n hx hb dX4_contents_33 rfl (lv_at hl 1 rfl) ?_
        refine va_get (D := (dC, dI)) (ci := 4) (v := .ref m11) (C := RX4) (T := TX4) (N := 12) hx hb hts hinX4 hown hK hP 0 rfl rfl 11 (by decide) (hts (.fieldLink RX4 29 "NumberContentsModel" "bytes" "[B") (by decide +kernel)) (fun _ h9 => h9) rfl dX4_contents_34 ?_
        refine lv_iconst (v := (nI 0)) hx hb dX4_contents_37 (by decide) ?_
        refine va_bald hx hb hK hP 4 1 rfl rfl (vp_in_nI (by omega) (by omega)) dX4_contents_38 ?_
        refine lv_topi (fun x38 e38 => ?_)
        obtain rfl : x38 = sb_b (by9 0) := e38.trans (atsb (k := 0) (by omega))
        refine lv_iconst (v := (-1)) hx hb dX4_contents_39 (by decide) ?_
        refine lv_icmp_ne (tgt := 52) hx hb dX4_contents_40 (by decide) (fun c40 => ?_) (fun c40 => ?_)
        · have hfy : bn < 2 ∨ ¬ ((by9 0 = 0 ∧ by9 1 < 128) ∨ (by9 0 = 255 ∧ 128 ≤ by9 1)) := (by first | exact Or.inl ((nI_ltI (by omega) (by omega)).mp c12) | exact Or.inr (fun y => y.elim (fun y => by first | exact c21 ((sb_0 (hby 0)).mpr y.1) | exact c30 ((sb_ge _ (hby 1)).mpr y.2)) (fun y => by first | exact c40 ((sb_m (hby 0)).mpr y.1) | exact c49 ((sb_lt0 _ (hby 1)).mpr y.2))))
          refine lv_iconst (v := 1) hx hb dX4_contents_52 (by decide) ?_
          refine lv_goto (tgt := 57) hx hb dX4_contents_53 (by decide) ?_
          refine lv_istore_n (lv' := [(2, .int 1), (1, .int (nI bn)), (0, .ref mx)]) hx hb dX4_contents_57 rfl hl (by decide) rfl (fun ls hl => ?_)
          refine lv_aload_n hx hb dX4_contents_58 rfl (lv_at hl 2 rfl) ?_
          refine lv_iload_n hx hb dX4_contents_59 rfl (lv_at hl 1 rfl) ?_
          refine lv_if_ne (tgt := 67) hx hb dX4_contents_60 (by decide) (fun c60 => ?_) (fun c60 => ?_)
          · have hbn1 : 1 ≤ bn := Nat.pos_of_ne_zero (fun y => c60 (by rw [y]; rfl))
            refine lv_iload_n hx hb dX4_contents_67 rfl (lv_at hl 0 rfl) ?_
            refine lv_if_ne (tgt := 75) hx hb dX4_contents_68 (by decide) (fun c68 => ?_) (fun c68 => ?_)
            · refine lv_iconst (v := 0) hx hb dX4_contents_75 (by decide) ?_
              refine va_put (D := (dC, dI)) (ci := 4) (v := .int 0) (ty := .int) (C := RX4) (T := TX4) (N := 12) hx hb hts hinX4 tyX4 tyX4_ok nmX4 hown hK hP hD hS 0 rfl rfl 0 (by decide) (hts (.fieldLink RX4 32 "NumberContentsModel" "thrown" "I") (by decide +kernel)) (fun _ h9 => h9) rfl (by decide +kernel) rfl rfl (Nat.le_of_ble_eq_true rfl) dX4_contents_76 (fun H locs hP hD hS => ?_)
              have hP : va_P (dC, dI) vwCl [(mx, .inr (4, [.int 0, .int (nI n), .int (nI dn), .int (nI 0), .int (nI wn), .ref m5, .ref m6, .ref m7, .ref m8, .ref m9, .ref m10, .ref m11])), (m5, .inl (cI, 40, .inl (fun j => nI (z j)))), (m6, .inl (cI, 210, .inl (fun j => nI (rw j)))), (m9, .inl (cB, 8000, .inl (fun j => sb_b (g j)))), (m11, .inl (cB, 200, .inl (fun j => sb_b (by9 j))))] H := hP
              have hD : va_D A [(mx, .inr (4, [.int 0, .int (nI n), .int (nI dn), .int (nI 0), .int (nI wn), .ref m5, .ref m6, .ref m7, .ref m8, .ref m9, .ref m10, .ref m11])), (m5, .inl (cI, 40, .inl (fun j => nI (z j)))), (m6, .inl (cI, 210, .inl (fun j => nI (rw j)))), (m9, .inl (cB, 8000, .inl (fun j => sb_b (g j)))), (m11, .inl (cB, 200, .inl (fun j => sb_b (by9 j))))] := hD
              refine lv_aload_n hx hb dX4_contents_79 rfl (lv_at hl 2 rfl) ?_
              refine va_get (D := (dC, dI)) (ci := 4) (v := .int 0) (C := RX4) (T := TX4) (N := 12) hx hb hts hinX4 hown hK hP 0 rfl rfl 0 (by decide) (hts (.fieldLink RX4 32 "NumberContentsModel" "thrown" "I") (by decide +kernel)) (fun _ h9 => h9) rfl dX4_contents_80 ?_
              refine lv_if_le (tgt := 88) hx hb dX4_contents_83 (by decide) (fun c83 => ?_) (fun c83 => ?_)
              · have hisz := fw_yes hby hbn1 hfy
                refine lv_iconst (v := (nI 0)) hx hb dX4_contents_88 (by decide) ?_
                refine lv_istore_n (lv' := [(3, .int (nI 0)), (2, .int 1), (1, .int (nI bn)), (0, .ref mx)]) hx hb dX4_contents_89 rfl hl (by decide) rfl (fun ls hl => ?_)
                have LP90 : ∀ (n9 : Nat) (i : Nat) (w2 : Nat → Nat) (hm : (210 - i) < n9) (hi : i ≤ 210) (hw2 : ∀ j, w2 j < 256) (hlo : ∀ j, j < i → j < bn → w2 j = by9 (bn - 1 - j)) (hhi : ∀ j, j < i → bn ≤ j → w2 j = (if 128 ≤ by9 0 then 255 else 0)) (H : Heap) (locs : List Loc) (ls : Array Slot) (hP : va_P (dC, dI) vwCl [(mx, .inr (4, [.int 0, .int (nI n), .int (nI dn), .int (nI 0), .int (nI wn), .ref m5, .ref m6, .ref m7, .ref m8, .ref m9, .ref m10, .ref m11])), (m5, .inl (cI, 40, .inl (fun j => nI (z j)))), (m6, .inl (cI, 210, .inl (fun j => nI (w2 j)))), (m9, .inl (cB, 8000, .inl (fun j => sb_b (g j)))), (m11, .inl (cB, 200, .inl (fun j => sb_b (by9 j))))] H) (hD : va_D A [(mx, .inr (4, [.int 0, .int (nI n), .int (nI dn), .int (nI 0), .int (nI wn), .ref m5, .ref m6, .ref m7, .ref m8, .ref m9, .ref m10, .ref m11])), (m5, .inl (cI, 40, .inl (fun j => nI (z j)))), (m6, .inl (cI, 210, .inl (fun j => nI (w2 j)))), (m9, .inl (cB, 8000, .inl (fun j => sb_b (g j)))), (m11, .inl (cB, 200, .inl (fun j => sb_b (by9 j))))]) (hS : va_S A s.heap H locs) (hl : lv_has ls 4 [(0, .ref mx), (1, .int (nI bn)), (3, .int (nI i))]), W p l e (headSpec wsX4_contents ({ frames := 3, cells := 0, slots := 0, locals := 66 } : Room)).room s m ([.ref mx]).toArray below meth c H locs 0 0 (MQ below (va_Qi (fun (r : Int32) (uS : Int32 × Nat × (Nat → Nat) × (Nat → Nat) × (Nat → Nat)) => match uS with | (th3, n3, g3, z3, rw3) => (∀ j, rw3 j < 256) ∧ ((th3 = 1 ∧ n3 = n ∧ g3 = g ∧ z3 = z ∧ bn = 0) ∨ (th3 = 2 ∧ n3 = n ∧ g3 = g ∧ z3 = z ∧ 1 ≤ bn ∧ ¬ isz (sv (fun j => by9 (bn - 1 - j)) bn) bn) ∨ (th3 = 0 ∧ n3 = n + 1 ∧ 1 ≤ bn ∧ isz (sv (fun j => by9 (bn - 1 - j)) bn) bn ∧ KEPTM n g z g3 z3 (sv (fun j => by9 (bn - 1 - j)) bn) r) ∨ (th3 = 3 ∧ n3 = n ∧ g3 = g ∧ z3 = z ∧ 1 ≤ bn ∧ isz (sv (fun j => by9 (bn - 1 - j)) bn) bn ∧ NOKEEP n (sv (fun j => by9 (bn - 1 - j)) bn)))) (fun (uS : Int32 × Nat × (Nat → Nat) × (Nat → Nat) × (Nat → Nat)) (tS : State) => match uS with | (th3, n3, g3, z3, rw3) => va_P (dC, dI) vwCl [(mx, .inr (4, [.int th3, .int (nI n3), .int (nI dn), .int (nI 0), .int (nI wn), .ref m5, .ref m6, .ref m7, .ref m8, .ref m9, .ref m10, .ref m11])), (m5, .inl (cI, 40, .inl (fun j => nI (z3 j)))), (m6, .inl (cI, 210, .inl (fun j => nI (rw3 j)))), (m9, .inl (cB, 8000, .inl (fun j => sb_b (g3 j)))), (m11, .inl (cB, 200, .inl (fun j => sb_b (by9 j))))] tS.heap ∧ va_K (dC, dI) vwCl [(cI, .int), (cB, .byte)] tS ∧ va_D A [(mx, .inr (4, [.int th3, .int (nI n3), .int (nI dn), .int (nI 0), .int (nI wn), .ref m5, .ref m6, .ref m7, .ref m8, .ref m9, .ref m10, .ref m11])), (m5, .inl (cI, 40, .inl (fun j => nI (z3 j)))), (m6, .inl (cI, 210, .inl (fun j => nI (rw3 j)))), (m9, .inl (cB, 8000, .inl (fun j => sb_b (g3 j)))), (m11, .inl (cB, 200, .inl (fun j => sb_b (by9 j))))]) A) ([.ref mx]).toArray s 0 0 A) (F0 m 90 ls []) := by
                  intro n9
                  induction n9 with
                  | zero => intro i w2 hm; exact absurd hm (Nat.not_lt_zero _)
                  | succ n9 ih =>
                    intro i w2 hm hi hw2 hlo hhi H locs ls hP hD hS hl
                    have ih90 := ih
                    refine lv_iload_n hx hb dX4_contents_90 rfl (lv_at hl 2 rfl) ?_
                    refine lv_sipush (v := (nI 210)) hx hb dX4_contents_91 (by decide) ?_
                    refine lv_icmp_ge (tgt := 147) hx hb dX4_contents_94 (by decide) (fun c94 => ?_) (fun c94 => ?_)
                    · obtain rfl : i = 210 := Nat.le_antisymm hi ((nI_leI (by omega) (by omega)).mp c94)
                      have hZK : sv w2 210 = sv (fun j => by9 (bn - 1 - j)) bn := ext_sv (r := fun j => by9 (bn - 1 - j)) (fl := if 128 ≤ by9 0 then 255 else 0) hbn1 (by omega) (by show _ ∧ 128 ≤ by9 (bn - 1 - (bn - 1)) ∨ _ ∧ by9 (bn - 1 - (bn - 1)) < 128; rw [Nat.sub_self]; by_cases y : 128 ≤ by9 0; exact Or.inl ⟨if_pos y, y⟩; exact Or.inr ⟨if_neg y, by omega⟩) (fun j hj => hlo j (by omega) hj) (fun j h1 h2 => hhi j h2 h1)
                      refine lv_aload_n hx hb dX4_contents_147 rfl (lv_at hl 0 rfl) ?_
                      refine lv_iconst (v := 3) hx hb dX4_contents_148 (by decide) ?_
                      have hPc := hP.sub (ws' := [(mx, .inr (4, [.int 0, .int (nI n), .int (nI dn), .int (nI 0), .int (nI wn), .ref m5, .ref m6, .ref m7, .ref m8, .ref m9, .ref m10, .ref m11])), (m5, .inl (cI, 40, .inl (fun j => nI (z j)))), (m6, .inl (cI, 210, .inl (fun j => nI (w2 j)))), (m9, .inl (cB, 8000, .inl (fun j => sb_b (g j))))]) [0, 1, 2, 3] rfl
                      have hKc := hK.sub (tys' := [(cI, .int), (cB, .byte)]) [0, 1] rfl
                      have hDc := hD.sub (ws' := [(mx, .inr (4, [.int 0, .int (nI n), .int (nI dn), .int (nI 0), .int (nI wn), .ref m5, .ref m6, .ref m7, .ref m8, .ref m9, .ref m10, .ref m11])), (m5, .inl (cI, 40, .inl (fun j => nI (z j)))), (m6, .inl (cI, 210, .inl (fun j => nI (w2 j)))), (m9, .inl (cB, 8000, .inl (fun j => sb_b (g j))))]) [0, 1, 2, 3] (by decide) rfl
                      have hFc := va_free (wc := [(mx, .inr (4, [.int 0, .int (nI n), .int (nI dn), .int (nI 0), .int (nI wn), .ref m5, .ref m6, .ref m7, .ref m8, .ref m9, .ref m10, .ref m11])), (m5, .inl (cI, 40, .inl (fun j => nI (z j)))), (m6, .inl (cI, 210, .inl (fun j => nI (w2 j)))), (m9, .inl (cB, 8000, .inl (fun j => sb_b (g j))))]) hD hS hA [0, 1, 2, 3] rfl
                      refine va_calli (va_runV (As := [.int 3]) (rest := []) ⟨hx, hb, hml, hown, hts⟩ (c_X4_keep l dC dI cI cB mx m5 m6 m7 m8 m9 m10 m11 n dn 0 wn 0 g z w2 3 H.size hI hw2 (Or.inr rfl)) (cwV 1 hts gX4_contents_X4_keep rfl rfl rfl (by decide +kernel) ⟨Nat.le_of_ble_eq_true rfl, Nat.le_of_ble_eq_true rfl⟩) ⟨fun a U g mk q => by obtain ⟨q0, q1, qP, qK, qD⟩ := q; exact ⟨q0, q1, qP, va_K.moved (u := U) (U := U.calling g mk a) (Vm.Alike.refl U.vm) qK, qD⟩, va_recv hKc hPc (ci := 4) (q0 := 0) rfl rfl, fun U hU hW => ⟨rfl, by rw [hU], by rw [hU]; exact hPc, va_K.moved hW.alike hKc, hDc.weaken (fun _ _ _ _ => trivial)⟩⟩ rfl rfl hl.1 rfl (lv_room (Nat.le_of_ble_eq_true rfl)) dX4_contents_149 ⟨Nat.le_of_ble_eq_true rfl, Nat.le_of_ble_eq_true rfl⟩) hS (fun q _ h => hFc q h) hFc (fun r149 uS tS H1 locs htS hvm h149 hB hzS hkS hS => ?_)
                      obtain ⟨th3_149, n3_149, g3_149, z3_149⟩ := uS
                      obtain ⟨hP1, hK1, hD1⟩ := hB
                      rw [htS] at hP1
                      have hK1 := va_K.moved hvm.symm hK1
                      try dsimp only at h149
                      obtain ⟨hP, hD⟩ := va_join (wr := [(m11, .inl (cB, 200, .inl (fun j => sb_b (by9 j))))]) (w1 := [(mx, .inr (4, [.int th3_149, .int (nI n3_149), .int (nI dn), .int (nI 0), .int (nI wn), .ref m5, .ref m6, .ref m7, .ref m8, .ref m9, .ref m10, .ref m11])), (m5, .inl (cI, 40, .inl (fun j => nI (z3_149 j)))), (m6, .inl (cI, 210, .inl (fun j => nI (w2 j)))), (m9, .inl (cB, 8000, .inl (fun j => sb_b (g3_149 j))))]) hP hD [0, 1, 2, 3] [4] rfl rfl (by decide) (by decide) hkS hFc hP1 hD1
                      generalize H1 = H at hP hS ⊢
                      have hP : va_P (dC, dI) vwCl [(m11, .inl (cB, 200, .inl (fun j => sb_b (by9 j)))), (mx, .inr (4, [.int th3_149, .int (nI n3_149), .int (nI dn), .int (nI 0), .int (nI wn), .ref m5, .ref m6, .ref m7, .ref m8, .ref m9, .ref m10, .ref m11])), (m5, .inl (cI, 40, .inl (fun j => nI (z3_149 j)))), (m6, .inl (cI, 210, .inl (fun j => nI (w2 j)))), (m9, .inl (cB, 8000, .inl (fun j => sb_b (g3_149 j))))] H := hP
                      have hD : va_D A [(m11, .inl (cB, 200, .inl (fun j => sb_b (by9 j)))), (mx, .inr (4, [.int th3_149, .int (nI n3_149), .int (nI dn), .int (nI 0), .int (nI wn), .ref m5, .ref m6, .ref m7, .ref m8, .ref m9, .ref m10, .ref m11])), (m5, .inl (cI, 40, .inl (fun j => nI (z3_149 j)))), (m6, .inl (cI, 210, .inl (fun j => nI (w2 j)))), (m9, .inl (cB, 8000, .inl (fun j => sb_b (g3_149 j))))] := hD
                      rw [hZK] at h149
                      have hP9 := hP.sub (ws' := [(mx, .inr (4, [.int th3_149, .int (nI n3_149), .int (nI dn), .int (nI 0), .int (nI wn), .ref m5, .ref m6, .ref m7, .ref m8, .ref m9, .ref m10, .ref m11])), (m5, .inl (cI, 40, .inl (fun j => nI (z3_149 j)))), (m6, .inl (cI, 210, .inl (fun j => nI (w2 j)))), (m9, .inl (cB, 8000, .inl (fun j => sb_b (g3_149 j)))), (m11, .inl (cB, 200, .inl (fun j => sb_b (by9 j))))]) [1, 2, 3, 4, 0] rfl
                      have hD9 := hD.sub (ws' := [(mx, .inr (4, [.int th3_149, .int (nI n3_149), .int (nI dn), .int (nI 0), .int (nI wn), .ref m5, .ref m6, .ref m7, .ref m8, .ref m9, .ref m10, .ref m11])), (m5, .inl (cI, 40, .inl (fun j => nI (z3_149 j)))), (m6, .inl (cI, 210, .inl (fun j => nI (w2 j)))), (m9, .inl (cB, 8000, .inl (fun j => sb_b (g3_149 j)))), (m11, .inl (cB, 200, .inl (fun j => sb_b (by9 j))))]) [1, 2, 3, 4, 0] (by decide) rfl
                      have hK9 := hK.sub (tys' := [(cI, .int), (cB, .byte)]) [0, 1] rfl
                      exact W.iret (v := r149) hx hb hr (fun tS htS hW => ⟨⟨r149, (th3_149, n3_149, g3_149, z3_149, w2), rfl, ⟨hw2, Or.inr (Or.inr (h149.elim (fun y => Or.inl ⟨y.1, y.2.1, hbn1, hisz, y.2.2⟩) (fun y => Or.inr ⟨y.1, y.2.1, y.2.2.1, y.2.2.2.1, hbn1, hisz, y.2.2.2.2⟩)))⟩, by rw [htS]; exact hP9, va_K.moved hW.alike hK9, hD9⟩, hS.F htS⟩) hS.2.2 dX4_contents_152
                    · have hlt : i < 210 := Nat.lt_of_not_le (fun h => c94 (nI_le h (by omega)))
                      refine lv_aload_n hx hb dX4_contents_97 rfl (lv_at hl 0 rfl) ?_
                      refine va_get (D := (dC, dI)) (ci := 4) (v := .ref m6) (C := RX4) (T := TX4) (N := 12) hx hb hts hinX4 hown hK hP 0 rfl rfl 6 (by decide) (hts (.fieldLink RX4 13 "NumberContentsModel" "row" "[I") (by decide +kernel)) (fun _ h9 => h9) rfl dX4_contents_98 ?_
                      refine lv_iload_n hx hb dX4_contents_101 rfl (lv_at hl 2 rfl) ?_
                      refine lv_iload_n hx hb dX4_contents_102 rfl (lv_at hl 2 rfl) ?_
                      refine lv_iload_n hx hb dX4_contents_103 rfl (lv_at hl 1 rfl) ?_
                      refine lv_icmp_ge (tgt := 124) hx hb dX4_contents_104 (by decide) (fun c104 => ?_) (fun c104 => ?_)
                      · have hge2 : bn ≤ i := (nI_leI (by omega) (by omega)).mp c104
                        refine lv_aload_n hx hb dX4_contents_124 rfl (lv_at hl 0 rfl) ?_
                        refine va_get (D := (dC, dI)) (ci := 4) (v := .ref m11) (C := RX4) (T := TX4) (N := 12) hx hb hts hinX4 hown hK hP 0 rfl rfl 11 (by decide) (hts (.fieldLink RX4 29 "NumberContentsModel" "bytes" "[B") (by decide +kernel)) (fun _ h9 => h9) rfl dX4_contents_125 ?_
                        refine lv_iconst (v := (nI 0)) hx hb dX4_contents_128 (by decide) ?_
                        refine va_bald hx hb hK hP 4 1 rfl rfl (vp_in_nI (by omega) (by omega)) dX4_contents_129 ?_
                        refine lv_topi (fun x129 e129 => ?_)
                        obtain rfl : x129 = sb_b (by9 0) := e129.trans (atsb (k := 0) (by omega))
                        refine lv_if_ge (tgt := 139) hx hb dX4_contents_130 (by decide) (fun c130 => ?_) (fun c130 => ?_)
                        · refine lv_iconst (v := (nI 0)) hx hb dX4_contents_139 (by decide) ?_
                          refine va_iast hx hb hK hP hD hS 2 0 rfl rfl (vp_in_nI (by omega) (by omega)) dX4_contents_140 (fun H locs hP hD hS => ?_)
                          have hP : va_P (dC, dI) vwCl [(mx, .inr (4, [.int 0, .int (nI n), .int (nI dn), .int (nI 0), .int (nI wn), .ref m5, .ref m6, .ref m7, .ref m8, .ref m9, .ref m10, .ref m11])), (m5, .inl (cI, 40, .inl (fun j => nI (z j)))), (m6, .inl (cI, 210, .inl (upd (fun j => nI (w2 j)) (nI i).toNatClampNeg (nI 0)))), (m9, .inl (cB, 8000, .inl (fun j => sb_b (g j)))), (m11, .inl (cB, 200, .inl (fun j => sb_b (by9 j))))] H := hP
                          have hD : va_D A [(mx, .inr (4, [.int 0, .int (nI n), .int (nI dn), .int (nI 0), .int (nI wn), .ref m5, .ref m6, .ref m7, .ref m8, .ref m9, .ref m10, .ref m11])), (m5, .inl (cI, 40, .inl (fun j => nI (z j)))), (m6, .inl (cI, 210, .inl (upd (fun j => nI (w2 j)) (nI i).toNatClampNeg (nI 0)))), (m9, .inl (cB, 8000, .inl (fun j => sb_b (g j)))), (m11, .inl (cB, 200, .inl (fun j => sb_b (by9 j))))] := hD
                          obtain ⟨f140, e140⟩ : ∃ zz9 : Nat → Int32, zz9 = upd (fun j => nI (w2 j)) (nI i).toNatClampNeg (nI 0) := ⟨_, rfl⟩
                          rw [← e140] at hP hD
                          obtain rfl : f140 = fun j => nI (va_up w2 i 0 j) := e140.trans (upg (by omega))
                          obtain ⟨x141, e141⟩ : ∃ zz9 : Int32, zz9 = (nI i) + 1 := ⟨_, rfl⟩
                          refine lv_iinc (v := x141) (lv' := [(3, .int x141), (0, .ref mx), (1, .int (nI bn))]) hx hb dX4_contents_141 hl (k := 2) rfl (by rw [e141]; rfl) (by decide) rfl (fun ls hl => ?_)
                          obtain rfl : x141 = nI (i + 1) := e141.trans (nI_1 i)
                          refine lv_goto (tgt := 90) hx hb dX4_contents_144 (by decide) ?_
                          exact ih90 (i + 1) (va_up w2 i 0) (by omega) (by omega) (up_lt hw2 (by decide)) (ct_lo2 hge2 hlo) (ct_hi2 (by rw [if_neg (by have := (sb_ge _ (hby 0)).mp c130; omega)]) hhi) _ _ _ (hP.sub [0, 1, 2, 3, 4] rfl) (hD.sub [0, 1, 2, 3, 4] (by decide) rfl) hS (lv_sub hl [1, 2, 0] rfl)
                        · refine lv_sipush (v := (nI 255)) hx hb dX4_contents_133 (by decide) ?_
                          refine lv_goto (tgt := 140) hx hb dX4_contents_136 (by decide) ?_
                          refine va_iast hx hb hK hP hD hS 2 0 rfl rfl (vp_in_nI (by omega) (by omega)) dX4_contents_140 (fun H locs hP hD hS => ?_)
                          have hP : va_P (dC, dI) vwCl [(mx, .inr (4, [.int 0, .int (nI n), .int (nI dn), .int (nI 0), .int (nI wn), .ref m5, .ref m6, .ref m7, .ref m8, .ref m9, .ref m10, .ref m11])), (m5, .inl (cI, 40, .inl (fun j => nI (z j)))), (m6, .inl (cI, 210, .inl (upd (fun j => nI (w2 j)) (nI i).toNatClampNeg (nI 255)))), (m9, .inl (cB, 8000, .inl (fun j => sb_b (g j)))), (m11, .inl (cB, 200, .inl (fun j => sb_b (by9 j))))] H := hP
                          have hD : va_D A [(mx, .inr (4, [.int 0, .int (nI n), .int (nI dn), .int (nI 0), .int (nI wn), .ref m5, .ref m6, .ref m7, .ref m8, .ref m9, .ref m10, .ref m11])), (m5, .inl (cI, 40, .inl (fun j => nI (z j)))), (m6, .inl (cI, 210, .inl (upd (fun j => nI (w2 j)) (nI i).toNatClampNeg (nI 255)))), (m9, .inl (cB, 8000, .inl (fun j => sb_b (g j)))), (m11, .inl (cB, 200, .inl (fun j => sb_b (by9 j))))] := hD
                          obtain ⟨f140, e140⟩ : ∃ zz9 : Nat → Int32, zz9 = upd (fun j => nI (w2 j)) (nI i).toNatClampNeg (nI 255) := ⟨_, rfl⟩
                          rw [← e140] at hP hD
                          obtain rfl : f140 = fun j => nI (va_up w2 i 255 j) := e140.trans (upg (by omega))
                          obtain ⟨x141, e141⟩ : ∃ zz9 : Int32, zz9 = (nI i) + 1 := ⟨_, rfl⟩
                          refine lv_iinc (v := x141) (lv' := [(3, .int x141), (0, .ref mx), (1, .int (nI bn))]) hx hb dX4_contents_141 hl (k := 2) rfl (by rw [e141]; rfl) (by decide) rfl (fun ls hl => ?_)
                          obtain rfl : x141 = nI (i + 1) := e141.trans (nI_1 i)
                          refine lv_goto (tgt := 90) hx hb dX4_contents_144 (by decide) ?_
                          exact ih90 (i + 1) (va_up w2 i 255) (by omega) (by omega) (up_lt hw2 (by decide)) (ct_lo2 hge2 hlo) (ct_hi2 (by rw [if_pos (Nat.le_of_not_lt (fun y => c130 ((sb_ge _ (hby 0)).mpr y)))]) hhi) _ _ _ (hP.sub [0, 1, 2, 3, 4] rfl) (hD.sub [0, 1, 2, 3, 4] (by decide) rfl) hS (lv_sub hl [1, 2, 0] rfl)
                      · have hlt2 : i < bn := Nat.lt_of_not_le (fun h => c104 (nI_le h (by omega)))
                        refine lv_aload_n hx hb dX4_contents_107 rfl (lv_at hl 0 rfl) ?_
                        refine va_get (D := (dC, dI)) (ci := 4) (v := .ref m11) (C := RX4) (T := TX4) (N := 12) hx hb hts hinX4 hown hK hP 0 rfl rfl 11 (by decide) (hts (.fieldLink RX4 29 "NumberContentsModel" "bytes" "[B") (by decide +kernel)) (fun _ h9 => h9) rfl dX4_contents_108 ?_
                        refine lv_iload_n hx hb dX4_contents_111 rfl (lv_at hl 1 rfl) ?_
                        refine lv_iconst (v := 1) hx hb dX4_contents_112 (by decide) ?_
                        refine lv_isub hx hb dX4_contents_113 ?_
                        refine lv_topi (fun x113 e113 => ?_)
                        obtain rfl : x113 = nI (bn - 1) := e113.trans (nI_m1 (by omega))
                        refine lv_iload_n hx hb dX4_contents_114 rfl (lv_at hl 2 rfl) ?_
                        refine lv_isub hx hb dX4_contents_115 ?_
                        refine lv_topi (fun x115 e115 => ?_)
                        obtain rfl : x115 = nI (bn - 1 - i) := e115.trans (pk_sub (by omega))
                        refine va_bald hx hb hK hP 4 1 rfl rfl (vp_in_nI (by omega) (by omega)) dX4_contents_116 ?_
                        refine lv_topi (fun x116 e116 => ?_)
                        obtain rfl : x116 = sb_b (by9 (bn - 1 - i)) := e116.trans (atsb (by omega))
                        refine lv_sipush (v := 255) hx hb dX4_contents_117 (by decide) ?_
                        refine lv_iand hx hb dX4_contents_120 ?_
                        refine lv_topi (fun x120 e120 => ?_)
                        obtain rfl : x120 = nI (by9 (bn - 1 - i)) := e120.trans (sb_and (hby _))
                        refine lv_goto (tgt := 140) hx hb dX4_contents_121 (by decide) ?_
                        refine va_iast hx hb hK hP hD hS 2 0 rfl rfl (vp_in_nI (by omega) (by omega)) dX4_contents_140 (fun H locs hP hD hS => ?_)
                        have hP : va_P (dC, dI) vwCl [(mx, .inr (4, [.int 0, .int (nI n), .int (nI dn), .int (nI 0), .int (nI wn), .ref m5, .ref m6, .ref m7, .ref m8, .ref m9, .ref m10, .ref m11])), (m5, .inl (cI, 40, .inl (fun j => nI (z j)))), (m6, .inl (cI, 210, .inl (upd (fun j => nI (w2 j)) (nI i).toNatClampNeg (nI (by9 (bn - 1 - i)))))), (m9, .inl (cB, 8000, .inl (fun j => sb_b (g j)))), (m11, .inl (cB, 200, .inl (fun j => sb_b (by9 j))))] H := hP
                        have hD : va_D A [(mx, .inr (4, [.int 0, .int (nI n), .int (nI dn), .int (nI 0), .int (nI wn), .ref m5, .ref m6, .ref m7, .ref m8, .ref m9, .ref m10, .ref m11])), (m5, .inl (cI, 40, .inl (fun j => nI (z j)))), (m6, .inl (cI, 210, .inl (upd (fun j => nI (w2 j)) (nI i).toNatClampNeg (nI (by9 (bn - 1 - i)))))), (m9, .inl (cB, 8000, .inl (fun j => sb_b (g j)))), (m11, .inl (cB, 200, .inl (fun j => sb_b (by9 j))))] := hD
                        obtain ⟨f140, e140⟩ : ∃ zz9 : Nat → Int32, zz9 = upd (fun j => nI (w2 j)) (nI i).toNatClampNeg (nI (by9 (bn - 1 - i))) := ⟨_, rfl⟩
                        rw [← e140] at hP hD
                        obtain rfl : f140 = fun j => nI (va_up w2 i (by9 (bn - 1 - i)) j) := e140.trans (upg (by omega))
                        obtain ⟨x141, e141⟩ : ∃ zz9 : Int32, zz9 = (nI i) + 1 := ⟨_, rfl⟩
                        refine lv_iinc (v := x141) (lv' := [(3, .int x141), (0, .ref mx), (1, .int (nI bn))]) hx hb dX4_contents_141 hl (k := 2) rfl (by rw [e141]; rfl) (by decide) rfl (fun ls hl => ?_)
                        obtain rfl : x141 = nI (i + 1) := e141.trans (nI_1 i)
                        refine lv_goto (tgt := 90) hx hb dX4_contents_144 (by decide) ?_
                        exact ih90 (i + 1) (va_up w2 i (by9 (bn - 1 - i))) (by omega) (by omega) (up_lt hw2 (hby _)) (ct_lo hlo) (fl_hi hlt2 hhi) _ _ _ (hP.sub [0, 1, 2, 3, 4] rfl) (hD.sub [0, 1, 2, 3, 4] (by decide) rfl) hS (lv_sub hl [1, 2, 0] rfl)
                exact LP90 _ 0 rw (Nat.lt_succ_self _) (by omega) hrw (fun j h => absurd h (by omega)) (fun j h => absurd h (by omega)) _ _ _ (hP.sub [0, 1, 2, 3, 4] rfl) (hD.sub [0, 1, 2, 3, 4] (by decide) rfl) hS (lv_sub hl [3, 2, 0] rfl)
              · first | exact absurd c83 (by decide) | exact (c83 (by decide)).elim
            · first | exact absurd c68 (by decide) | exact (c68 (by decide)).elim
          · refine lv_iconst (v := 1) hx hb dX4_contents_63 (by decide) ?_
            refine lv_goto (tgt := 76) hx hb dX4_contents_64 (by decide) ?_
            refine va_put (D := (dC, dI)) (ci := 4) (v := .int 1) (ty := .int) (C := RX4) (T := TX4) (N := 12) hx hb hts hinX4 tyX4 tyX4_ok nmX4 hown hK hP hD hS 0 rfl rfl 0 (by decide) (hts (.fieldLink RX4 32 "NumberContentsModel" "thrown" "I") (by decide +kernel)) (fun _ h9 => h9) rfl (by decide +kernel) rfl rfl (Nat.le_of_ble_eq_true rfl) dX4_contents_76 (fun H locs hP hD hS => ?_)
            have hP : va_P (dC, dI) vwCl [(mx, .inr (4, [.int 1, .int (nI n), .int (nI dn), .int (nI 0), .int (nI wn), .ref m5, .ref m6, .ref m7, .ref m8, .ref m9, .ref m10, .ref m11])), (m5, .inl (cI, 40, .inl (fun j => nI (z j)))), (m6, .inl (cI, 210, .inl (fun j => nI (rw j)))), (m9, .inl (cB, 8000, .inl (fun j => sb_b (g j)))), (m11, .inl (cB, 200, .inl (fun j => sb_b (by9 j))))] H := hP
            have hD : va_D A [(mx, .inr (4, [.int 1, .int (nI n), .int (nI dn), .int (nI 0), .int (nI wn), .ref m5, .ref m6, .ref m7, .ref m8, .ref m9, .ref m10, .ref m11])), (m5, .inl (cI, 40, .inl (fun j => nI (z j)))), (m6, .inl (cI, 210, .inl (fun j => nI (rw j)))), (m9, .inl (cB, 8000, .inl (fun j => sb_b (g j)))), (m11, .inl (cB, 200, .inl (fun j => sb_b (by9 j))))] := hD
            refine lv_aload_n hx hb dX4_contents_79 rfl (lv_at hl 2 rfl) ?_
            refine va_get (D := (dC, dI)) (ci := 4) (v := .int 1) (C := RX4) (T := TX4) (N := 12) hx hb hts hinX4 hown hK hP 0 rfl rfl 0 (by decide) (hts (.fieldLink RX4 32 "NumberContentsModel" "thrown" "I") (by decide +kernel)) (fun _ h9 => h9) rfl dX4_contents_80 ?_
            refine lv_if_le (tgt := 88) hx hb dX4_contents_83 (by decide) (fun c83 => ?_) (fun c83 => ?_)
            · first | exact absurd c83 (by decide) | exact (c83 (by decide)).elim
            · refine lv_iconst (v := 0) hx hb dX4_contents_86 (by decide) ?_
              have hP9 := hP.sub (ws' := [(mx, .inr (4, [.int 1, .int (nI n), .int (nI dn), .int (nI 0), .int (nI wn), .ref m5, .ref m6, .ref m7, .ref m8, .ref m9, .ref m10, .ref m11])), (m5, .inl (cI, 40, .inl (fun j => nI (z j)))), (m6, .inl (cI, 210, .inl (fun j => nI (rw j)))), (m9, .inl (cB, 8000, .inl (fun j => sb_b (g j)))), (m11, .inl (cB, 200, .inl (fun j => sb_b (by9 j))))]) [0, 1, 2, 3, 4] rfl
              have hD9 := hD.sub (ws' := [(mx, .inr (4, [.int 1, .int (nI n), .int (nI dn), .int (nI 0), .int (nI wn), .ref m5, .ref m6, .ref m7, .ref m8, .ref m9, .ref m10, .ref m11])), (m5, .inl (cI, 40, .inl (fun j => nI (z j)))), (m6, .inl (cI, 210, .inl (fun j => nI (rw j)))), (m9, .inl (cB, 8000, .inl (fun j => sb_b (g j)))), (m11, .inl (cB, 200, .inl (fun j => sb_b (by9 j))))]) [0, 1, 2, 3, 4] (by decide) rfl
              have hK9 := hK.sub (tys' := [(cI, .int), (cB, .byte)]) [0, 1] rfl
              exact W.iret (v := 0) hx hb hr (fun tS htS hW => ⟨⟨0, (1, n, g, z, rw), rfl, (by first | exact ⟨hrw, Or.inr (Or.inl ⟨rfl, rfl, rfl, rfl, hbn1, fw_no hby hfn.1 hfn.2⟩)⟩ | exact ⟨hrw, Or.inl ⟨rfl, rfl, rfl, rfl, (nI_eq (b := 0) (by omega) (by omega)).mp c60⟩⟩), by rw [htS]; exact hP9, va_K.moved hW.alike hK9, hD9⟩, hS.F htS⟩) hS.2.2 dX4_contents_87
        · refine lv_aload_n hx hb dX4_contents_43 rfl (lv_at hl 1 rfl) ?_
          refine va_get (D := (dC, dI)) (ci := 4) (v := .ref m11) (C := RX4) (T := TX4) (N := 12) hx hb hts hinX4 hown hK hP 0 rfl rfl 11 (by decide) (hts (.fieldLink RX4 29 "NumberContentsModel" "bytes" "[B") (by decide +kernel)) (fun _ h9 => h9) rfl dX4_contents_44 ?_
          refine lv_iconst (v := (nI 1)) hx hb dX4_contents_47 (by decide) ?_
          refine va_bald hx hb hK hP 4 1 rfl rfl (vp_in_nI (by omega) (by omega)) dX4_contents_48 ?_
          refine lv_topi (fun x48 e48 => ?_)
          obtain rfl : x48 = sb_b (by9 1) := e48.trans (atsb (k := 1) (by omega))
          refine lv_if_lt (tgt := 56) hx hb dX4_contents_49 (by decide) (fun c49 => ?_) (fun c49 => ?_)
          · have hfn : 2 ≤ bn ∧ ((by9 0 = 0 ∧ by9 1 < 128) ∨ (by9 0 = 255 ∧ 128 ≤ by9 1)) := (by first | exact ⟨Nat.le_of_not_lt (fun y => c12 (nI_lt y (by omega))), Or.inl ⟨(sb_0 (hby 0)).mp c21, (sb_ge _ (hby 1)).mp c30⟩⟩ | exact ⟨Nat.le_of_not_lt (fun y => c12 (nI_lt y (by omega))), Or.inr ⟨(sb_m (hby 0)).mp c40, (sb_lt0 _ (hby 1)).mp c49⟩⟩)
            refine lv_iconst (v := 0) hx hb dX4_contents_56 (by decide) ?_
            refine lv_istore_n (lv' := [(2, .int 0), (1, .int (nI bn)), (0, .ref mx)]) hx hb dX4_contents_57 rfl hl (by decide) rfl (fun ls hl => ?_)
            refine lv_aload_n hx hb dX4_contents_58 rfl (lv_at hl 2 rfl) ?_
            refine lv_iload_n hx hb dX4_contents_59 rfl (lv_at hl 1 rfl) ?_
            refine lv_if_ne (tgt := 67) hx hb dX4_contents_60 (by decide) (fun c60 => ?_) (fun c60 => ?_)
            · have hbn1 : 1 ≤ bn := Nat.pos_of_ne_zero (fun y => c60 (by rw [y]; rfl))
              refine lv_iload_n hx hb dX4_contents_67 rfl (lv_at hl 0 rfl) ?_
              refine lv_if_ne (tgt := 75) hx hb dX4_contents_68 (by decide) (fun c68 => ?_) (fun c68 => ?_)
              · first | exact absurd c68 (by decide) | exact (c68 (by decide)).elim
              · refine lv_iconst (v := 2) hx hb dX4_contents_71 (by decide) ?_
                refine lv_goto (tgt := 76) hx hb dX4_contents_72 (by decide) ?_
                refine va_put (D := (dC, dI)) (ci := 4) (v := .int 2) (ty := .int) (C := RX4) (T := TX4) (N := 12) hx hb hts hinX4 tyX4 tyX4_ok nmX4 hown hK hP hD hS 0 rfl rfl 0 (by decide) (hts (.fieldLink RX4 32 "NumberContentsModel" "thrown" "I") (by decide +kernel)) (fun _ h9 => h9) rfl (by decide +kernel) rfl rfl (Nat.le_of_ble_eq_true rfl) dX4_contents_76 (fun H locs hP hD hS => ?_)
                have hP : va_P (dC, dI) vwCl [(mx, .inr (4, [.int 2, .int (nI n), .int (nI dn), .int (nI 0), .int (nI wn), .ref m5, .ref m6, .ref m7, .ref m8, .ref m9, .ref m10, .ref m11])), (m5, .inl (cI, 40, .inl (fun j => nI (z j)))), (m6, .inl (cI, 210, .inl (fun j => nI (rw j)))), (m9, .inl (cB, 8000, .inl (fun j => sb_b (g j)))), (m11, .inl (cB, 200, .inl (fun j => sb_b (by9 j))))] H := hP
                have hD : va_D A [(mx, .inr (4, [.int 2, .int (nI n), .int (nI dn), .int (nI 0), .int (nI wn), .ref m5, .ref m6, .ref m7, .ref m8, .ref m9, .ref m10, .ref m11])), (m5, .inl (cI, 40, .inl (fun j => nI (z j)))), (m6, .inl (cI, 210, .inl (fun j => nI (rw j)))), (m9, .inl (cB, 8000, .inl (fun j => sb_b (g j)))), (m11, .inl (cB, 200, .inl (fun j => sb_b (by9 j))))] := hD
                refine lv_aload_n hx hb dX4_contents_79 rfl (lv_at hl 2 rfl) ?_
                refine va_get (D := (dC, dI)) (ci := 4) (v := .int 2) (C := RX4) (T := TX4) (N := 12) hx hb hts hinX4 hown hK hP 0 rfl rfl 0 (by decide) (hts (.fieldLink RX4 32 "NumberContentsModel" "thrown" "I") (by decide +kernel)) (fun _ h9 => h9) rfl dX4_contents_80 ?_
                refine lv_if_le (tgt := 88) hx hb dX4_contents_83 (by decide) (fun c83 => ?_) (fun c83 => ?_)
                · first | exact absurd c83 (by decide) | exact (c83 (by decide)).elim
                · refine lv_iconst (v := 0) hx hb dX4_contents_86 (by decide) ?_
                  have hP9 := hP.sub (ws' := [(mx, .inr (4, [.int 2, .int (nI n), .int (nI dn), .int (nI 0), .int (nI wn), .ref m5, .ref m6, .ref m7, .ref m8, .ref m9, .ref m10, .ref m11])), (m5, .inl (cI, 40, .inl (fun j => nI (z j)))), (m6, .inl (cI, 210, .inl (fun j => nI (rw j)))), (m9, .inl (cB, 8000, .inl (fun j => sb_b (g j)))), (m11, .inl (cB, 200, .inl (fun j => sb_b (by9 j))))]) [0, 1, 2, 3, 4] rfl
                  have hD9 := hD.sub (ws' := [(mx, .inr (4, [.int 2, .int (nI n), .int (nI dn), .int (nI 0), .int (nI wn), .ref m5, .ref m6, .ref m7, .ref m8, .ref m9, .ref m10, .ref m11])), (m5, .inl (cI, 40, .inl (fun j => nI (z j)))), (m6, .inl (cI, 210, .inl (fun j => nI (rw j)))), (m9, .inl (cB, 8000, .inl (fun j => sb_b (g j)))), (m11, .inl (cB, 200, .inl (fun j => sb_b (by9 j))))]) [0, 1, 2, 3, 4] (by decide) rfl
                  have hK9 := hK.sub (tys' := [(cI, .int), (cB, .byte)]) [0, 1] rfl
                  exact W.iret (v := 0) hx hb hr (fun tS htS hW => ⟨⟨0, (2, n, g, z, rw), rfl, (by first | exact ⟨hrw, Or.inr (Or.inl ⟨rfl, rfl, rfl, rfl, hbn1, fw_no hby hfn.1 hfn.2⟩)⟩ | exact ⟨hrw, Or.inl ⟨rfl, rfl, rfl, rfl, (nI_eq (b := 0) (by omega) (by omega)).mp c60⟩⟩), by rw [htS]; exact hP9, va_K.moved hW.alike hK9, hD9⟩, hS.F htS⟩) hS.2.2 dX4_contents_87
            · refine lv_iconst (v := 1) hx hb dX4_contents_63 (by decide) ?_
              refine lv_goto (tgt := 76) hx hb dX4_contents_64 (by decide) ?_
              refine va_put (D := (dC, dI)) (ci := 4) (v := .int 1) (ty := .int) (C := RX4) (T := TX4) (N := 12) hx hb hts hinX4 tyX4 tyX4_ok nmX4 hown hK hP hD hS 0 rfl rfl 0 (by decide) (hts (.fieldLink RX4 32 "NumberContentsModel" "thrown" "I") (by decide +kernel)) (fun _ h9 => h9) rfl (by decide +kernel) rfl rfl (Nat.le_of_ble_eq_true rfl) dX4_contents_76 (fun H locs hP hD hS => ?_)
              have hP : va_P (dC, dI) vwCl [(mx, .inr (4, [.int 1, .int (nI n), .int (nI dn), .int (nI 0), .int (nI wn), .ref m5, .ref m6, .ref m7, .ref m8, .ref m9, .ref m10, .ref m11])), (m5, .inl (cI, 40, .inl (fun j => nI (z j)))), (m6, .inl (cI, 210, .inl (fun j => nI (rw j)))), (m9, .inl (cB, 8000, .inl (fun j => sb_b (g j)))), (m11, .inl (cB, 200, .inl (fun j => sb_b (by9 j))))] H := hP
              have hD : va_D A [(mx, .inr (4, [.int 1, .int (nI n), .int (nI dn), .int (nI 0), .int (nI wn), .ref m5, .ref m6, .ref m7, .ref m8, .ref m9, .ref m10, .ref m11])), (m5, .inl (cI, 40, .inl (fun j => nI (z j)))), (m6, .inl (cI, 210, .inl (fun j => nI (rw j)))), (m9, .inl (cB, 8000, .inl (fun j => sb_b (g j)))), (m11, .inl (cB, 200, .inl (fun j => sb_b (by9 j))))] := hD
              refine lv_aload_n hx hb dX4_contents_79 rfl (lv_at hl 2 rfl) ?_
              refine va_get (D := (dC, dI)) (ci := 4) (v := .int 1) (C := RX4) (T := TX4) (N := 12) hx hb hts hinX4 hown hK hP 0 rfl rfl 0 (by decide) (hts (.fieldLink RX4 32 "NumberContentsModel" "thrown" "I") (by decide +kernel)) (fun _ h9 => h9) rfl dX4_contents_80 ?_
              refine lv_if_le (tgt := 88) hx hb dX4_contents_83 (by decide) (fun c83 => ?_) (fun c83 => ?_)
              · first | exact absurd c83 (by decide) | exact (c83 (by decide)).elim
              · refine lv_iconst (v := 0) hx hb dX4_contents_86 (by decide) ?_
                have hP9 := hP.sub (ws' := [(mx, .inr (4, [.int 1, .int (nI n), .int (nI dn), .int (nI 0), .int (nI wn), .ref m5, .ref m6, .ref m7, .ref m8, .ref m9, .ref m10, .ref m11])), (m5, .inl (cI, 40, .inl (fun j => nI (z j)))), (m6, .inl (cI, 210, .inl (fun j => nI (rw j)))), (m9, .inl (cB, 8000, .inl (fun j => sb_b (g j)))), (m11, .inl (cB, 200, .inl (fun j => sb_b (by9 j))))]) [0, 1, 2, 3, 4] rfl
                have hD9 := hD.sub (ws' := [(mx, .inr (4, [.int 1, .int (nI n), .int (nI dn), .int (nI 0), .int (nI wn), .ref m5, .ref m6, .ref m7, .ref m8, .ref m9, .ref m10, .ref m11])), (m5, .inl (cI, 40, .inl (fun j => nI (z j)))), (m6, .inl (cI, 210, .inl (fun j => nI (rw j)))), (m9, .inl (cB, 8000, .inl (fun j => sb_b (g j)))), (m11, .inl (cB, 200, .inl (fun j => sb_b (by9 j))))]) [0, 1, 2, 3, 4] (by decide) rfl
                have hK9 := hK.sub (tys' := [(cI, .int), (cB, .byte)]) [0, 1] rfl
                exact W.iret (v := 0) hx hb hr (fun tS htS hW => ⟨⟨0, (1, n, g, z, rw), rfl, (by first | exact ⟨hrw, Or.inr (Or.inl ⟨rfl, rfl, rfl, rfl, hbn1, fw_no hby hfn.1 hfn.2⟩)⟩ | exact ⟨hrw, Or.inl ⟨rfl, rfl, rfl, rfl, (nI_eq (b := 0) (by omega) (by omega)).mp c60⟩⟩), by rw [htS]; exact hP9, va_K.moved hW.alike hK9, hD9⟩, hS.F htS⟩) hS.2.2 dX4_contents_87
          · have hfy : bn < 2 ∨ ¬ ((by9 0 = 0 ∧ by9 1 < 128) ∨ (by9 0 = 255 ∧ 128 ≤ by9 1)) := (by first | exact Or.inl ((nI_ltI (by omega) (by omega)).mp c12) | exact Or.inr (fun y => y.elim (fun y => by first | exact c21 ((sb_0 (hby 0)).mpr y.1) | exact c30 ((sb_ge _ (hby 1)).mpr y.2)) (fun y => by first | exact c40 ((sb_m (hby 0)).mpr y.1) | exact c49 ((sb_lt0 _ (hby 1)).mpr y.2))))
            refine lv_iconst (v := 1) hx hb dX4_contents_52 (by decide) ?_
            refine lv_goto (tgt := 57) hx hb dX4_contents_53 (by decide) ?_
            refine lv_istore_n (lv' := [(2, .int 1), (1, .int (nI bn)), (0, .ref mx)]) hx hb dX4_contents_57 rfl hl (by decide) rfl (fun ls hl => ?_)
            refine lv_aload_n hx hb dX4_contents_58 rfl (lv_at hl 2 rfl) ?_
            refine lv_iload_n hx hb dX4_contents_59 rfl (lv_at hl 1 rfl) ?_
            refine lv_if_ne (tgt := 67) hx hb dX4_contents_60 (by decide) (fun c60 => ?_) (fun c60 => ?_)
            · have hbn1 : 1 ≤ bn := Nat.pos_of_ne_zero (fun y => c60 (by rw [y]; rfl))
              refine lv_iload_n hx hb dX4_contents_67 rfl (lv_at hl 0 rfl) ?_
              refine lv_if_ne (tgt := 75) hx hb dX4_contents_68 (by decide) (fun c68 => ?_) (fun c68 => ?_)
              · refine lv_iconst (v := 0) hx hb dX4_contents_75 (by decide) ?_
                refine va_put (D := (dC, dI)) (ci := 4) (v := .int 0) (ty := .int) (C := RX4) (T := TX4) (N := 12) hx hb hts hinX4 tyX4 tyX4_ok nmX4 hown hK hP hD hS 0 rfl rfl 0 (by decide) (hts (.fieldLink RX4 32 "NumberContentsModel" "thrown" "I") (by decide +kernel)) (fun _ h9 => h9) rfl (by decide +kernel) rfl rfl (Nat.le_of_ble_eq_true rfl) dX4_contents_76 (fun H locs hP hD hS => ?_)
                have hP : va_P (dC, dI) vwCl [(mx, .inr (4, [.int 0, .int (nI n), .int (nI dn), .int (nI 0), .int (nI wn), .ref m5, .ref m6, .ref m7, .ref m8, .ref m9, .ref m10, .ref m11])), (m5, .inl (cI, 40, .inl (fun j => nI (z j)))), (m6, .inl (cI, 210, .inl (fun j => nI (rw j)))), (m9, .inl (cB, 8000, .inl (fun j => sb_b (g j)))), (m11, .inl (cB, 200, .inl (fun j => sb_b (by9 j))))] H := hP
                have hD : va_D A [(mx, .inr (4, [.int 0, .int (nI n), .int (nI dn), .int (nI 0), .int (nI wn), .ref m5, .ref m6, .ref m7, .ref m8, .ref m9, .ref m10, .ref m11])), (m5, .inl (cI, 40, .inl (fun j => nI (z j)))), (m6, .inl (cI, 210, .inl (fun j => nI (rw j)))), (m9, .inl (cB, 8000, .inl (fun j => sb_b (g j)))), (m11, .inl (cB, 200, .inl (fun j => sb_b (by9 j))))] := hD
                refine lv_aload_n hx hb dX4_contents_79 rfl (lv_at hl 2 rfl) ?_
                refine va_get (D := (dC, dI)) (ci := 4) (v := .int 0) (C := RX4) (T := TX4) (N := 12) hx hb hts hinX4 hown hK hP 0 rfl rfl 0 (by decide) (hts (.fieldLink RX4 32 "NumberContentsModel" "thrown" "I") (by decide +kernel)) (fun _ h9 => h9) rfl dX4_contents_80 ?_
                refine lv_if_le (tgt := 88) hx hb dX4_contents_83 (by decide) (fun c83 => ?_) (fun c83 => ?_)
                · have hisz := fw_yes hby hbn1 hfy
                  refine lv_iconst (v := (nI 0)) hx hb dX4_contents_88 (by decide) ?_
                  refine lv_istore_n (lv' := [(3, .int (nI 0)), (2, .int 1), (1, .int (nI bn)), (0, .ref mx)]) hx hb dX4_contents_89 rfl hl (by decide) rfl (fun ls hl => ?_)
                  have LP90 : ∀ (n9 : Nat) (i : Nat) (w2 : Nat → Nat) (hm : (210 - i) < n9) (hi : i ≤ 210) (hw2 : ∀ j, w2 j < 256) (hlo : ∀ j, j < i → j < bn → w2 j = by9 (bn - 1 - j)) (hhi : ∀ j, j < i → bn ≤ j → w2 j = (if 128 ≤ by9 0 then 255 else 0)) (H : Heap) (locs : List Loc) (ls : Array Slot) (hP : va_P (dC, dI) vwCl [(mx, .inr (4, [.int 0, .int (nI n), .int (nI dn), .int (nI 0), .int (nI wn), .ref m5, .ref m6, .ref m7, .ref m8, .ref m9, .ref m10, .ref m11])), (m5, .inl (cI, 40, .inl (fun j => nI (z j)))), (m6, .inl (cI, 210, .inl (fun j => nI (w2 j)))), (m9, .inl (cB, 8000, .inl (fun j => sb_b (g j)))), (m11, .inl (cB, 200, .inl (fun j => sb_b (by9 j))))] H) (hD : va_D A [(mx, .inr (4, [.int 0, .int (nI n), .int (nI dn), .int (nI 0), .int (nI wn), .ref m5, .ref m6, .ref m7, .ref m8, .ref m9, .ref m10, .ref m11])), (m5, .inl (cI, 40, .inl (fun j => nI (z j)))), (m6, .inl (cI, 210, .inl (fun j => nI (w2 j)))), (m9, .inl (cB, 8000, .inl (fun j => sb_b (g j)))), (m11, .inl (cB, 200, .inl (fun j => sb_b (by9 j))))]) (hS : va_S A s.heap H locs) (hl : lv_has ls 4 [(0, .ref mx), (1, .int (nI bn)), (3, .int (nI i))]), W p l e (headSpec wsX4_contents ({ frames := 3, cells := 0, slots := 0, locals := 66 } : Room)).room s m ([.ref mx]).toArray below meth c H locs 0 0 (MQ below (va_Qi (fun (r : Int32) (uS : Int32 × Nat × (Nat → Nat) × (Nat → Nat) × (Nat → Nat)) => match uS with | (th3, n3, g3, z3, rw3) => (∀ j, rw3 j < 256) ∧ ((th3 = 1 ∧ n3 = n ∧ g3 = g ∧ z3 = z ∧ bn = 0) ∨ (th3 = 2 ∧ n3 = n ∧ g3 = g ∧ z3 = z ∧ 1 ≤ bn ∧ ¬ isz (sv (fun j => by9 (bn - 1 - j)) bn) bn) ∨ (th3 = 0 ∧ n3 = n + 1 ∧ 1 ≤ bn ∧ isz (sv (fun j => by9 (bn - 1 - j)) bn) bn ∧ KEPTM n g z g3 z3 (sv (fun j => by9 (bn - 1 - j)) bn) r) ∨ (th3 = 3 ∧ n3 = n ∧ g3 = g ∧ z3 = z ∧ 1 ≤ bn ∧ isz (sv (fun j => by9 (bn - 1 - j)) bn) bn ∧ NOKEEP n (sv (fun j => by9 (bn - 1 - j)) bn)))) (fun (uS : Int32 × Nat × (Nat → Nat) × (Nat → Nat) × (Nat → Nat)) (tS : State) => match uS with | (th3, n3, g3, z3, rw3) => va_P (dC, dI) vwCl [(mx, .inr (4, [.int th3, .int (nI n3), .int (nI dn), .int (nI 0), .int (nI wn), .ref m5, .ref m6, .ref m7, .ref m8, .ref m9, .ref m10, .ref m11])), (m5, .inl (cI, 40, .inl (fun j => nI (z3 j)))), (m6, .inl (cI, 210, .inl (fun j => nI (rw3 j)))), (m9, .inl (cB, 8000, .inl (fun j => sb_b (g3 j)))), (m11, .inl (cB, 200, .inl (fun j => sb_b (by9 j))))] tS.heap ∧ va_K (dC, dI) vwCl [(cI, .int), (cB, .byte)] tS ∧ va_D A [(mx, .inr (4, [.int th3, .int (nI n3), .int (nI dn), .int (nI 0), .int (nI wn), .ref m5, .ref m6, .ref m7, .ref m8, .ref m9, .ref m10, .ref m11])), (m5, .inl (cI, 40, .inl (fun j => nI (z3 j)))), (m6, .inl (cI, 210, .inl (fun j => nI (rw3 j)))), (m9, .inl (cB, 8000, .inl (fun j => sb_b (g3 j)))), (m11, .inl (cB, 200, .inl (fun j => sb_b (by9 j))))]) A) ([.ref mx]).toArray s 0 0 A) (F0 m 90 ls []) := by
                    intro n9
                    induction n9 with
                    | zero => intro i w2 hm; exact absurd hm (Nat.not_lt_zero _)
                    | succ n9 ih =>
                      intro i w2 hm hi hw2 hlo hhi H locs ls hP hD hS hl
                      have ih90 := ih
                      refine lv_iload_n hx hb dX4_contents_90 rfl (lv_at hl 2 rfl) ?_
                      refine lv_sipush (v := (nI 210)) hx hb dX4_contents_91 (by decide) ?_
                      refine lv_icmp_ge (tgt := 147) hx hb dX4_contents_94 (by decide) (fun c94 => ?_) (fun c94 => ?_)
                      · obtain rfl : i = 210 := Nat.le_antisymm hi ((nI_leI (by omega) (by omega)).mp c94)
                        have hZK : sv w2 210 = sv (fun j => by9 (bn - 1 - j)) bn := ext_sv (r := fun j => by9 (bn - 1 - j)) (fl := if 128 ≤ by9 0 then 255 else 0) hbn1 (by omega) (by show _ ∧ 128 ≤ by9 (bn - 1 - (bn - 1)) ∨ _ ∧ by9 (bn - 1 - (bn - 1)) < 128; rw [Nat.sub_self]; by_cases y : 128 ≤ by9 0; exact Or.inl ⟨if_pos y, y⟩; exact Or.inr ⟨if_neg y, by omega⟩) (fun j hj => hlo j (by omega) hj) (fun j h1 h2 => hhi j h2 h1)
                        refine lv_aload_n hx hb dX4_contents_147 rfl (lv_at hl 0 rfl) ?_
                        refine lv_iconst (v := 3) hx hb dX4_contents_148 (by decide) ?_
                        have hPc := hP.sub (ws' := [(mx, .inr (4, [.int 0, .int (nI n), .int (nI dn), .int (nI 0), .int (nI wn), .ref m5, .ref m6, .ref m7, .ref m8, .ref m9, .ref m10, .ref m11])), (m5, .inl (cI, 40, .inl (fun j => nI (z j)))), (m6, .inl (cI, 210, .inl (fun j => nI (w2 j)))), (m9, .inl (cB, 8000, .inl (fun j => sb_b (g j))))]) [0, 1, 2, 3] rfl
                        have hKc := hK.sub (tys' := [(cI, .int), (cB, .byte)]) [0, 1] rfl
                        have hDc := hD.sub (ws' := [(mx, .inr (4, [.int 0, .int (nI n), .int (nI dn), .int (nI 0), .int (nI wn), .ref m5, .ref m6, .ref m7, .ref m8, .ref m9, .ref m10, .ref m11])), (m5, .inl (cI, 40, .inl (fun j => nI (z j)))), (m6, .inl (cI, 210, .inl (fun j => nI (w2 j)))), (m9, .inl (cB, 8000, .inl (fun j => sb_b (g j))))]) [0, 1, 2, 3] (by decide) rfl
                        have hFc := va_free (wc := [(mx, .inr (4, [.int 0, .int (nI n), .int (nI dn), .int (nI 0), .int (nI wn), .ref m5, .ref m6, .ref m7, .ref m8, .ref m9, .ref m10, .ref m11])), (m5, .inl (cI, 40, .inl (fun j => nI (z j)))), (m6, .inl (cI, 210, .inl (fun j => nI (w2 j)))), (m9, .inl (cB, 8000, .inl (fun j => sb_b (g j))))]) hD hS hA [0, 1, 2, 3] rfl
                        refine va_calli (va_runV (As := [.int 3]) (rest := []) ⟨hx, hb, hml, hown, hts⟩ (c_X4_keep l dC dI cI cB mx m5 m6 m7 m8 m9 m10 m11 n dn 0 wn 0 g z w2 3 H.size hI hw2 (Or.inr rfl)) (cwV 1 hts gX4_contents_X4_keep rfl rfl rfl (by decide +kernel) ⟨Nat.le_of_ble_eq_true rfl, Nat.le_of_ble_eq_true rfl⟩) ⟨fun a U g mk q => by obtain ⟨q0, q1, qP, qK, qD⟩ := q; exact ⟨q0, q1, qP, va_K.moved (u := U) (U := U.calling g mk a) (Vm.Alike.refl U.vm) qK, qD⟩, va_recv hKc hPc (ci := 4) (q0 := 0) rfl rfl, fun U hU hW => ⟨rfl, by rw [hU], by rw [hU]; exact hPc, va_K.moved hW.alike hKc, hDc.weaken (fun _ _ _ _ => trivial)⟩⟩ rfl rfl hl.1 rfl (lv_room (Nat.le_of_ble_eq_true rfl)) dX4_contents_149 ⟨Nat.le_of_ble_eq_true rfl, Nat.le_of_ble_eq_true rfl⟩) hS (fun q _ h => hFc q h) hFc (fun r149 uS tS H1 locs htS hvm h149 hB hzS hkS hS => ?_)
                        obtain ⟨th3_149, n3_149, g3_149, z3_149⟩ := uS
                        obtain ⟨hP1, hK1, hD1⟩ := hB
                        rw [htS] at hP1
                        have hK1 := va_K.moved hvm.symm hK1
                        try dsimp only at h149
                        obtain ⟨hP, hD⟩ := va_join (wr := [(m11, .inl (cB, 200, .inl (fun j => sb_b (by9 j))))]) (w1 := [(mx, .inr (4, [.int th3_149, .int (nI n3_149), .int (nI dn), .int (nI 0), .int (nI wn), .ref m5, .ref m6, .ref m7, .ref m8, .ref m9, .ref m10, .ref m11])), (m5, .inl (cI, 40, .inl (fun j => nI (z3_149 j)))), (m6, .inl (cI, 210, .inl (fun j => nI (w2 j)))), (m9, .inl (cB, 8000, .inl (fun j => sb_b (g3_149 j))))]) hP hD [0, 1, 2, 3] [4] rfl rfl (by decide) (by decide) hkS hFc hP1 hD1
                        generalize H1 = H at hP hS ⊢
                        have hP : va_P (dC, dI) vwCl [(m11, .inl (cB, 200, .inl (fun j => sb_b (by9 j)))), (mx, .inr (4, [.int th3_149, .int (nI n3_149), .int (nI dn), .int (nI 0), .int (nI wn), .ref m5, .ref m6, .ref m7, .ref m8, .ref m9, .ref m10, .ref m11])), (m5, .inl (cI, 40, .inl (fun j => nI (z3_149 j)))), (m6, .inl (cI, 210, .inl (fun j => nI (w2 j)))), (m9, .inl (cB, 8000, .inl (fun j => sb_b (g3_149 j))))] H := hP
                        have hD : va_D A [(m11, .inl (cB, 200, .inl (fun j => sb_b (by9 j)))), (mx, .inr (4, [.int th3_149, .int (nI n3_149), .int (nI dn), .int (nI 0), .int (nI wn), .ref m5, .ref m6, .ref m7, .ref m8, .ref m9, .ref m10, .ref m11])), (m5, .inl (cI, 40, .inl (fun j => nI (z3_149 j)))), (m6, .inl (cI, 210, .inl (fun j => nI (w2 j)))), (m9, .inl (cB, 8000, .inl (fun j => sb_b (g3_149 j))))] := hD
                        rw [hZK] at h149
                        have hP9 := hP.sub (ws' := [(mx, .inr (4, [.int th3_149, .int (nI n3_149), .int (nI dn), .int (nI 0), .int (nI wn), .ref m5, .ref m6, .ref m7, .ref m8, .ref m9, .ref m10, .ref m11])), (m5, .inl (cI, 40, .inl (fun j => nI (z3_149 j)))), (m6, .inl (cI, 210, .inl (fun j => nI (w2 j)))), (m9, .inl (cB, 8000, .inl (fun j => sb_b (g3_149 j)))), (m11, .inl (cB, 200, .inl (fun j => sb_b (by9 j))))]) [1, 2, 3, 4, 0] rfl
                        have hD9 := hD.sub (ws' := [(mx, .inr (4, [.int th3_149, .int (nI n3_149), .int (nI dn), .int (nI 0), .int (nI wn), .ref m5, .ref m6, .ref m7, .ref m8, .ref m9, .ref m10, .ref m11])), (m5, .inl (cI, 40, .inl (fun j => nI (z3_149 j)))), (m6, .inl (cI, 210, .inl (fun j => nI (w2 j)))), (m9, .inl (cB, 8000, .inl (fun j => sb_b (g3_149 j)))), (m11, .inl (cB, 200, .inl (fun j => sb_b (by9 j))))]) [1, 2, 3, 4, 0] (by decide) rfl
                        have hK9 := hK.sub (tys' := [(cI, .int), (cB, .byte)]) [0, 1] rfl
                        exact W.iret (v := r149) hx hb hr (fun tS htS hW => ⟨⟨r149, (th3_149, n3_149, g3_149, z3_149, w2), rfl, ⟨hw2, Or.inr (Or.inr (h149.elim (fun y => Or.inl ⟨y.1, y.2.1, hbn1, hisz, y.2.2⟩) (fun y => Or.inr ⟨y.1, y.2.1, y.2.2.1, y.2.2.2.1, hbn1, hisz, y.2.2.2.2⟩)))⟩, by rw [htS]; exact hP9, va_K.moved hW.alike hK9, hD9⟩, hS.F htS⟩) hS.2.2 dX4_contents_152
                      · have hlt : i < 210 := Nat.lt_of_not_le (fun h => c94 (nI_le h (by omega)))
                        refine lv_aload_n hx hb dX4_contents_97 rfl (lv_at hl 0 rfl) ?_
                        refine va_get (D := (dC, dI)) (ci := 4) (v := .ref m6) (C := RX4) (T := TX4) (N := 12) hx hb hts hinX4 hown hK hP 0 rfl rfl 6 (by decide) (hts (.fieldLink RX4 13 "NumberContentsModel" "row" "[I") (by decide +kernel)) (fun _ h9 => h9) rfl dX4_contents_98 ?_
                        refine lv_iload_n hx hb dX4_contents_101 rfl (lv_at hl 2 rfl) ?_
                        refine lv_iload_n hx hb dX4_contents_102 rfl (lv_at hl 2 rfl) ?_
                        refine lv_iload_n hx hb dX4_contents_103 rfl (lv_at hl 1 rfl) ?_
                        refine lv_icmp_ge (tgt := 124) hx hb dX4_contents_104 (by decide) (fun c104 => ?_) (fun c104 => ?_)
                        · have hge2 : bn ≤ i := (nI_leI (by omega) (by omega)).mp c104
                          refine lv_aload_n hx hb dX4_contents_124 rfl (lv_at hl 0 rfl) ?_
                          refine va_get (D := (dC, dI)) (ci := 4) (v := .ref m11) (C := RX4) (T := TX4) (N := 12) hx hb hts hinX4 hown hK hP 0 rfl rfl 11 (by decide) (hts (.fieldLink RX4 29 "NumberContentsModel" "bytes" "[B") (by decide +kernel)) (fun _ h9 => h9) rfl dX4_contents_125 ?_
                          refine lv_iconst (v := (nI 0)) hx hb dX4_contents_128 (by decide) ?_
                          refine va_bald hx hb hK hP 4 1 rfl rfl (vp_in_nI (by omega) (by omega)) dX4_contents_129 ?_
                          refine lv_topi (fun x129 e129 => ?_)
                          obtain rfl : x129 = sb_b (by9 0) := e129.trans (atsb (k := 0) (by omega))
                          refine lv_if_ge (tgt := 139) hx hb dX4_contents_130 (by decide) (fun c130 => ?_) (fun c130 => ?_)
                          · refine lv_iconst (v := (nI 0)) hx hb dX4_contents_139 (by decide) ?_
                            refine va_iast hx hb hK hP hD hS 2 0 rfl rfl (vp_in_nI (by omega) (by omega)) dX4_contents_140 (fun H locs hP hD hS => ?_)
                            have hP : va_P (dC, dI) vwCl [(mx, .inr (4, [.int 0, .int (nI n), .int (nI dn), .int (nI 0), .int (nI wn), .ref m5, .ref m6, .ref m7, .ref m8, .ref m9, .ref m10, .ref m11])), (m5, .inl (cI, 40, .inl (fun j => nI (z j)))), (m6, .inl (cI, 210, .inl (upd (fun j => nI (w2 j)) (nI i).toNatClampNeg (nI 0)))), (m9, .inl (cB, 8000, .inl (fun j => sb_b (g j)))), (m11, .inl (cB, 200, .inl (fun j => sb_b (by9 j))))] H := hP
                            have hD : va_D A [(mx, .inr (4, [.int 0, .int (nI n), .int (nI dn), .int (nI 0), .int (nI wn), .ref m5, .ref m6, .ref m7, .ref m8, .ref m9, .ref m10, .ref m11])), (m5, .inl (cI, 40, .inl (fun j => nI (z j)))), (m6, .inl (cI, 210, .inl (upd (fun j => nI (w2 j)) (nI i).toNatClampNeg (nI 0)))), (m9, .inl (cB, 8000, .inl (fun j => sb_b (g j)))), (m11, .inl (cB, 200, .inl (fun j => sb_b (by9 j))))] := hD
                            obtain ⟨f140, e140⟩ : ∃ zz9 : Nat → Int32, zz9 = upd (fun j => nI (w2 j)) (nI i).toNatClampNeg (nI 0) := ⟨_, rfl⟩
                            rw [← e140] at hP hD
                            obtain rfl : f140 = fun j => nI (va_up w2 i 0 j) := e140.trans (upg (by omega))
                            obtain ⟨x141, e141⟩ : ∃ zz9 : Int32, zz9 = (nI i) + 1 := ⟨_, rfl⟩
                            refine lv_iinc (v := x141) (lv' := [(3, .int x141), (0, .ref mx), (1, .int (nI bn))]) hx hb dX4_contents_141 hl (k := 2) rfl (by rw [e141]; rfl) (by decide) rfl (fun ls hl => ?_)
                            obtain rfl : x141 = nI (i + 1) := e141.trans (nI_1 i)
                            refine lv_goto (tgt := 90) hx hb dX4_contents_144 (by decide) ?_
                            exact ih90 (i + 1) (va_up w2 i 0) (by omega) (by omega) (up_lt hw2 (by decide)) (ct_lo2 hge2 hlo) (ct_hi2 (by rw [if_neg (by have := (sb_ge _ (hby 0)).mp c130; omega)]) hhi) _ _ _ (hP.sub [0, 1, 2, 3, 4] rfl) (hD.sub [0, 1, 2, 3, 4] (by decide) rfl) hS (lv_sub hl [1, 2, 0] rfl)
                          · refine lv_sipush (v := (nI 255)) hx hb dX4_contents_133 (by decide) ?_
                            refine lv_goto (tgt := 140) hx hb dX4_contents_136 (by decide) ?_
                            refine va_iast hx hb hK hP hD hS 2 0 rfl rfl (vp_in_nI (by omega) (by omega)) dX4_contents_140 (fun H locs hP hD hS => ?_)
                            have hP : va_P (dC, dI) vwCl [(mx, .inr (4, [.int 0, .int (nI n), .int (nI dn), .int (nI 0), .int (nI wn), .ref m5, .ref m6, .ref m7, .ref m8, .ref m9, .ref m10, .ref m11])), (m5, .inl (cI, 40, .inl (fun j => nI (z j)))), (m6, .inl (cI, 210, .inl (upd (fun j => nI (w2 j)) (nI i).toNatClampNeg (nI 255)))), (m9, .inl (cB, 8000, .inl (fun j => sb_b (g j)))), (m11, .inl (cB, 200, .inl (fun j => sb_b (by9 j))))] H := hP
                            have hD : va_D A [(mx, .inr (4, [.int 0, .int (nI n), .int (nI dn), .int (nI 0), .int (nI wn), .ref m5, .ref m6, .ref m7, .ref m8, .ref m9, .ref m10, .ref m11])), (m5, .inl (cI, 40, .inl (fun j => nI (z j)))), (m6, .inl (cI, 210, .inl (upd (fun j => nI (w2 j)) (nI i).toNatClampNeg (nI 255)))), (m9, .inl (cB, 8000, .inl (fun j => sb_b (g j)))), (m11, .inl (cB, 200, .inl (fun j => sb_b (by9 j))))] := hD
                            obtain ⟨f140, e140⟩ : ∃ zz9 : Nat → Int32, zz9 = upd (fun j => nI (w2 j)) (nI i).toNatClampNeg (nI 255) := ⟨_, rfl⟩
                            rw [← e140] at hP hD
                            obtain rfl : f140 = fun j => nI (va_up w2 i 255 j) := e140.trans (upg (by omega))
                            obtain ⟨x141, e141⟩ : ∃ zz9 : Int32, zz9 = (nI i) + 1 := ⟨_, rfl⟩
                            refine lv_iinc (v := x141) (lv' := [(3, .int x141), (0, .ref mx), (1, .int (nI bn))]) hx hb dX4_contents_141 hl (k := 2) rfl (by rw [e141]; rfl) (by decide) rfl (fun ls hl => ?_)
                            obtain rfl : x141 = nI (i + 1) := e141.trans (nI_1 i)
                            refine lv_goto (tgt := 90) hx hb dX4_contents_144 (by decide) ?_
                            exact ih90 (i + 1) (va_up w2 i 255) (by omega) (by omega) (up_lt hw2 (by decide)) (ct_lo2 hge2 hlo) (ct_hi2 (by rw [if_pos (Nat.le_of_not_lt (fun y => c130 ((sb_ge _ (hby 0)).mpr y)))]) hhi) _ _ _ (hP.sub [0, 1, 2, 3, 4] rfl) (hD.sub [0, 1, 2, 3, 4] (by decide) rfl) hS (lv_sub hl [1, 2, 0] rfl)
                        · have hlt2 : i < bn := Nat.lt_of_not_le (fun h => c104 (nI_le h (by omega)))
                          refine lv_aload_n hx hb dX4_contents_107 rfl (lv_at hl 0 rfl) ?_
                          refine va_get (D := (dC, dI)) (ci := 4) (v := .ref m11) (C := RX4) (T := TX4) (N := 12) hx hb hts hinX4 hown hK hP 0 rfl rfl 11 (by decide) (hts (.fieldLink RX4 29 "NumberContentsModel" "bytes" "[B") (by decide +kernel)) (fun _ h9 => h9) rfl dX4_contents_108 ?_
                          refine lv_iload_n hx hb dX4_contents_111 rfl (lv_at hl 1 rfl) ?_
                          refine lv_iconst (v := 1) hx hb dX4_contents_112 (by decide) ?_
                          refine lv_isub hx hb dX4_contents_113 ?_
                          refine lv_topi (fun x113 e113 => ?_)
                          obtain rfl : x113 = nI (bn - 1) := e113.trans (nI_m1 (by omega))
                          refine lv_iload_n hx hb dX4_contents_114 rfl (lv_at hl 2 rfl) ?_
                          refine lv_isub hx hb dX4_contents_115 ?_
                          refine lv_topi (fun x115 e115 => ?_)
                          obtain rfl : x115 = nI (bn - 1 - i) := e115.trans (pk_sub (by omega))
                          refine va_bald hx hb hK hP 4 1 rfl rfl (vp_in_nI (by omega) (by omega)) dX4_contents_116 ?_
                          refine lv_topi (fun x116 e116 => ?_)
                          obtain rfl : x116 = sb_b (by9 (bn - 1 - i)) := e116.trans (atsb (by omega))
                          refine lv_sipush (v := 255) hx hb dX4_contents_117 (by decide) ?_
                          refine lv_iand hx hb dX4_contents_120 ?_
                          refine lv_topi (fun x120 e120 => ?_)
                          obtain rfl : x120 = nI (by9 (bn - 1 - i)) := e120.trans (sb_and (hby _))
                          refine lv_goto (tgt := 140) hx hb dX4_contents_121 (by decide) ?_
                          refine va_iast hx hb hK hP hD hS 2 0 rfl rfl (vp_in_nI (by omega) (by omega)) dX4_contents_140 (fun H locs hP hD hS => ?_)
                          have hP : va_P (dC, dI) vwCl [(mx, .inr (4, [.int 0, .int (nI n), .int (nI dn), .int (nI 0), .int (nI wn), .ref m5, .ref m6, .ref m7, .ref m8, .ref m9, .ref m10, .ref m11])), (m5, .inl (cI, 40, .inl (fun j => nI (z j)))), (m6, .inl (cI, 210, .inl (upd (fun j => nI (w2 j)) (nI i).toNatClampNeg (nI (by9 (bn - 1 - i)))))), (m9, .inl (cB, 8000, .inl (fun j => sb_b (g j)))), (m11, .inl (cB, 200, .inl (fun j => sb_b (by9 j))))] H := hP
                          have hD : va_D A [(mx, .inr (4, [.int 0, .int (nI n), .int (nI dn), .int (nI 0), .int (nI wn), .ref m5, .ref m6, .ref m7, .ref m8, .ref m9, .ref m10, .ref m11])), (m5, .inl (cI, 40, .inl (fun j => nI (z j)))), (m6, .inl (cI, 210, .inl (upd (fun j => nI (w2 j)) (nI i).toNatClampNeg (nI (by9 (bn - 1 - i)))))), (m9, .inl (cB, 8000, .inl (fun j => sb_b (g j)))), (m11, .inl (cB, 200, .inl (fun j => sb_b (by9 j))))] := hD
                          obtain ⟨f140, e140⟩ : ∃ zz9 : Nat → Int32, zz9 = upd (fun j => nI (w2 j)) (nI i).toNatClampNeg (nI (by9 (bn - 1 - i))) := ⟨_, rfl⟩
                          rw [← e140] at hP hD
                          obtain rfl : f140 = fun j => nI (va_up w2 i (by9 (bn - 1 - i)) j) := e140.trans (upg (by omega))
                          obtain ⟨x141, e141⟩ : ∃ zz9 : Int32, zz9 = (nI i) + 1 := ⟨_, rfl⟩
                          refine lv_iinc (v := x141) (lv' := [(3, .int x141), (0, .ref mx), (1, .int (nI bn))]) hx hb dX4_contents_141 hl (k := 2) rfl (by rw [e141]; rfl) (by decide) rfl (fun ls hl => ?_)
                          obtain rfl : x141 = nI (i + 1) := e141.trans (nI_1 i)
                          refine lv_goto (tgt := 90) hx hb dX4_contents_144 (by decide) ?_
                          exact ih90 (i + 1) (va_up w2 i (by9 (bn - 1 - i))) (by omega) (by omega) (up_lt hw2 (hby _)) (ct_lo hlo) (fl_hi hlt2 hhi) _ _ _ (hP.sub [0, 1, 2, 3, 4] rfl) (hD.sub [0, 1, 2, 3, 4] (by decide) rfl) hS (lv_sub hl [1, 2, 0] rfl)
                  exact LP90 _ 0 rw (Nat.lt_succ_self _) (by omega) hrw (fun j h => absurd h (by omega)) (fun j h => absurd h (by omega)) _ _ _ (hP.sub [0, 1, 2, 3, 4] rfl) (hD.sub [0, 1, 2, 3, 4] (by decide) rfl) hS (lv_sub hl [3, 2, 0] rfl)
                · first | exact absurd c83 (by decide) | exact (c83 (by decide)).elim
              · first | exact absurd c68 (by decide) | exact (c68 (by decide)).elim
            · refine lv_iconst (v := 1) hx hb dX4_contents_63 (by decide) ?_
              refine lv_goto (tgt := 76) hx hb dX4_contents_64 (by decide) ?_
              refine va_put (D := (dC, dI)) (ci := 4) (v := .int 1) (ty := .int) (C := RX4) (T := TX4) (N := 12) hx hb hts hinX4 tyX4 tyX4_ok nmX4 hown hK hP hD hS 0 rfl rfl 0 (by decide) (hts (.fieldLink RX4 32 "NumberContentsModel" "thrown" "I") (by decide +kernel)) (fun _ h9 => h9) rfl (by decide +kernel) rfl rfl (Nat.le_of_ble_eq_true rfl) dX4_contents_76 (fun H locs hP hD hS => ?_)
              have hP : va_P (dC, dI) vwCl [(mx, .inr (4, [.int 1, .int (nI n), .int (nI dn), .int (nI 0), .int (nI wn), .ref m5, .ref m6, .ref m7, .ref m8, .ref m9, .ref m10, .ref m11])), (m5, .inl (cI, 40, .inl (fun j => nI (z j)))), (m6, .inl (cI, 210, .inl (fun j => nI (rw j)))), (m9, .inl (cB, 8000, .inl (fun j => sb_b (g j)))), (m11, .inl (cB, 200, .inl (fun j => sb_b (by9 j))))] H := hP
              have hD : va_D A [(mx, .inr (4, [.int 1, .int (nI n), .int (nI dn), .int (nI 0), .int (nI wn), .ref m5, .ref m6, .ref m7, .ref m8, .ref m9, .ref m10, .ref m11])), (m5, .inl (cI, 40, .inl (fun j => nI (z j)))), (m6, .inl (cI, 210, .inl (fun j => nI (rw j)))), (m9, .inl (cB, 8000, .inl (fun j => sb_b (g j)))), (m11, .inl (cB, 200, .inl (fun j => sb_b (by9 j))))] := hD
              refine lv_aload_n hx hb dX4_contents_79 rfl (lv_at hl 2 rfl) ?_
              refine va_get (D := (dC, dI)) (ci := 4) (v := .int 1) (C := RX4) (T := TX4) (N := 12) hx hb hts hinX4 hown hK hP 0 rfl rfl 0 (by decide) (hts (.fieldLink RX4 32 "NumberContentsModel" "thrown" "I") (by decide +kernel)) (fun _ h9 => h9) rfl dX4_contents_80 ?_
              refine lv_if_le (tgt := 88) hx hb dX4_contents_83 (by decide) (fun c83 => ?_) (fun c83 => ?_)
              · first | exact absurd c83 (by decide) | exact (c83 (by decide)).elim
              · refine lv_iconst (v := 0) hx hb dX4_contents_86 (by decide) ?_
                have hP9 := hP.sub (ws' := [(mx, .inr (4, [.int 1, .int (nI n), .int (nI dn), .int (nI 0), .int (nI wn), .ref m5, .ref m6, .ref m7, .ref m8, .ref m9, .ref m10, .ref m11])), (m5, .inl (cI, 40, .inl (fun j => nI (z j)))), (m6, .inl (cI, 210, .inl (fun j => nI (rw j)))), (m9, .inl (cB, 8000, .inl (fun j => sb_b (g j)))), (m11, .inl (cB, 200, .inl (fun j => sb_b (by9 j))))]) [0, 1, 2, 3, 4] rfl
                have hD9 := hD.sub (ws' := [(mx, .inr (4, [.int 1, .int (nI n), .int (nI dn), .int (nI 0), .int (nI wn), .ref m5, .ref m6, .ref m7, .ref m8, .ref m9, .ref m10, .ref m11])), (m5, .inl (cI, 40, .inl (fun j => nI (z j)))), (m6, .inl (cI, 210, .inl (fun j => nI (rw j)))), (m9, .inl (cB, 8000, .inl (fun j => sb_b (g j)))), (m11, .inl (cB, 200, .inl (fun j => sb_b (by9 j))))]) [0, 1, 2, 3, 4] (by decide) rfl
                have hK9 := hK.sub (tys' := [(cI, .int), (cB, .byte)]) [0, 1] rfl
                exact W.iret (v := 0) hx hb hr (fun tS htS hW => ⟨⟨0, (1, n, g, z, rw), rfl, (by first | exact ⟨hrw, Or.inr (Or.inl ⟨rfl, rfl, rfl, rfl, hbn1, fw_no hby hfn.1 hfn.2⟩)⟩ | exact ⟨hrw, Or.inl ⟨rfl, rfl, rfl, rfl, (nI_eq (b := 0) (by omega) (by omega)).mp c60⟩⟩), by rw [htS]; exact hP9, va_K.moved hW.alike hK9, hD9⟩, hS.F htS⟩) hS.2.2 dX4_contents_87

set_option maxHeartbeats 4000000 in
set_option maxRecDepth 100000 in
theorem c_X4_compare (l : Launch) (dC : Nat → ClassId) (dI : Nat → Nat → Nat) (cI cB : ClassId) (mx m5 m6 m7 m8 m9 m10 m11 n dn bn wn : Nat) (th : Int32) (g z rw ot : Nat → Nat) (a9 b9 : Int32) (sz : Nat) (hI : XM n g z) (hrw : ∀ j, rw j < 256) (hot : ∀ j, ot j < 256) : Met l yX4_compare wsX4_compare ({ frames := 3, cells := 0, slots := 0, locals := 66 } : Room) (va_Pc [.ref mx, .int a9, .int b9] (fun U => U.heap.size = sz ∧ va_P (dC, dI) vwCl [(mx, .inr (4, [.int th, .int (nI n), .int (nI dn), .int (nI bn), .int (nI wn), .ref m5, .ref m6, .ref m7, .ref m8, .ref m9, .ref m10, .ref m11])), (m5, .inl (cI, 40, .inl (fun j => nI (z j)))), (m6, .inl (cI, 210, .inl (fun j => nI (rw j)))), (m7, .inl (cI, 210, .inl (fun j => nI (ot j)))), (m9, .inl (cB, 8000, .inl (fun j => sb_b (g j))))] U.heap ∧ va_K (dC, dI) vwCl [(cI, .int), (cB, .byte)] U ∧ va_D (fun _ => True) [(mx, .inr (4, [.int th, .int (nI n), .int (nI dn), .int (nI bn), .int (nI wn), .ref m5, .ref m6, .ref m7, .ref m8, .ref m9, .ref m10, .ref m11])), (m5, .inl (cI, 40, .inl (fun j => nI (z j)))), (m6, .inl (cI, 210, .inl (fun j => nI (rw j)))), (m7, .inl (cI, 210, .inl (fun j => nI (ot j)))), (m9, .inl (cB, 8000, .inl (fun j => sb_b (g j))))])) (va_Qi (fun (r : Int32) (uS : Int32 × (Nat → Nat) × (Nat → Nat)) => match uS with | (th3, rw3, ot3) => (∀ j, rw3 j < 256) ∧ (∀ j, ot3 j < 256) ∧ ((th3 = 1 ∧ ¬ (vp_in a9 n ∧ vp_in b9 n)) ∨ (th3 = 0 ∧ ∃ aA bB, a9 = nI aA ∧ aA < n ∧ b9 = nI bB ∧ bB < n ∧ CMP (mval g z aA) (mval g z bB) r))) (fun (uS : Int32 × (Nat → Nat) × (Nat → Nat)) (tS : State) => match uS with | (th3, rw3, ot3) => va_P (dC, dI) vwCl [(mx, .inr (4, [.int th3, .int (nI n), .int (nI dn), .int (nI bn), .int (nI wn), .ref m5, .ref m6, .ref m7, .ref m8, .ref m9, .ref m10, .ref m11])), (m5, .inl (cI, 40, .inl (fun j => nI (z j)))), (m6, .inl (cI, 210, .inl (fun j => nI (rw3 j)))), (m7, .inl (cI, 210, .inl (fun j => nI (ot3 j)))), (m9, .inl (cB, 8000, .inl (fun j => sb_b (g j))))] tS.heap ∧ va_K (dC, dI) vwCl [(cI, .int), (cB, .byte)] tS ∧ va_D (va_A [(mx, .inr (4, [.int th, .int (nI n), .int (nI dn), .int (nI bn), .int (nI wn), .ref m5, .ref m6, .ref m7, .ref m8, .ref m9, .ref m10, .ref m11])), (m5, .inl (cI, 40, .inl (fun j => nI (z j)))), (m6, .inl (cI, 210, .inl (fun j => nI (rw j)))), (m7, .inl (cI, 210, .inl (fun j => nI (ot j)))), (m9, .inl (cB, 8000, .inl (fun j => sb_b (g j))))] sz) [(mx, .inr (4, [.int th3, .int (nI n), .int (nI dn), .int (nI bn), .int (nI wn), .ref m5, .ref m6, .ref m7, .ref m8, .ref m9, .ref m10, .ref m11])), (m5, .inl (cI, 40, .inl (fun j => nI (z j)))), (m6, .inl (cI, 210, .inl (fun j => nI (rw3 j)))), (m7, .inl (cI, 210, .inl (fun j => nI (ot3 j)))), (m9, .inl (cB, 8000, .inl (fun j => sb_b (g j))))]) (va_A [(mx, .inr (4, [.int th, .int (nI n), .int (nI dn), .int (nI bn), .int (nI wn), .ref m5, .ref m6, .ref m7, .ref m8, .ref m9, .ref m10, .ref m11])), (m5, .inl (cI, 40, .inl (fun j => nI (z j)))), (m6, .inl (cI, 210, .inl (fun j => nI (rw j)))), (m7, .inl (cI, 210, .inl (fun j => nI (ot j)))), (m9, .inl (cB, 8000, .inl (fun j => sb_b (g j))))] sz)) 0 0 (va_A [(mx, .inr (4, [.int th, .int (nI n), .int (nI dn), .int (nI bn), .int (nI wn), .ref m5, .ref m6, .ref m7, .ref m8, .ref m9, .ref m10, .ref m11])), (m5, .inl (cI, 40, .inl (fun j => nI (z j)))), (m6, .inl (cI, 210, .inl (fun j => nI (rw j)))), (m7, .inl (cI, 210, .inl (fun j => nI (ot j)))), (m9, .inl (cB, 8000, .inl (fun j => sb_b (g j))))] sz) := by
  refine Met.ofW (cc := cX4_compare) (maxL := 5) (ret := (some .int)) (by decide) rfl ?_
  intro p e s m args below meth c s₁ B hml hv
  obtain ⟨rfl, hsz, hP, hK, hD0⟩ := hv
  have hx := B.exec
  have hb := B.bytes
  have hr := B.returns
  have hts := atoms_spec (ws := wsX4_compare) B.pre
  have hown : s.vm.findClass RX4 = some m.cls := findClass_of_methodNamed B.named
  have hlocks := B.notSynchronized
  subst hsz
  have hD := hD0.self (sz := s.heap.size)
  generalize hAe : va_A [(mx, .inr (4, [.int th, .int (nI n), .int (nI dn), .int (nI bn), .int (nI wn), .ref m5, .ref m6, .ref m7, .ref m8, .ref m9, .ref m10, .ref m11])), (m5, .inl (cI, 40, .inl (fun j => nI (z j)))), (m6, .inl (cI, 210, .inl (fun j => nI (rw j)))), (m7, .inl (cI, 210, .inl (fun j => nI (ot j)))), (m9, .inl (cB, 8000, .inl (fun j => sb_b (g j))))] s.heap.size = A at hD ⊢
  have hA : ∀ q : Nat, s.heap.size ≤ q → A q := fun q h => by rw [← hAe]; exact Or.inr h
  have hS : va_S A s.heap s.heap [] := va_S.rf
  have hinX4 : ∀ w ∈ wsX40, w ∈ wsX4_compare := by decide +kernel
  have hl := lv_entry ([.ref mx, .int a9, .int b9]) (n := 5) (Nat.le_of_ble_eq_true rfl)
  rw [lg_entry_eq]
  generalize (lg_sl ([.ref mx, .int a9, .int b9]) ++ List.replicate (5 - (lg_sl ([.ref mx, .int a9, .int b9])).length) Slot.unset).toArray = ls at hl ⊢
  have hl : lv_has ls 5 [(0, .ref mx), (1, .int a9), (2, .int b9)] := hl
  obtain ⟨hg, hn, hz, hq⟩ := id hI
  refine lv_aload_n hx hb dX4_compare_0 rfl (lv_at hl 0 rfl) ?_
  refine lv_aload_n hx hb dX4_compare_1 rfl (lv_at hl 0 rfl) ?_
  refine lv_iload_n hx hb dX4_compare_2 rfl (lv_at hl 1 rfl) ?_
  have hPc := hP.sub (ws' := [(mx, .inr (4, [.int th, .int (nI n), .int (nI dn), .int (nI bn), .int (nI wn), .ref m5, .ref m6, .ref m7, .ref m8, .ref m9, .ref m10, .ref m11]))]) [0] rfl
  have hKc := hK.sub (tys' := []) [] rfl
  refine vp_callSi (W.runV (As := [.int a9]) (rest := [.ref mx]) ⟨hx, hb, hml, hown, hts⟩ (c_X4_isPlace l dC dI cI mx m5 m6 m7 m8 m9 m10 m11 n dn bn wn th a9 hn) (cwV 1 hts gX4_compare_X4_isPlace rfl rfl rfl (by decide +kernel) ⟨Nat.le_of_ble_eq_true rfl, Nat.le_of_ble_eq_true rfl⟩) ⟨fun a U g mk q => by obtain ⟨q0, qP, qK⟩ := q; exact ⟨q0, qP, va_K.moved (u := U) (U := U.calling g mk a) (Vm.Alike.refl U.vm) qK⟩, va_recv hK hP (ci := 4) (q0 := 0) rfl rfl, fun U hU hW => ⟨rfl, by rw [hU]; exact hPc, va_K.moved hW.alike hKc⟩⟩ rfl rfl hl.1 rfl (lv_room (Nat.le_of_ble_eq_true rfl)) dX4_compare_3 ⟨Nat.le_of_ble_eq_true rfl, Nat.le_of_ble_eq_true rfl⟩) (fun r3 h3 => ?_)
  refine lv_if_eq (tgt := 17) hx hb dX4_compare_6 (by decide) (fun c6 => ?_) (fun c6 => ?_)
  · refine lv_iconst (v := 1) hx hb dX4_compare_17 (by decide) ?_
    refine lv_goto (tgt := 22) hx hb dX4_compare_18 (by decide) ?_
    refine va_put (D := (dC, dI)) (ci := 4) (v := .int 1) (ty := .int) (C := RX4) (T := TX4) (N := 12) hx hb hts hinX4 tyX4 tyX4_ok nmX4 hown hK hP hD hS 0 rfl rfl 0 (by decide) (hts (.fieldLink RX4 32 "NumberContentsModel" "thrown" "I") (by decide +kernel)) (fun _ h9 => h9) rfl (by decide +kernel) rfl rfl (Nat.le_of_ble_eq_true rfl) dX4_compare_22 (fun H locs hP hD hS => ?_)
    have hP : va_P (dC, dI) vwCl [(mx, .inr (4, [.int 1, .int (nI n), .int (nI dn), .int (nI bn), .int (nI wn), .ref m5, .ref m6, .ref m7, .ref m8, .ref m9, .ref m10, .ref m11])), (m5, .inl (cI, 40, .inl (fun j => nI (z j)))), (m6, .inl (cI, 210, .inl (fun j => nI (rw j)))), (m7, .inl (cI, 210, .inl (fun j => nI (ot j)))), (m9, .inl (cB, 8000, .inl (fun j => sb_b (g j))))] H := hP
    have hD : va_D A [(mx, .inr (4, [.int 1, .int (nI n), .int (nI dn), .int (nI bn), .int (nI wn), .ref m5, .ref m6, .ref m7, .ref m8, .ref m9, .ref m10, .ref m11])), (m5, .inl (cI, 40, .inl (fun j => nI (z j)))), (m6, .inl (cI, 210, .inl (fun j => nI (rw j)))), (m7, .inl (cI, 210, .inl (fun j => nI (ot j)))), (m9, .inl (cB, 8000, .inl (fun j => sb_b (g j))))] := hD
    refine lv_aload_n hx hb dX4_compare_25 rfl (lv_at hl 0 rfl) ?_
    refine va_get (D := (dC, dI)) (ci := 4) (v := .int 1) (C := RX4) (T := TX4) (N := 12) hx hb hts hinX4 hown hK hP 0 rfl rfl 0 (by decide) (hts (.fieldLink RX4 32 "NumberContentsModel" "thrown" "I") (by decide +kernel)) (fun _ h9 => h9) rfl dX4_compare_26 ?_
    refine lv_if_le (tgt := 34) hx hb dX4_compare_29 (by decide) (fun c29 => ?_) (fun c29 => ?_)
    · first | exact absurd c29 (by decide) | exact (c29 (by decide)).elim
    · refine lv_iconst (v := 0) hx hb dX4_compare_32 (by decide) ?_
      have hP9 := hP.sub (ws' := [(mx, .inr (4, [.int 1, .int (nI n), .int (nI dn), .int (nI bn), .int (nI wn), .ref m5, .ref m6, .ref m7, .ref m8, .ref m9, .ref m10, .ref m11])), (m5, .inl (cI, 40, .inl (fun j => nI (z j)))), (m6, .inl (cI, 210, .inl (fun j => nI (rw j)))), (m7, .inl (cI, 210, .inl (fun j => nI (ot j)))), (m9, .inl (cB, 8000, .inl (fun j => sb_b (g j))))]) [0, 1, 2, 3, 4] rfl
      have hD9 := hD.sub (ws' := [(mx, .inr (4, [.int 1, .int (nI n), .int (nI dn), .int (nI bn), .int (nI wn), .ref m5, .ref m6, .ref m7, .ref m8, .ref m9, .ref m10, .ref m11])), (m5, .inl (cI, 40, .inl (fun j => nI (z j)))), (m6, .inl (cI, 210, .inl (fun j => nI (rw j)))), (m7, .inl (cI, 210, .inl (fun j => nI (ot j)))), (m9, .inl (cB, 8000, .inl (fun j => sb_b (g j))))]) [0, 1, 2, 3, 4] (by decide) rfl
      have hK9 := hK.sub (tys' := [(cI, .int), (cB, .byte)]) [0, 1] rfl
      exact W.iret (v := 0) hx hb hr (fun tS htS hW => ⟨⟨0, (1, rw, ot), rfl, (by first | exact ⟨hrw, hot, Or.inl ⟨rfl, fun y => ite_r h11 c14 y.2⟩⟩ | exact ⟨hrw, hot, Or.inl ⟨rfl, fun y => ite_r h3 c6 y.1⟩⟩), by rw [htS]; exact hP9, va_K.moved hW.alike hK9, hD9⟩, hS.F htS⟩) hS.2.2 dX4_compare_33
  · refine lv_aload_n hx hb dX4_compare_9 rfl (lv_at hl 0 rfl) ?_
    refine lv_iload_n hx hb dX4_compare_10 rfl (lv_at hl 2 rfl) ?_
    have hPc := hP.sub (ws' := [(mx, .inr (4, [.int th, .int (nI n), .int (nI dn), .int (nI bn), .int (nI wn), .ref m5, .ref m6, .ref m7, .ref m8, .ref m9, .ref m10, .ref m11]))]) [0] rfl
    have hKc := hK.sub (tys' := []) [] rfl
    refine vp_callSi (W.runV (As := [.int b9]) (rest := [.ref mx]) ⟨hx, hb, hml, hown, hts⟩ (c_X4_isPlace l dC dI cI mx m5 m6 m7 m8 m9 m10 m11 n dn bn wn th b9 hn) (cwV 1 hts gX4_compare_X4_isPlace rfl rfl rfl (by decide +kernel) ⟨Nat.le_of_ble_eq_true rfl, Nat.le_of_ble_eq_true rfl⟩) ⟨fun a U g mk q => by obtain ⟨q0, qP, qK⟩ := q; exact ⟨q0, qP, va_K.moved (u := U) (U := U.calling g mk a) (Vm.Alike.refl U.vm) qK⟩, va_recv hK hP (ci := 4) (q0 := 0) rfl rfl, fun U hU hW => ⟨rfl, by rw [hU]; exact hPc, va_K.moved hW.alike hKc⟩⟩ rfl rfl hl.1 rfl (lv_room (Nat.le_of_ble_eq_true rfl)) dX4_compare_11 ⟨Nat.le_of_ble_eq_true rfl, Nat.le_of_ble_eq_true rfl⟩) (fun r11 h11 => ?_)
    refine lv_if_ne (tgt := 21) hx hb dX4_compare_14 (by decide) (fun c14 => ?_) (fun c14 => ?_)
    · refine lv_iconst (v := 0) hx hb dX4_compare_21 (by decide) ?_
      refine va_put (D := (dC, dI)) (ci := 4) (v := .int 0) (ty := .int) (C := RX4) (T := TX4) (N := 12) hx hb hts hinX4 tyX4 tyX4_ok nmX4 hown hK hP hD hS 0 rfl rfl 0 (by decide) (hts (.fieldLink RX4 32 "NumberContentsModel" "thrown" "I") (by decide +kernel)) (fun _ h9 => h9) rfl (by decide +kernel) rfl rfl (Nat.le_of_ble_eq_true rfl) dX4_compare_22 (fun H locs hP hD hS => ?_)
      have hP : va_P (dC, dI) vwCl [(mx, .inr (4, [.int 0, .int (nI n), .int (nI dn), .int (nI bn), .int (nI wn), .ref m5, .ref m6, .ref m7, .ref m8, .ref m9, .ref m10, .ref m11])), (m5, .inl (cI, 40, .inl (fun j => nI (z j)))), (m6, .inl (cI, 210, .inl (fun j => nI (rw j)))), (m7, .inl (cI, 210, .inl (fun j => nI (ot j)))), (m9, .inl (cB, 8000, .inl (fun j => sb_b (g j))))] H := hP
      have hD : va_D A [(mx, .inr (4, [.int 0, .int (nI n), .int (nI dn), .int (nI bn), .int (nI wn), .ref m5, .ref m6, .ref m7, .ref m8, .ref m9, .ref m10, .ref m11])), (m5, .inl (cI, 40, .inl (fun j => nI (z j)))), (m6, .inl (cI, 210, .inl (fun j => nI (rw j)))), (m7, .inl (cI, 210, .inl (fun j => nI (ot j)))), (m9, .inl (cB, 8000, .inl (fun j => sb_b (g j))))] := hD
      refine lv_aload_n hx hb dX4_compare_25 rfl (lv_at hl 0 rfl) ?_
      refine va_get (D := (dC, dI)) (ci := 4) (v := .int 0) (C := RX4) (T := TX4) (N := 12) hx hb hts hinX4 hown hK hP 0 rfl rfl 0 (by decide) (hts (.fieldLink RX4 32 "NumberContentsModel" "thrown" "I") (by decide +kernel)) (fun _ h9 => h9) rfl dX4_compare_26 ?_
      refine lv_if_le (tgt := 34) hx hb dX4_compare_29 (by decide) (fun c29 => ?_) (fun c29 => ?_)
      · obtain ⟨a, ha, rfl⟩ := vp_in_of (ite_s h3 c6) (by omega)
        obtain ⟨b, hb9, rfl⟩ := vp_in_of (ite_s h11 c14) (by omega)
        refine lv_aload_n hx hb dX4_compare_34 rfl (lv_at hl 0 rfl) ?_
        refine lv_aload_n hx hb dX4_compare_35 rfl (lv_at hl 0 rfl) ?_
        refine va_get (D := (dC, dI)) (ci := 4) (v := .ref m6) (C := RX4) (T := TX4) (N := 12) hx hb hts hinX4 hown hK hP 0 rfl rfl 6 (by decide) (hts (.fieldLink RX4 13 "NumberContentsModel" "row" "[I") (by decide +kernel)) (fun _ h9 => h9) rfl dX4_compare_36 ?_
        refine lv_iload_n hx hb dX4_compare_39 rfl (lv_at hl 1 rfl) ?_
        have hPc := hP.sub (ws' := [(mx, .inr (4, [.int 0, .int (nI n), .int (nI dn), .int (nI bn), .int (nI wn), .ref m5, .ref m6, .ref m7, .ref m8, .ref m9, .ref m10, .ref m11])), (m5, .inl (cI, 40, .inl (fun j => nI (z j)))), (m9, .inl (cB, 8000, .inl (fun j => sb_b (g j)))), (m6, .inl (cI, 210, .inl (fun j => nI (rw j))))]) [0, 1, 4, 2] rfl
        have hKc := hK.sub (tys' := [(cI, .int), (cB, .byte)]) [0, 1] rfl
        have hDc := hD.sub (ws' := [(mx, .inr (4, [.int 0, .int (nI n), .int (nI dn), .int (nI bn), .int (nI wn), .ref m5, .ref m6, .ref m7, .ref m8, .ref m9, .ref m10, .ref m11])), (m5, .inl (cI, 40, .inl (fun j => nI (z j)))), (m9, .inl (cB, 8000, .inl (fun j => sb_b (g j)))), (m6, .inl (cI, 210, .inl (fun j => nI (rw j))))]) [0, 1, 4, 2] (by decide) rfl
        have hFc := va_free (wc := [(mx, .inr (4, [.int 0, .int (nI n), .int (nI dn), .int (nI bn), .int (nI wn), .ref m5, .ref m6, .ref m7, .ref m8, .ref m9, .ref m10, .ref m11])), (m5, .inl (cI, 40, .inl (fun j => nI (z j)))), (m9, .inl (cB, 8000, .inl (fun j => sb_b (g j)))), (m6, .inl (cI, 210, .inl (fun j => nI (rw j))))]) hD hS hA [0, 1, 4, 2] rfl
        refine va_callv (va_runV (As := [.ref m6, .int (nI a)]) (rest := []) ⟨hx, hb, hml, hown, hts⟩ (c_X4_fill l dC dI cI cB mx m5 m6 m7 m8 m9 m10 m11 n dn bn wn 0 g z rw m6 a H.size hI ha hrw) (cwV 2 hts gX4_compare_X4_fill rfl rfl rfl (by decide +kernel) ⟨Nat.le_of_ble_eq_true rfl, Nat.le_of_ble_eq_true rfl⟩) ⟨fun a U g mk q => by obtain ⟨q0, q1, qP, qK, qD⟩ := q; exact ⟨q0, q1, qP, va_K.moved (u := U) (U := U.calling g mk a) (Vm.Alike.refl U.vm) qK, qD⟩, va_recv hKc hPc (ci := 4) (q0 := 0) rfl rfl, fun U hU hW => ⟨rfl, by rw [hU], by rw [hU]; exact hPc, va_K.moved hW.alike hKc, hDc.weaken (fun _ _ _ _ => trivial)⟩⟩ rfl rfl hl.1 rfl (lv_room (Nat.le_of_ble_eq_true rfl)) dX4_compare_40 ⟨Nat.le_of_ble_eq_true rfl, Nat.le_of_ble_eq_true rfl⟩) hS (fun q _ h => hFc q h) hFc (fun uS tS H1 locs htS hvm h40 hB hzS hkS hS => ?_)
        obtain ⟨f3_40, rfl⟩ : ∃ z, z = uS := ⟨_, rfl⟩
        obtain ⟨hP1, hK1, hD1⟩ := hB
        rw [htS] at hP1
        have hK1 := va_K.moved hvm.symm hK1
        try dsimp only at h40
        obtain ⟨hP, hD⟩ := va_join (wr := [(m7, .inl (cI, 210, .inl (fun j => nI (ot j))))]) (w1 := [(mx, .inr (4, [.int 0, .int (nI n), .int (nI dn), .int (nI bn), .int (nI wn), .ref m5, .ref m6, .ref m7, .ref m8, .ref m9, .ref m10, .ref m11])), (m5, .inl (cI, 40, .inl (fun j => nI (z j)))), (m9, .inl (cB, 8000, .inl (fun j => sb_b (g j)))), (m6, .inl (cI, 210, .inl (fun j => nI (f3_40 j))))]) hP hD [0, 1, 4, 2] [3] rfl rfl (by decide) (by decide) hkS hFc hP1 hD1
        generalize H1 = H at hP hS ⊢
        have hP : va_P (dC, dI) vwCl [(m7, .inl (cI, 210, .inl (fun j => nI (ot j)))), (mx, .inr (4, [.int 0, .int (nI n), .int (nI dn), .int (nI bn), .int (nI wn), .ref m5, .ref m6, .ref m7, .ref m8, .ref m9, .ref m10, .ref m11])), (m5, .inl (cI, 40, .inl (fun j => nI (z j)))), (m9, .inl (cB, 8000, .inl (fun j => sb_b (g j)))), (m6, .inl (cI, 210, .inl (fun j => nI (f3_40 j))))] H := hP
        have hD : va_D A [(m7, .inl (cI, 210, .inl (fun j => nI (ot j)))), (mx, .inr (4, [.int 0, .int (nI n), .int (nI dn), .int (nI bn), .int (nI wn), .ref m5, .ref m6, .ref m7, .ref m8, .ref m9, .ref m10, .ref m11])), (m5, .inl (cI, 40, .inl (fun j => nI (z j)))), (m9, .inl (cB, 8000, .inl (fun j => sb_b (g j)))), (m6, .inl (cI, 210, .inl (fun j => nI (f3_40 j))))] := hD
        refine lv_aload_n hx hb dX4_compare_43 rfl (lv_at hl 0 rfl) ?_
        refine lv_aload_n hx hb dX4_compare_44 rfl (lv_at hl 0 rfl) ?_
        refine va_get (D := (dC, dI)) (ci := 4) (v := .ref m7) (C := RX4) (T := TX4) (N := 12) hx hb hts hinX4 hown hK hP 1 rfl rfl 7 (by decide) (hts (.fieldLink RX4 16 "NumberContentsModel" "other" "[I") (by decide +kernel)) (fun _ h9 => h9) rfl dX4_compare_45 ?_
        refine lv_iload_n hx hb dX4_compare_48 rfl (lv_at hl 2 rfl) ?_
        have hPc := hP.sub (ws' := [(mx, .inr (4, [.int 0, .int (nI n), .int (nI dn), .int (nI bn), .int (nI wn), .ref m5, .ref m6, .ref m7, .ref m8, .ref m9, .ref m10, .ref m11])), (m5, .inl (cI, 40, .inl (fun j => nI (z j)))), (m9, .inl (cB, 8000, .inl (fun j => sb_b (g j)))), (m7, .inl (cI, 210, .inl (fun j => nI (ot j))))]) [1, 2, 3, 0] rfl
        have hKc := hK.sub (tys' := [(cI, .int), (cB, .byte)]) [0, 1] rfl
        have hDc := hD.sub (ws' := [(mx, .inr (4, [.int 0, .int (nI n), .int (nI dn), .int (nI bn), .int (nI wn), .ref m5, .ref m6, .ref m7, .ref m8, .ref m9, .ref m10, .ref m11])), (m5, .inl (cI, 40, .inl (fun j => nI (z j)))), (m9, .inl (cB, 8000, .inl (fun j => sb_b (g j)))), (m7, .inl (cI, 210, .inl (fun j => nI (ot j))))]) [1, 2, 3, 0] (by decide) rfl
        have hFc := va_free (wc := [(mx, .inr (4, [.int 0, .int (nI n), .int (nI dn), .int (nI bn), .int (nI wn), .ref m5, .ref m6, .ref m7, .ref m8, .ref m9, .ref m10, .ref m11])), (m5, .inl (cI, 40, .inl (fun j => nI (z j)))), (m9, .inl (cB, 8000, .inl (fun j => sb_b (g j)))), (m7, .inl (cI, 210, .inl (fun j => nI (ot j))))]) hD hS hA [1, 2, 3, 0] rfl
        refine va_callv (va_runV (As := [.ref m7, .int (nI b)]) (rest := []) ⟨hx, hb, hml, hown, hts⟩ (c_X4_fill l dC dI cI cB mx m5 m6 m7 m8 m9 m10 m11 n dn bn wn 0 g z ot m7 b H.size hI hb9 hot) (cwV 2 hts gX4_compare_X4_fill rfl rfl rfl (by decide +kernel) ⟨Nat.le_of_ble_eq_true rfl, Nat.le_of_ble_eq_true rfl⟩) ⟨fun a U g mk q => by obtain ⟨q0, q1, qP, qK, qD⟩ := q; exact ⟨q0, q1, qP, va_K.moved (u := U) (U := U.calling g mk a) (Vm.Alike.refl U.vm) qK, qD⟩, va_recv hKc hPc (ci := 4) (q0 := 0) rfl rfl, fun U hU hW => ⟨rfl, by rw [hU], by rw [hU]; exact hPc, va_K.moved hW.alike hKc, hDc.weaken (fun _ _ _ _ => trivial)⟩⟩ rfl rfl hl.1 rfl (lv_room (Nat.le_of_ble_eq_true rfl)) dX4_compare_49 ⟨Nat.le_of_ble_eq_true rfl, Nat.le_of_ble_eq_true rfl⟩) hS (fun q _ h => hFc q h) hFc (fun uS tS H1 locs htS hvm h49 hB hzS hkS hS => ?_)
        obtain ⟨f3_49, rfl⟩ : ∃ z, z = uS := ⟨_, rfl⟩
        obtain ⟨hP1, hK1, hD1⟩ := hB
        rw [htS] at hP1
        have hK1 := va_K.moved hvm.symm hK1
        try dsimp only at h49
        obtain ⟨hP, hD⟩ := va_join (wr := [(m6, .inl (cI, 210, .inl (fun j => nI (f3_40 j))))]) (w1 := [(mx, .inr (4, [.int 0, .int (nI n), .int (nI dn), .int (nI bn), .int (nI wn), .ref m5, .ref m6, .ref m7, .ref m8, .ref m9, .ref m10, .ref m11])), (m5, .inl (cI, 40, .inl (fun j => nI (z j)))), (m9, .inl (cB, 8000, .inl (fun j => sb_b (g j)))), (m7, .inl (cI, 210, .inl (fun j => nI (f3_49 j))))]) hP hD [1, 2, 3, 0] [4] rfl rfl (by decide) (by decide) hkS hFc hP1 hD1
        generalize H1 = H at hP hS ⊢
        have hP : va_P (dC, dI) vwCl [(m6, .inl (cI, 210, .inl (fun j => nI (f3_40 j)))), (mx, .inr (4, [.int 0, .int (nI n), .int (nI dn), .int (nI bn), .int (nI wn), .ref m5, .ref m6, .ref m7, .ref m8, .ref m9, .ref m10, .ref m11])), (m5, .inl (cI, 40, .inl (fun j => nI (z j)))), (m9, .inl (cB, 8000, .inl (fun j => sb_b (g j)))), (m7, .inl (cI, 210, .inl (fun j => nI (f3_49 j))))] H := hP
        have hD : va_D A [(m6, .inl (cI, 210, .inl (fun j => nI (f3_40 j)))), (mx, .inr (4, [.int 0, .int (nI n), .int (nI dn), .int (nI bn), .int (nI wn), .ref m5, .ref m6, .ref m7, .ref m8, .ref m9, .ref m10, .ref m11])), (m5, .inl (cI, 40, .inl (fun j => nI (z j)))), (m9, .inl (cB, 8000, .inl (fun j => sb_b (g j)))), (m7, .inl (cI, 210, .inl (fun j => nI (f3_49 j))))] := hD
        refine lv_aload_n hx hb dX4_compare_52 rfl (lv_at hl 0 rfl) ?_
        refine lv_iconst (v := 1) hx hb dX4_compare_53 (by decide) ?_
        have hPc := hP.sub (ws' := [(mx, .inr (4, [.int 0, .int (nI n), .int (nI dn), .int (nI bn), .int (nI wn), .ref m5, .ref m6, .ref m7, .ref m8, .ref m9, .ref m10, .ref m11])), (m6, .inl (cI, 210, .inl (fun j => nI (f3_40 j)))), (m7, .inl (cI, 210, .inl (fun j => nI (f3_49 j))))]) [1, 0, 4] rfl
        have hKc := hK.sub (tys' := [(cI, .int)]) [0] rfl
        have hDc := hD.sub (ws' := [(mx, .inr (4, [.int 0, .int (nI n), .int (nI dn), .int (nI bn), .int (nI wn), .ref m5, .ref m6, .ref m7, .ref m8, .ref m9, .ref m10, .ref m11])), (m6, .inl (cI, 210, .inl (fun j => nI (f3_40 j)))), (m7, .inl (cI, 210, .inl (fun j => nI (f3_49 j))))]) [1, 0, 4] (by decide) rfl
        have hFc := va_free (wc := [(mx, .inr (4, [.int 0, .int (nI n), .int (nI dn), .int (nI bn), .int (nI wn), .ref m5, .ref m6, .ref m7, .ref m8, .ref m9, .ref m10, .ref m11])), (m6, .inl (cI, 210, .inl (fun j => nI (f3_40 j)))), (m7, .inl (cI, 210, .inl (fun j => nI (f3_49 j))))]) hD hS hA [1, 0, 4] rfl
        refine va_callv (va_runV (As := [.int 1]) (rest := []) ⟨hx, hb, hml, hown, hts⟩ (c_X4_together l dC dI cI mx m5 m6 m7 m8 m9 m10 m11 n dn bn wn 0 f3_40 f3_49 1 H.size h40.1 h49.1) (cwV 1 hts gX4_compare_X4_together rfl rfl rfl (by decide +kernel) ⟨Nat.le_of_ble_eq_true rfl, Nat.le_of_ble_eq_true rfl⟩) ⟨fun a U g mk q => by obtain ⟨q0, q1, qP, qK, qD⟩ := q; exact ⟨q0, q1, qP, va_K.moved (u := U) (U := U.calling g mk a) (Vm.Alike.refl U.vm) qK, qD⟩, va_recv hKc hPc (ci := 4) (q0 := 0) rfl rfl, fun U hU hW => ⟨rfl, by rw [hU], by rw [hU]; exact hPc, va_K.moved hW.alike hKc, hDc.weaken (fun _ _ _ _ => trivial)⟩⟩ rfl rfl hl.1 rfl (lv_room (Nat.le_of_ble_eq_true rfl)) dX4_compare_54 ⟨Nat.le_of_ble_eq_true rfl, Nat.le_of_ble_eq_true rfl⟩) hS (fun q _ h => hFc q h) hFc (fun uS tS H1 locs htS hvm h54 hB hzS hkS hS => ?_)
        obtain ⟨w3_54, rfl⟩ : ∃ z, z = uS := ⟨_, rfl⟩
        obtain ⟨hP1, hK1, hD1⟩ := hB
        rw [htS] at hP1
        have hK1 := va_K.moved hvm.symm hK1
        try dsimp only at h54
        obtain ⟨hP, hD⟩ := va_join (wr := [(m5, .inl (cI, 40, .inl (fun j => nI (z j)))), (m9, .inl (cB, 8000, .inl (fun j => sb_b (g j))))]) (w1 := [(mx, .inr (4, [.int 0, .int (nI n), .int (nI dn), .int (nI bn), .int (nI wn), .ref m5, .ref m6, .ref m7, .ref m8, .ref m9, .ref m10, .ref m11])), (m6, .inl (cI, 210, .inl (fun j => nI (w3_54 j)))), (m7, .inl (cI, 210, .inl (fun j => nI (f3_49 j))))]) hP hD [1, 0, 4] [2, 3] rfl rfl (by decide) (by decide) hkS hFc hP1 hD1
        generalize H1 = H at hP hS ⊢
        have hP : va_P (dC, dI) vwCl [(m5, .inl (cI, 40, .inl (fun j => nI (z j)))), (m9, .inl (cB, 8000, .inl (fun j => sb_b (g j)))), (mx, .inr (4, [.int 0, .int (nI n), .int (nI dn), .int (nI bn), .int (nI wn), .ref m5, .ref m6, .ref m7, .ref m8, .ref m9, .ref m10, .ref m11])), (m6, .inl (cI, 210, .inl (fun j => nI (w3_54 j)))), (m7, .inl (cI, 210, .inl (fun j => nI (f3_49 j))))] H := hP
        have hD : va_D A [(m5, .inl (cI, 40, .inl (fun j => nI (z j)))), (m9, .inl (cB, 8000, .inl (fun j => sb_b (g j)))), (mx, .inr (4, [.int 0, .int (nI n), .int (nI dn), .int (nI bn), .int (nI wn), .ref m5, .ref m6, .ref m7, .ref m8, .ref m9, .ref m10, .ref m11])), (m6, .inl (cI, 210, .inl (fun j => nI (w3_54 j)))), (m7, .inl (cI, 210, .inl (fun j => nI (f3_49 j))))] := hD
        have hZ54 : sv w3_54 210 = mval g z a - mval g z b := (smm_ex hI ha hb9 h40 h49 h54).trans (by rw [if_neg (by decide)]; omega)
        refine lv_aload_n hx hb dX4_compare_57 rfl (lv_at hl 0 rfl) ?_
        refine lv_aload_n hx hb dX4_compare_58 rfl (lv_at hl 0 rfl) ?_
        refine va_get (D := (dC, dI)) (ci := 4) (v := .ref m6) (C := RX4) (T := TX4) (N := 12) hx hb hts hinX4 hown hK hP 2 rfl rfl 6 (by decide) (hts (.fieldLink RX4 13 "NumberContentsModel" "row" "[I") (by decide +kernel)) (fun _ h9 => h9) rfl dX4_compare_59 ?_
        have hPc := hP.sub (ws' := [(mx, .inr (4, [.int 0, .int (nI n), .int (nI dn), .int (nI bn), .int (nI wn), .ref m5, .ref m6, .ref m7, .ref m8, .ref m9, .ref m10, .ref m11])), (m6, .inl (cI, 210, .inl (fun j => nI (w3_54 j))))]) [2, 3] rfl
        have hKc := hK.sub (tys' := [(cI, .int)]) [0] rfl
        refine vp_callSi (W.runV (As := [.ref m6]) (rest := []) ⟨hx, hb, hml, hown, hts⟩ (c_X4_isBelow l dC dI cI mx m5 m6 m7 m8 m9 m10 m11 n dn bn wn 0 w3_54 h54.1) (cwV 1 hts gX4_compare_X4_isBelow rfl rfl rfl (by decide +kernel) ⟨Nat.le_of_ble_eq_true rfl, Nat.le_of_ble_eq_true rfl⟩) ⟨fun a U g mk q => by obtain ⟨q0, qP, qK⟩ := q; exact ⟨q0, qP, va_K.moved (u := U) (U := U.calling g mk a) (Vm.Alike.refl U.vm) qK⟩, va_recv hK hP (ci := 4) (q0 := 2) rfl rfl, fun U hU hW => ⟨rfl, by rw [hU]; exact hPc, va_K.moved hW.alike hKc⟩⟩ rfl rfl hl.1 rfl (lv_room (Nat.le_of_ble_eq_true rfl)) dX4_compare_62 ⟨Nat.le_of_ble_eq_true rfl, Nat.le_of_ble_eq_true rfl⟩) (fun r62 h62 => ?_)
        refine lv_if_eq (tgt := 70) hx hb dX4_compare_65 (by decide) (fun c65 => ?_) (fun c65 => ?_)
        · refine lv_iconst (v := 1) hx hb dX4_compare_70 (by decide) ?_
          refine lv_istore_n (lv' := [(3, .int 1), (0, .ref mx), (1, .int (nI a)), (2, .int (nI b))]) hx hb dX4_compare_71 rfl hl (by decide) rfl (fun ls hl => ?_)
          refine lv_iconst (v := (nI 0)) hx hb dX4_compare_72 (by decide) ?_
          refine lv_istore (lv' := [(4, .int (nI 0)), (3, .int 1), (0, .ref mx), (1, .int (nI a)), (2, .int (nI b))]) hx hb dX4_compare_73 hl (by decide) rfl (fun ls hl => ?_)
          have LP75 : ∀ (n9 : Nat) (i : Nat) (no : Int32) (hm : (210 - i) < n9) (hi : i ≤ 210) (hno : (no = 1 ∧ ∀ j, j < i → w3_54 j = 0) ∨ (no = 0 ∧ ¬ ∀ j, j < 210 → w3_54 j = 0)) (H : Heap) (locs : List Loc) (ls : Array Slot) (hP : va_P (dC, dI) vwCl [(mx, .inr (4, [.int 0, .int (nI n), .int (nI dn), .int (nI bn), .int (nI wn), .ref m5, .ref m6, .ref m7, .ref m8, .ref m9, .ref m10, .ref m11])), (m5, .inl (cI, 40, .inl (fun j => nI (z j)))), (m6, .inl (cI, 210, .inl (fun j => nI (w3_54 j)))), (m7, .inl (cI, 210, .inl (fun j => nI (f3_49 j)))), (m9, .inl (cB, 8000, .inl (fun j => sb_b (g j))))] H) (hD : va_D A [(mx, .inr (4, [.int 0, .int (nI n), .int (nI dn), .int (nI bn), .int (nI wn), .ref m5, .ref m6, .ref m7, .ref m8, .ref m9, .ref m10, .ref m11])), (m5, .inl (cI, 40, .inl (fun j => nI (z j)))), (m6, .inl (cI, 210, .inl (fun j => nI (w3_54 j)))), (m7, .inl (cI, 210, .inl (fun j => nI (f3_49 j)))), (m9, .inl (cB, 8000, .inl (fun j => sb_b (g j))))]) (hS : va_S A s.heap H locs) (hl : lv_has ls 5 [(0, .ref mx), (3, .int no), (4, .int (nI i))]), W p l e (headSpec wsX4_compare ({ frames := 3, cells := 0, slots := 0, locals := 66 } : Room)).room s m ([.ref mx, .int (nI a), .int (nI b)]).toArray below meth c H locs 0 0 (MQ below (va_Qi (fun (r : Int32) (uS : Int32 × (Nat → Nat) × (Nat → Nat)) => match uS with | (th3, rw3, ot3) => (∀ j, rw3 j < 256) ∧ (∀ j, ot3 j < 256) ∧ ((th3 = 1 ∧ ¬ (vp_in (nI a) n ∧ vp_in (nI b) n)) ∨ (th3 = 0 ∧ ∃ aA bB, (nI a) = nI aA ∧ aA < n ∧ (nI b) = nI bB ∧ bB < n ∧ CMP (mval g z aA) (mval g z bB) r))) (fun (uS : Int32 × (Nat → Nat) × (Nat → Nat)) (tS : State) => match uS with | (th3, rw3, ot3) => va_P (dC, dI) vwCl [(mx, .inr (4, [.int th3, .int (nI n), .int (nI dn), .int (nI bn), .int (nI wn), .ref m5, .ref m6, .ref m7, .ref m8, .ref m9, .ref m10, .ref m11])), (m5, .inl (cI, 40, .inl (fun j => nI (z j)))), (m6, .inl (cI, 210, .inl (fun j => nI (rw3 j)))), (m7, .inl (cI, 210, .inl (fun j => nI (ot3 j)))), (m9, .inl (cB, 8000, .inl (fun j => sb_b (g j))))] tS.heap ∧ va_K (dC, dI) vwCl [(cI, .int), (cB, .byte)] tS ∧ va_D A [(mx, .inr (4, [.int th3, .int (nI n), .int (nI dn), .int (nI bn), .int (nI wn), .ref m5, .ref m6, .ref m7, .ref m8, .ref m9, .ref m10, .ref m11])), (m5, .inl (cI, 40, .inl (fun j => nI (z j)))), (m6, .inl (cI, 210, .inl (fun j => nI (rw3 j)))), (m7, .inl (cI, 210, .inl (fun j => nI (ot3 j)))), (m9, .inl (cB, 8000, .inl (fun j => sb_b (g j))))]) A) ([.ref mx, .int (nI a), .int (nI b)]).toArray s 0 0 A) (F0 m 75 ls []) := by
            intro n9
            induction n9 with
            | zero => intro i no hm; exact absurd hm (Nat.not_lt_zero _)
            | succ n9 ih =>
              intro i no hm hi hno H locs ls hP hD hS hl
              have ih75 := ih
              refine lv_iload hx hb dX4_compare_75 (lv_at hl 2 rfl) ?_
              refine lv_sipush (v := (nI 210)) hx hb dX4_compare_77 (by decide) ?_
              refine lv_icmp_ge (tgt := 109) hx hb dX4_compare_80 (by decide) (fun c80 => ?_) (fun c80 => ?_)
              · obtain rfl : i = 210 := Nat.le_antisymm hi ((nI_leI (by omega) (by omega)).mp c80)
                refine lv_iload_n hx hb dX4_compare_109 rfl (lv_at hl 1 rfl) ?_
                refine lv_if_eq (tgt := 117) hx hb dX4_compare_110 (by decide) (fun c110 => ?_) (fun c110 => ?_)
                · refine lv_iconst (v := 1) hx hb dX4_compare_117 (by decide) ?_
                  have hP9 := hP.sub (ws' := [(mx, .inr (4, [.int 0, .int (nI n), .int (nI dn), .int (nI bn), .int (nI wn), .ref m5, .ref m6, .ref m7, .ref m8, .ref m9, .ref m10, .ref m11])), (m5, .inl (cI, 40, .inl (fun j => nI (z j)))), (m6, .inl (cI, 210, .inl (fun j => nI (w3_54 j)))), (m7, .inl (cI, 210, .inl (fun j => nI (f3_49 j)))), (m9, .inl (cB, 8000, .inl (fun j => sb_b (g j))))]) [0, 1, 2, 3, 4] rfl
                  have hD9 := hD.sub (ws' := [(mx, .inr (4, [.int 0, .int (nI n), .int (nI dn), .int (nI bn), .int (nI wn), .ref m5, .ref m6, .ref m7, .ref m8, .ref m9, .ref m10, .ref m11])), (m5, .inl (cI, 40, .inl (fun j => nI (z j)))), (m6, .inl (cI, 210, .inl (fun j => nI (w3_54 j)))), (m7, .inl (cI, 210, .inl (fun j => nI (f3_49 j)))), (m9, .inl (cB, 8000, .inl (fun j => sb_b (g j))))]) [0, 1, 2, 3, 4] (by decide) rfl
                  have hK9 := hK.sub (tys' := [(cI, .int), (cB, .byte)]) [0, 1] rfl
                  exact W.iret (v := 1) hx hb hr (fun tS htS hW => ⟨⟨1, (0, w3_54, f3_49), rfl, ⟨h54.1, h49.1, Or.inr ⟨rfl, a, b, rfl, ha, rfl, hb9, cm_m h54.1 hZ54 (ite_r h62 c65) hno (by first | exact Or.inl ⟨c110, rfl⟩ | exact Or.inr ⟨c110, rfl⟩)⟩⟩, by rw [htS]; exact hP9, va_K.moved hW.alike hK9, hD9⟩, hS.F htS⟩) hS.2.2 dX4_compare_118
                · refine lv_iconst (v := 0) hx hb dX4_compare_113 (by decide) ?_
                  refine lv_goto (tgt := 118) hx hb dX4_compare_114 (by decide) ?_
                  have hP9 := hP.sub (ws' := [(mx, .inr (4, [.int 0, .int (nI n), .int (nI dn), .int (nI bn), .int (nI wn), .ref m5, .ref m6, .ref m7, .ref m8, .ref m9, .ref m10, .ref m11])), (m5, .inl (cI, 40, .inl (fun j => nI (z j)))), (m6, .inl (cI, 210, .inl (fun j => nI (w3_54 j)))), (m7, .inl (cI, 210, .inl (fun j => nI (f3_49 j)))), (m9, .inl (cB, 8000, .inl (fun j => sb_b (g j))))]) [0, 1, 2, 3, 4] rfl
                  have hD9 := hD.sub (ws' := [(mx, .inr (4, [.int 0, .int (nI n), .int (nI dn), .int (nI bn), .int (nI wn), .ref m5, .ref m6, .ref m7, .ref m8, .ref m9, .ref m10, .ref m11])), (m5, .inl (cI, 40, .inl (fun j => nI (z j)))), (m6, .inl (cI, 210, .inl (fun j => nI (w3_54 j)))), (m7, .inl (cI, 210, .inl (fun j => nI (f3_49 j)))), (m9, .inl (cB, 8000, .inl (fun j => sb_b (g j))))]) [0, 1, 2, 3, 4] (by decide) rfl
                  have hK9 := hK.sub (tys' := [(cI, .int), (cB, .byte)]) [0, 1] rfl
                  exact W.iret (v := 0) hx hb hr (fun tS htS hW => ⟨⟨0, (0, w3_54, f3_49), rfl, ⟨h54.1, h49.1, Or.inr ⟨rfl, a, b, rfl, ha, rfl, hb9, cm_m h54.1 hZ54 (ite_r h62 c65) hno (by first | exact Or.inl ⟨c110, rfl⟩ | exact Or.inr ⟨c110, rfl⟩)⟩⟩, by rw [htS]; exact hP9, va_K.moved hW.alike hK9, hD9⟩, hS.F htS⟩) hS.2.2 dX4_compare_118
              · have hlt : i < 210 := Nat.lt_of_not_le (fun h => c80 (nI_le h (by omega)))
                refine lv_iload_n hx hb dX4_compare_83 rfl (lv_at hl 1 rfl) ?_
                refine lv_if_eq (tgt := 101) hx hb dX4_compare_84 (by decide) (fun c84 => ?_) (fun c84 => ?_)
                · refine lv_iconst (v := 0) hx hb dX4_compare_101 (by decide) ?_
                  refine lv_istore_n (lv' := [(3, .int 0), (0, .ref mx), (4, .int (nI i))]) hx hb dX4_compare_102 rfl hl (by decide) rfl (fun ls hl => ?_)
                  obtain ⟨x103, e103⟩ : ∃ zz9 : Int32, zz9 = (nI i) + 1 := ⟨_, rfl⟩
                  refine lv_iinc (v := x103) (lv' := [(4, .int x103), (3, .int 0), (0, .ref mx)]) hx hb dX4_compare_103 hl (k := 2) rfl (by rw [e103]; rfl) (by decide) rfl (fun ls hl => ?_)
                  obtain rfl : x103 = nI (i + 1) := e103.trans (nI_1 i)
                  refine lv_goto (tgt := 75) hx hb dX4_compare_106 (by decide) ?_
                  exact ih75 (i + 1) 0 (by omega) (by omega) (by first | exact nn_b hno c84 | exact Or.inr ⟨rfl, fun y => c94 (by rw [y i hlt]; rfl)⟩) _ _ _ (hP.sub [0, 1, 2, 3, 4] rfl) (hD.sub [0, 1, 2, 3, 4] (by decide) rfl) hS (lv_sub hl [2, 1, 0] rfl)
                · refine lv_aload_n hx hb dX4_compare_87 rfl (lv_at hl 0 rfl) ?_
                  refine va_get (D := (dC, dI)) (ci := 4) (v := .ref m6) (C := RX4) (T := TX4) (N := 12) hx hb hts hinX4 hown hK hP 0 rfl rfl 6 (by decide) (hts (.fieldLink RX4 13 "NumberContentsModel" "row" "[I") (by decide +kernel)) (fun _ h9 => h9) rfl dX4_compare_88 ?_
                  refine lv_iload hx hb dX4_compare_91 (lv_at hl 2 rfl) ?_
                  refine va_iald hx hb hK hP 2 0 rfl rfl (vp_in_nI (by omega) (by omega)) dX4_compare_93 ?_
                  refine lv_topi (fun x93 e93 => ?_)
                  obtain rfl : x93 = nI (w3_54 i) := e93.trans (atg (by omega))
                  refine lv_if_ne (tgt := 101) hx hb dX4_compare_94 (by decide) (fun c94 => ?_) (fun c94 => ?_)
                  · refine lv_iconst (v := 0) hx hb dX4_compare_101 (by decide) ?_
                    refine lv_istore_n (lv' := [(3, .int 0), (0, .ref mx), (4, .int (nI i))]) hx hb dX4_compare_102 rfl hl (by decide) rfl (fun ls hl => ?_)
                    obtain ⟨x103, e103⟩ : ∃ zz9 : Int32, zz9 = (nI i) + 1 := ⟨_, rfl⟩
                    refine lv_iinc (v := x103) (lv' := [(4, .int x103), (3, .int 0), (0, .ref mx)]) hx hb dX4_compare_103 hl (k := 2) rfl (by rw [e103]; rfl) (by decide) rfl (fun ls hl => ?_)
                    obtain rfl : x103 = nI (i + 1) := e103.trans (nI_1 i)
                    refine lv_goto (tgt := 75) hx hb dX4_compare_106 (by decide) ?_
                    exact ih75 (i + 1) 0 (by omega) (by omega) (by first | exact nn_b hno c84 | exact Or.inr ⟨rfl, fun y => c94 (by rw [y i hlt]; rfl)⟩) _ _ _ (hP.sub [0, 1, 2, 3, 4] rfl) (hD.sub [0, 1, 2, 3, 4] (by decide) rfl) hS (lv_sub hl [2, 1, 0] rfl)
                  · refine lv_iconst (v := 1) hx hb dX4_compare_97 (by decide) ?_
                    refine lv_goto (tgt := 102) hx hb dX4_compare_98 (by decide) ?_
                    refine lv_istore_n (lv' := [(3, .int 1), (0, .ref mx), (4, .int (nI i))]) hx hb dX4_compare_102 rfl hl (by decide) rfl (fun ls hl => ?_)
                    obtain ⟨x103, e103⟩ : ∃ zz9 : Int32, zz9 = (nI i) + 1 := ⟨_, rfl⟩
                    refine lv_iinc (v := x103) (lv' := [(4, .int x103), (3, .int 1), (0, .ref mx)]) hx hb dX4_compare_103 hl (k := 2) rfl (by rw [e103]; rfl) (by decide) rfl (fun ls hl => ?_)
                    obtain rfl : x103 = nI (i + 1) := e103.trans (nI_1 i)
                    refine lv_goto (tgt := 75) hx hb dX4_compare_106 (by decide) ?_
                    exact ih75 (i + 1) 1 (by omega) (by omega) (nn_a hno c84 (nI_inj (h54.1 i) (by decide) c94)) _ _ _ (hP.sub [0, 1, 2, 3, 4] rfl) (hD.sub [0, 1, 2, 3, 4] (by decide) rfl) hS (lv_sub hl [2, 1, 0] rfl)
          exact LP75 _ 0 1 (Nat.lt_succ_self _) (by omega) (Or.inl ⟨rfl, fun j h => absurd h (by omega)⟩) _ _ _ (hP.sub [2, 0, 3, 4, 1] rfl) (hD.sub [2, 0, 3, 4, 1] (by decide) rfl) hS (lv_sub hl [2, 1, 0] rfl)
        · refine lv_iconst (v := (-1)) hx hb dX4_compare_68 (by decide) ?_
          have hP9 := hP.sub (ws' := [(mx, .inr (4, [.int 0, .int (nI n), .int (nI dn), .int (nI bn), .int (nI wn), .ref m5, .ref m6, .ref m7, .ref m8, .ref m9, .ref m10, .ref m11])), (m5, .inl (cI, 40, .inl (fun j => nI (z j)))), (m6, .inl (cI, 210, .inl (fun j => nI (w3_54 j)))), (m7, .inl (cI, 210, .inl (fun j => nI (f3_49 j)))), (m9, .inl (cB, 8000, .inl (fun j => sb_b (g j))))]) [2, 0, 3, 4, 1] rfl
          have hD9 := hD.sub (ws' := [(mx, .inr (4, [.int 0, .int (nI n), .int (nI dn), .int (nI bn), .int (nI wn), .ref m5, .ref m6, .ref m7, .ref m8, .ref m9, .ref m10, .ref m11])), (m5, .inl (cI, 40, .inl (fun j => nI (z j)))), (m6, .inl (cI, 210, .inl (fun j => nI (w3_54 j)))), (m7, .inl (cI, 210, .inl (fun j => nI (f3_49 j)))), (m9, .inl (cB, 8000, .inl (fun j => sb_b (g j))))]) [2, 0, 3, 4, 1] (by decide) rfl
          have hK9 := hK.sub (tys' := [(cI, .int), (cB, .byte)]) [0, 1] rfl
          exact W.iret (v := (-1)) hx hb hr (fun tS htS hW => ⟨⟨(-1), (0, w3_54, f3_49), rfl, ⟨h54.1, h49.1, Or.inr ⟨rfl, a, b, rfl, ha, rfl, hb9, Or.inr (Or.inl ⟨rfl, (by have := sv_ng h54.1 (ite_s h62 c65); omega)⟩)⟩⟩, by rw [htS]; exact hP9, va_K.moved hW.alike hK9, hD9⟩, hS.F htS⟩) hS.2.2 dX4_compare_69
      · first | exact absurd c29 (by decide) | exact (c29 (by decide)).elim
    · refine lv_iconst (v := 1) hx hb dX4_compare_17 (by decide) ?_
      refine lv_goto (tgt := 22) hx hb dX4_compare_18 (by decide) ?_
      refine va_put (D := (dC, dI)) (ci := 4) (v := .int 1) (ty := .int) (C := RX4) (T := TX4) (N := 12) hx hb hts hinX4 tyX4 tyX4_ok nmX4 hown hK hP hD hS 0 rfl rfl 0 (by decide) (hts (.fieldLink RX4 32 "NumberContentsModel" "thrown" "I") (by decide +kernel)) (fun _ h9 => h9) rfl (by decide +kernel) rfl rfl (Nat.le_of_ble_eq_true rfl) dX4_compare_22 (fun H locs hP hD hS => ?_)
      have hP : va_P (dC, dI) vwCl [(mx, .inr (4, [.int 1, .int (nI n), .int (nI dn), .int (nI bn), .int (nI wn), .ref m5, .ref m6, .ref m7, .ref m8, .ref m9, .ref m10, .ref m11])), (m5, .inl (cI, 40, .inl (fun j => nI (z j)))), (m6, .inl (cI, 210, .inl (fun j => nI (rw j)))), (m7, .inl (cI, 210, .inl (fun j => nI (ot j)))), (m9, .inl (cB, 8000, .inl (fun j => sb_b (g j))))] H := hP
      have hD : va_D A [(mx, .inr (4, [.int 1, .int (nI n), .int (nI dn), .int (nI bn), .int (nI wn), .ref m5, .ref m6, .ref m7, .ref m8, .ref m9, .ref m10, .ref m11])), (m5, .inl (cI, 40, .inl (fun j => nI (z j)))), (m6, .inl (cI, 210, .inl (fun j => nI (rw j)))), (m7, .inl (cI, 210, .inl (fun j => nI (ot j)))), (m9, .inl (cB, 8000, .inl (fun j => sb_b (g j))))] := hD
      refine lv_aload_n hx hb dX4_compare_25 rfl (lv_at hl 0 rfl) ?_
      refine va_get (D := (dC, dI)) (ci := 4) (v := .int 1) (C := RX4) (T := TX4) (N := 12) hx hb hts hinX4 hown hK hP 0 rfl rfl 0 (by decide) (hts (.fieldLink RX4 32 "NumberContentsModel" "thrown" "I") (by decide +kernel)) (fun _ h9 => h9) rfl dX4_compare_26 ?_
      refine lv_if_le (tgt := 34) hx hb dX4_compare_29 (by decide) (fun c29 => ?_) (fun c29 => ?_)
      · first | exact absurd c29 (by decide) | exact (c29 (by decide)).elim
      · refine lv_iconst (v := 0) hx hb dX4_compare_32 (by decide) ?_
        have hP9 := hP.sub (ws' := [(mx, .inr (4, [.int 1, .int (nI n), .int (nI dn), .int (nI bn), .int (nI wn), .ref m5, .ref m6, .ref m7, .ref m8, .ref m9, .ref m10, .ref m11])), (m5, .inl (cI, 40, .inl (fun j => nI (z j)))), (m6, .inl (cI, 210, .inl (fun j => nI (rw j)))), (m7, .inl (cI, 210, .inl (fun j => nI (ot j)))), (m9, .inl (cB, 8000, .inl (fun j => sb_b (g j))))]) [0, 1, 2, 3, 4] rfl
        have hD9 := hD.sub (ws' := [(mx, .inr (4, [.int 1, .int (nI n), .int (nI dn), .int (nI bn), .int (nI wn), .ref m5, .ref m6, .ref m7, .ref m8, .ref m9, .ref m10, .ref m11])), (m5, .inl (cI, 40, .inl (fun j => nI (z j)))), (m6, .inl (cI, 210, .inl (fun j => nI (rw j)))), (m7, .inl (cI, 210, .inl (fun j => nI (ot j)))), (m9, .inl (cB, 8000, .inl (fun j => sb_b (g j))))]) [0, 1, 2, 3, 4] (by decide) rfl
        have hK9 := hK.sub (tys' := [(cI, .int), (cB, .byte)]) [0, 1] rfl
        exact W.iret (v := 0) hx hb hr (fun tS htS hW => ⟨⟨0, (1, rw, ot), rfl, (by first | exact ⟨hrw, hot, Or.inl ⟨rfl, fun y => ite_r h11 c14 y.2⟩⟩ | exact ⟨hrw, hot, Or.inl ⟨rfl, fun y => ite_r h3 c6 y.1⟩⟩), by rw [htS]; exact hP9, va_K.moved hW.alike hK9, hD9⟩, hS.F htS⟩) hS.2.2 dX4_compare_33

set_option maxHeartbeats 4000000 in
set_option maxRecDepth 100000 in
theorem c_X4_small (l : Launch) (dC : Nat → ClassId) (dI : Nat → Nat → Nat) (cI cB : ClassId) (mx m5 m6 m7 m8 m9 m10 m11 n dn bn wn : Nat) (th : Int32) (g z : Nat → Nat) (a9 : Int32) (sz : Nat) (hI : XM n g z) : Met l yX4_small wsX4_small ({ frames := 1, cells := 0, slots := 0, locals := 22 } : Room) (va_Pc [.ref mx, .int a9] (fun U => U.heap.size = sz ∧ va_P (dC, dI) vwCl [(mx, .inr (4, [.int th, .int (nI n), .int (nI dn), .int (nI bn), .int (nI wn), .ref m5, .ref m6, .ref m7, .ref m8, .ref m9, .ref m10, .ref m11])), (m5, .inl (cI, 40, .inl (fun j => nI (z j)))), (m9, .inl (cB, 8000, .inl (fun j => sb_b (g j))))] U.heap ∧ va_K (dC, dI) vwCl [(cI, .int), (cB, .byte)] U ∧ va_D (fun _ => True) [(mx, .inr (4, [.int th, .int (nI n), .int (nI dn), .int (nI bn), .int (nI wn), .ref m5, .ref m6, .ref m7, .ref m8, .ref m9, .ref m10, .ref m11])), (m5, .inl (cI, 40, .inl (fun j => nI (z j)))), (m9, .inl (cB, 8000, .inl (fun j => sb_b (g j))))])) (va_Qi (fun (r : Int32) (th3 : Int32) => (th3 = 1 ∧ ¬ vp_in a9 n) ∨ (th3 = 2 ∧ ∃ aA, a9 = nI aA ∧ aA < n ∧ 4 < z aA) ∨ (th3 = 0 ∧ ∃ aA, a9 = nI aA ∧ aA < n ∧ z aA ≤ 4 ∧ r.toInt = mval g z aA)) (fun (th3 : Int32) (tS : State) => va_P (dC, dI) vwCl [(mx, .inr (4, [.int th3, .int (nI n), .int (nI dn), .int (nI bn), .int (nI wn), .ref m5, .ref m6, .ref m7, .ref m8, .ref m9, .ref m10, .ref m11])), (m5, .inl (cI, 40, .inl (fun j => nI (z j)))), (m9, .inl (cB, 8000, .inl (fun j => sb_b (g j))))] tS.heap ∧ va_K (dC, dI) vwCl [(cI, .int), (cB, .byte)] tS ∧ va_D (va_A [(mx, .inr (4, [.int th, .int (nI n), .int (nI dn), .int (nI bn), .int (nI wn), .ref m5, .ref m6, .ref m7, .ref m8, .ref m9, .ref m10, .ref m11])), (m5, .inl (cI, 40, .inl (fun j => nI (z j)))), (m9, .inl (cB, 8000, .inl (fun j => sb_b (g j))))] sz) [(mx, .inr (4, [.int th3, .int (nI n), .int (nI dn), .int (nI bn), .int (nI wn), .ref m5, .ref m6, .ref m7, .ref m8, .ref m9, .ref m10, .ref m11])), (m5, .inl (cI, 40, .inl (fun j => nI (z j)))), (m9, .inl (cB, 8000, .inl (fun j => sb_b (g j))))]) (va_A [(mx, .inr (4, [.int th, .int (nI n), .int (nI dn), .int (nI bn), .int (nI wn), .ref m5, .ref m6, .ref m7, .ref m8, .ref m9, .ref m10, .ref m11])), (m5, .inl (cI, 40, .inl (fun j => nI (z j)))), (m9, .inl (cB, 8000, .inl (fun j => sb_b (g j))))] sz)) 0 0 (va_A [(mx, .inr (4, [.int th, .int (nI n), .int (nI dn), .int (nI bn), .int (nI wn), .ref m5, .ref m6, .ref m7, .ref m8, .ref m9, .ref m10, .ref m11])), (m5, .inl (cI, 40, .inl (fun j => nI (z j)))), (m9, .inl (cB, 8000, .inl (fun j => sb_b (g j))))] sz) := by
  refine Met.ofW (cc := cX4_small) (maxL := 4) (ret := (some .int)) (by decide) rfl ?_
  intro p e s m args below meth c s₁ B hml hv
  obtain ⟨rfl, hsz, hP, hK, hD0⟩ := hv
  have hx := B.exec
  have hb := B.bytes
  have hr := B.returns
  have hts := atoms_spec (ws := wsX4_small) B.pre
  have hown : s.vm.findClass RX4 = some m.cls := findClass_of_methodNamed B.named
  have hlocks := B.notSynchronized
  subst hsz
  have hD := hD0.self (sz := s.heap.size)
  generalize hAe : va_A [(mx, .inr (4, [.int th, .int (nI n), .int (nI dn), .int (nI bn), .int (nI wn), .ref m5, .ref m6, .ref m7, .ref m8, .ref m9, .ref m10, .ref m11])), (m5, .inl (cI, 40, .inl (fun j => nI (z j)))), (m9, .inl (cB, 8000, .inl (fun j => sb_b (g j))))] s.heap.size = A at hD ⊢
  have hA : ∀ q : Nat, s.heap.size ≤ q → A q := fun q h => by rw [← hAe]; exact Or.inr h
  have hS : va_S A s.heap s.heap [] := va_S.rf
  have hinX4 : ∀ w ∈ wsX40, w ∈ wsX4_small := by decide +kernel
  have hl := lv_entry ([.ref mx, .int a9]) (n := 4) (Nat.le_of_ble_eq_true rfl)
  rw [lg_entry_eq]
  generalize (lg_sl ([.ref mx, .int a9]) ++ List.replicate (4 - (lg_sl ([.ref mx, .int a9])).length) Slot.unset).toArray = ls at hl ⊢
  have hl : lv_has ls 4 [(0, .ref mx), (1, .int a9)] := hl
  obtain ⟨hg, hn, hz, hq⟩ := id hI
  refine lv_aload_n hx hb dX4_small_0 rfl (lv_at hl 0 rfl) ?_
  refine lv_aload_n hx hb dX4_small_1 rfl (lv_at hl 0 rfl) ?_
  refine lv_iload_n hx hb dX4_small_2 rfl (lv_at hl 1 rfl) ?_
  have hPc := hP.sub (ws' := [(mx, .inr (4, [.int th, .int (nI n), .int (nI dn), .int (nI bn), .int (nI wn), .ref m5, .ref m6, .ref m7, .ref m8, .ref m9, .ref m10, .ref m11]))]) [0] rfl
  have hKc := hK.sub (tys' := []) [] rfl
  refine vp_callSi (W.runV (As := [.int a9]) (rest := [.ref mx]) ⟨hx, hb, hml, hown, hts⟩ (c_X4_isPlace l dC dI cI mx m5 m6 m7 m8 m9 m10 m11 n dn bn wn th a9 hn) (cwV 1 hts gX4_small_X4_isPlace rfl rfl rfl (by decide +kernel) ⟨Nat.le_of_ble_eq_true rfl, Nat.le_of_ble_eq_true rfl⟩) ⟨fun a U g mk q => by obtain ⟨q0, qP, qK⟩ := q; exact ⟨q0, qP, va_K.moved (u := U) (U := U.calling g mk a) (Vm.Alike.refl U.vm) qK⟩, va_recv hK hP (ci := 4) (q0 := 0) rfl rfl, fun U hU hW => ⟨rfl, by rw [hU]; exact hPc, va_K.moved hW.alike hKc⟩⟩ rfl rfl hl.1 rfl (lv_room (Nat.le_of_ble_eq_true rfl)) dX4_small_3 ⟨Nat.le_of_ble_eq_true rfl, Nat.le_of_ble_eq_true rfl⟩) (fun r3 h3 => ?_)
  refine lv_if_ne (tgt := 13) hx hb dX4_small_6 (by decide) (fun c6 => ?_) (fun c6 => ?_)
  · obtain ⟨a, ha, rfl⟩ := vp_in_of (ite_s h3 c6) (by omega)
    have hza := hz a ha
    refine lv_aload_n hx hb dX4_small_13 rfl (lv_at hl 0 rfl) ?_
    refine va_get (D := (dC, dI)) (ci := 4) (v := .ref m5) (C := RX4) (T := TX4) (N := 12) hx hb hts hinX4 hown hK hP 0 rfl rfl 5 (by decide) (hts (.fieldLink RX4 7 "NumberContentsModel" "sizes" "[I") (by decide +kernel)) (fun _ h9 => h9) rfl dX4_small_14 ?_
    refine lv_iload_n hx hb dX4_small_17 rfl (lv_at hl 1 rfl) ?_
    refine va_iald hx hb hK hP 1 0 rfl rfl (vp_in_nI (by omega) (by omega)) dX4_small_18 ?_
    refine lv_topi (fun x18 e18 => ?_)
    obtain rfl : x18 = nI (z a) := e18.trans (atg (by omega))
    refine lv_iconst (v := (nI 4)) hx hb dX4_small_19 (by decide) ?_
    refine lv_icmp_le (tgt := 27) hx hb dX4_small_20 (by decide) (fun c20 => ?_) (fun c20 => ?_)
    · refine lv_iconst (v := 0) hx hb dX4_small_27 (by decide) ?_
      refine va_put (D := (dC, dI)) (ci := 4) (v := .int 0) (ty := .int) (C := RX4) (T := TX4) (N := 12) hx hb hts hinX4 tyX4 tyX4_ok nmX4 hown hK hP hD hS 0 rfl rfl 0 (by decide) (hts (.fieldLink RX4 32 "NumberContentsModel" "thrown" "I") (by decide +kernel)) (fun _ h9 => h9) rfl (by decide +kernel) rfl rfl (Nat.le_of_ble_eq_true rfl) dX4_small_28 (fun H locs hP hD hS => ?_)
      have hP : va_P (dC, dI) vwCl [(mx, .inr (4, [.int 0, .int (nI n), .int (nI dn), .int (nI bn), .int (nI wn), .ref m5, .ref m6, .ref m7, .ref m8, .ref m9, .ref m10, .ref m11])), (m5, .inl (cI, 40, .inl (fun j => nI (z j)))), (m9, .inl (cB, 8000, .inl (fun j => sb_b (g j))))] H := hP
      have hD : va_D A [(mx, .inr (4, [.int 0, .int (nI n), .int (nI dn), .int (nI bn), .int (nI wn), .ref m5, .ref m6, .ref m7, .ref m8, .ref m9, .ref m10, .ref m11])), (m5, .inl (cI, 40, .inl (fun j => nI (z j)))), (m9, .inl (cB, 8000, .inl (fun j => sb_b (g j))))] := hD
      refine lv_aload_n hx hb dX4_small_31 rfl (lv_at hl 0 rfl) ?_
      refine va_get (D := (dC, dI)) (ci := 4) (v := .int 0) (C := RX4) (T := TX4) (N := 12) hx hb hts hinX4 hown hK hP 0 rfl rfl 0 (by decide) (hts (.fieldLink RX4 32 "NumberContentsModel" "thrown" "I") (by decide +kernel)) (fun _ h9 => h9) rfl dX4_small_32 ?_
      refine lv_if_le (tgt := 40) hx hb dX4_small_35 (by decide) (fun c35 => ?_) (fun c35 => ?_)
      · have hz4 : z a ≤ 4 := (nI_leI (by omega) (by omega)).mp c20
        refine lv_aload_n hx hb dX4_small_40 rfl (lv_at hl 0 rfl) ?_
        refine va_get (D := (dC, dI)) (ci := 4) (v := .ref m9) (C := RX4) (T := TX4) (N := 12) hx hb hts hinX4 hown hK hP 0 rfl rfl 9 (by decide) (hts (.fieldLink RX4 22 "NumberContentsModel" "kept" "[B") (by decide +kernel)) (fun _ h9 => h9) rfl dX4_small_41 ?_
        refine lv_sipush (v := (nI 200)) hx hb dX4_small_44 (by decide) ?_
        refine lv_iload_n hx hb dX4_small_47 rfl (lv_at hl 1 rfl) ?_
        refine lv_imul hx hb dX4_small_48 ?_
        refine lv_topi (fun x48 e48 => ?_)
        obtain rfl : x48 = nI (200 * a) := e48.trans (pk_mul 200 a)
        refine va_bald hx hb hK hP 2 1 rfl rfl (vp_in_nI (by omega) (by omega)) dX4_small_49 ?_
        refine lv_topi (fun x49 e49 => ?_)
        obtain rfl : x49 = sb_b (g (200 * a)) := e49.trans (atsb (by omega))
        refine lv_if_ge (tgt := 57) hx hb dX4_small_50 (by decide) (fun c50 => ?_) (fun c50 => ?_)
        · refine lv_iconst (v := 0) hx hb dX4_small_57 (by decide) ?_
          refine lv_istore_n (lv' := [(2, .int 0), (0, .ref mx), (1, .int (nI a))]) hx hb dX4_small_58 rfl hl (by decide) rfl (fun ls hl => ?_)
          refine lv_iconst (v := (nI 0)) hx hb dX4_small_59 (by decide) ?_
          refine lv_istore_n (lv' := [(3, .int (nI 0)), (2, .int 0), (0, .ref mx), (1, .int (nI a))]) hx hb dX4_small_60 rfl hl (by decide) rfl (fun ls hl => ?_)
          have LP61 : ∀ (n9 : Nat) (i : Nat) (x9 : Int32) (hm : (z a - i) < n9) (hi : i ≤ z a) (hv : x9.toInt * ((256 ^ (z a - i) : Nat) : Int) + bv (fun j => g (200 * a + (z a - 1 - j))) (z a - i) = mval g z a) (H : Heap) (locs : List Loc) (ls : Array Slot) (hP : va_P (dC, dI) vwCl [(mx, .inr (4, [.int 0, .int (nI n), .int (nI dn), .int (nI bn), .int (nI wn), .ref m5, .ref m6, .ref m7, .ref m8, .ref m9, .ref m10, .ref m11])), (m5, .inl (cI, 40, .inl (fun j => nI (z j)))), (m9, .inl (cB, 8000, .inl (fun j => sb_b (g j))))] H) (hD : va_D A [(mx, .inr (4, [.int 0, .int (nI n), .int (nI dn), .int (nI bn), .int (nI wn), .ref m5, .ref m6, .ref m7, .ref m8, .ref m9, .ref m10, .ref m11])), (m5, .inl (cI, 40, .inl (fun j => nI (z j)))), (m9, .inl (cB, 8000, .inl (fun j => sb_b (g j))))]) (hS : va_S A s.heap H locs) (hl : lv_has ls 4 [(0, .ref mx), (1, .int (nI a)), (2, .int x9), (3, .int (nI i))]), W p l e (headSpec wsX4_small ({ frames := 1, cells := 0, slots := 0, locals := 22 } : Room)).room s m ([.ref mx, .int (nI a)]).toArray below meth c H locs 0 0 (MQ below (va_Qi (fun (r : Int32) (th3 : Int32) => (th3 = 1 ∧ ¬ vp_in (nI a) n) ∨ (th3 = 2 ∧ ∃ aA, (nI a) = nI aA ∧ aA < n ∧ 4 < z aA) ∨ (th3 = 0 ∧ ∃ aA, (nI a) = nI aA ∧ aA < n ∧ z aA ≤ 4 ∧ r.toInt = mval g z aA)) (fun (th3 : Int32) (tS : State) => va_P (dC, dI) vwCl [(mx, .inr (4, [.int th3, .int (nI n), .int (nI dn), .int (nI bn), .int (nI wn), .ref m5, .ref m6, .ref m7, .ref m8, .ref m9, .ref m10, .ref m11])), (m5, .inl (cI, 40, .inl (fun j => nI (z j)))), (m9, .inl (cB, 8000, .inl (fun j => sb_b (g j))))] tS.heap ∧ va_K (dC, dI) vwCl [(cI, .int), (cB, .byte)] tS ∧ va_D A [(mx, .inr (4, [.int th3, .int (nI n), .int (nI dn), .int (nI bn), .int (nI wn), .ref m5, .ref m6, .ref m7, .ref m8, .ref m9, .ref m10, .ref m11])), (m5, .inl (cI, 40, .inl (fun j => nI (z j)))), (m9, .inl (cB, 8000, .inl (fun j => sb_b (g j))))]) A) ([.ref mx, .int (nI a)]).toArray s 0 0 A) (F0 m 61 ls []) := by
            intro n9
            induction n9 with
            | zero => intro i x9 hm; exact absurd hm (Nat.not_lt_zero _)
            | succ n9 ih =>
              intro i x9 hm hi hv H locs ls hP hD hS hl
              have ih61 := ih
              refine lv_iload_n hx hb dX4_small_61 rfl (lv_at hl 3 rfl) ?_
              refine lv_aload_n hx hb dX4_small_62 rfl (lv_at hl 0 rfl) ?_
              refine va_get (D := (dC, dI)) (ci := 4) (v := .ref m5) (C := RX4) (T := TX4) (N := 12) hx hb hts hinX4 hown hK hP 0 rfl rfl 5 (by decide) (hts (.fieldLink RX4 7 "NumberContentsModel" "sizes" "[I") (by decide +kernel)) (fun _ h9 => h9) rfl dX4_small_63 ?_
              refine lv_iload_n hx hb dX4_small_66 rfl (lv_at hl 1 rfl) ?_
              refine va_iald hx hb hK hP 1 0 rfl rfl (vp_in_nI (by omega) (by omega)) dX4_small_67 ?_
              refine lv_topi (fun x67 e67 => ?_)
              obtain rfl : x67 = nI (z a) := e67.trans (atg (by omega))
              refine lv_icmp_ge (tgt := 99) hx hb dX4_small_68 (by decide) (fun c68 => ?_) (fun c68 => ?_)
              · refine lv_iload_n hx hb dX4_small_99 rfl (lv_at hl 2 rfl) ?_
                have hP9 := hP.sub (ws' := [(mx, .inr (4, [.int 0, .int (nI n), .int (nI dn), .int (nI bn), .int (nI wn), .ref m5, .ref m6, .ref m7, .ref m8, .ref m9, .ref m10, .ref m11])), (m5, .inl (cI, 40, .inl (fun j => nI (z j)))), (m9, .inl (cB, 8000, .inl (fun j => sb_b (g j))))]) [0, 1, 2] rfl
                have hD9 := hD.sub (ws' := [(mx, .inr (4, [.int 0, .int (nI n), .int (nI dn), .int (nI bn), .int (nI wn), .ref m5, .ref m6, .ref m7, .ref m8, .ref m9, .ref m10, .ref m11])), (m5, .inl (cI, 40, .inl (fun j => nI (z j)))), (m9, .inl (cB, 8000, .inl (fun j => sb_b (g j))))]) [0, 1, 2] (by decide) rfl
                have hK9 := hK.sub (tys' := [(cI, .int), (cB, .byte)]) [0, 1] rfl
                exact W.iret (v := x9) hx hb hr (fun tS htS hW => ⟨⟨x9, 0, rfl, (Or.inr (Or.inr ⟨rfl, a, rfl, ha, hz4, (by have he : i = z a := Nat.le_antisymm hi ((nI_leI (by omega) (by omega)).mp c68); subst he; rw [Nat.sub_self] at hv; rw [← hv]; show _ = x9.toInt * ((1 : Nat) : Int) + ((0 : Nat) : Int); omega)⟩)), by rw [htS]; exact hP9, va_K.moved hW.alike hK9, hD9⟩, hS.F htS⟩) hS.2.2 dX4_small_100
              · have hlt : i < z a := Nat.lt_of_not_le (fun h => c68 (nI_le h (by omega)))
                refine lv_iload_n hx hb dX4_small_71 rfl (lv_at hl 2 rfl) ?_
                refine lv_bipush (v := 8) hx hb dX4_small_72 (by decide) ?_
                refine lv_ishl hx hb dX4_small_74 ?_
                refine lv_topi (fun x74 e74 => ?_)
                refine lv_aload_n hx hb dX4_small_75 rfl (lv_at hl 0 rfl) ?_
                refine va_get (D := (dC, dI)) (ci := 4) (v := .ref m9) (C := RX4) (T := TX4) (N := 12) hx hb hts hinX4 hown hK hP 0 rfl rfl 9 (by decide) (hts (.fieldLink RX4 22 "NumberContentsModel" "kept" "[B") (by decide +kernel)) (fun _ h9 => h9) rfl dX4_small_76 ?_
                refine lv_sipush (v := (nI 200)) hx hb dX4_small_79 (by decide) ?_
                refine lv_iload_n hx hb dX4_small_82 rfl (lv_at hl 1 rfl) ?_
                refine lv_imul hx hb dX4_small_83 ?_
                refine lv_topi (fun x83 e83 => ?_)
                obtain rfl : x83 = nI (200 * a) := e83.trans (pk_mul 200 a)
                refine lv_iload_n hx hb dX4_small_84 rfl (lv_at hl 3 rfl) ?_
                refine lv_iadd hx hb dX4_small_85 ?_
                refine lv_topi (fun x85 e85 => ?_)
                obtain rfl : x85 = nI (200 * a + i) := e85.trans (nI_add _ _)
                refine va_bald hx hb hK hP 2 1 rfl rfl (vp_in_nI (by omega) (by omega)) dX4_small_86 ?_
                refine lv_topi (fun x86 e86 => ?_)
                obtain rfl : x86 = sb_b (g (200 * a + i)) := e86.trans (atsb (by omega))
                refine lv_sipush (v := 255) hx hb dX4_small_87 (by decide) ?_
                refine lv_iand hx hb dX4_small_90 ?_
                refine lv_topi (fun x90 e90 => ?_)
                obtain rfl : x90 = nI (g (200 * a + i)) := e90.trans (sb_and (hg _))
                refine lv_ior hx hb dX4_small_91 ?_
                refine lv_topi (fun x91 e91 => ?_)
                refine lv_istore_n (lv' := [(2, .int x91), (0, .ref mx), (1, .int (nI a)), (3, .int (nI i))]) hx hb dX4_small_92 rfl hl (by decide) rfl (fun ls hl => ?_)
                obtain ⟨x93, e93⟩ : ∃ zz9 : Int32, zz9 = (nI i) + 1 := ⟨_, rfl⟩
                refine lv_iinc (v := x93) (lv' := [(3, .int x93), (2, .int x91), (0, .ref mx), (1, .int (nI a))]) hx hb dX4_small_93 hl (k := 3) rfl (by rw [e93]; rfl) (by decide) rfl (fun ls hl => ?_)
                obtain rfl : x93 = nI (i + 1) := e93.trans (nI_1 i)
                refine lv_goto (tgt := 61) hx hb dX4_small_96 (by decide) ?_
                have hrg := sm_rng hza.1 hz4 hlt (hq a ha).2.1 (bv_lt (fun j => hg (200 * a + (z a - 1 - j))) _) hv
                have hx2 : x91.toInt = x9.toInt * 256 + g (200 * a + (z a - 1 - (z a - 1 - i))) := by rw [e91, e74, show z a - 1 - (z a - 1 - i) = i from by omega]; exact sm_sh hrg.1 hrg.2 (hg _)
                exact ih61 (i + 1) x91 (by omega) (by omega) (sm_step (g := fun j => g (200 * a + (z a - 1 - j))) hlt hv hx2) _ _ _ (hP.sub [0, 1, 2] rfl) (hD.sub [0, 1, 2] (by decide) rfl) hS (lv_sub hl [2, 3, 1, 0] rfl)
          exact LP61 _ 0 0 (Nat.lt_succ_self _) (by omega) (by have e := sm_0m (g := g) (z := z) (a := a); rw [if_neg (by have := (sb_ge _ (hg _)).mp c50; omega)] at e; rw [Nat.sub_zero]; exact e) _ _ _ (hP.sub [0, 1, 2] rfl) (hD.sub [0, 1, 2] (by decide) rfl) hS (lv_sub hl [2, 3, 1, 0] rfl)
        · refine lv_iconst (v := (-1)) hx hb dX4_small_53 (by decide) ?_
          refine lv_goto (tgt := 58) hx hb dX4_small_54 (by decide) ?_
          refine lv_istore_n (lv' := [(2, .int (-1)), (0, .ref mx), (1, .int (nI a))]) hx hb dX4_small_58 rfl hl (by decide) rfl (fun ls hl => ?_)
          refine lv_iconst (v := (nI 0)) hx hb dX4_small_59 (by decide) ?_
          refine lv_istore_n (lv' := [(3, .int (nI 0)), (2, .int (-1)), (0, .ref mx), (1, .int (nI a))]) hx hb dX4_small_60 rfl hl (by decide) rfl (fun ls hl => ?_)
          have LP61 : ∀ (n9 : Nat) (i : Nat) (x9 : Int32) (hm : (z a - i) < n9) (hi : i ≤ z a) (hv : x9.toInt * ((256 ^ (z a - i) : Nat) : Int) + bv (fun j => g (200 * a + (z a - 1 - j))) (z a - i) = mval g z a) (H : Heap) (locs : List Loc) (ls : Array Slot) (hP : va_P (dC, dI) vwCl [(mx, .inr (4, [.int 0, .int (nI n), .int (nI dn), .int (nI bn), .int (nI wn), .ref m5, .ref m6, .ref m7, .ref m8, .ref m9, .ref m10, .ref m11])), (m5, .inl (cI, 40, .inl (fun j => nI (z j)))), (m9, .inl (cB, 8000, .inl (fun j => sb_b (g j))))] H) (hD : va_D A [(mx, .inr (4, [.int 0, .int (nI n), .int (nI dn), .int (nI bn), .int (nI wn), .ref m5, .ref m6, .ref m7, .ref m8, .ref m9, .ref m10, .ref m11])), (m5, .inl (cI, 40, .inl (fun j => nI (z j)))), (m9, .inl (cB, 8000, .inl (fun j => sb_b (g j))))]) (hS : va_S A s.heap H locs) (hl : lv_has ls 4 [(0, .ref mx), (1, .int (nI a)), (2, .int x9), (3, .int (nI i))]), W p l e (headSpec wsX4_small ({ frames := 1, cells := 0, slots := 0, locals := 22 } : Room)).room s m ([.ref mx, .int (nI a)]).toArray below meth c H locs 0 0 (MQ below (va_Qi (fun (r : Int32) (th3 : Int32) => (th3 = 1 ∧ ¬ vp_in (nI a) n) ∨ (th3 = 2 ∧ ∃ aA, (nI a) = nI aA ∧ aA < n ∧ 4 < z aA) ∨ (th3 = 0 ∧ ∃ aA, (nI a) = nI aA ∧ aA < n ∧ z aA ≤ 4 ∧ r.toInt = mval g z aA)) (fun (th3 : Int32) (tS : State) => va_P (dC, dI) vwCl [(mx, .inr (4, [.int th3, .int (nI n), .int (nI dn), .int (nI bn), .int (nI wn), .ref m5, .ref m6, .ref m7, .ref m8, .ref m9, .ref m10, .ref m11])), (m5, .inl (cI, 40, .inl (fun j => nI (z j)))), (m9, .inl (cB, 8000, .inl (fun j => sb_b (g j))))] tS.heap ∧ va_K (dC, dI) vwCl [(cI, .int), (cB, .byte)] tS ∧ va_D A [(mx, .inr (4, [.int th3, .int (nI n), .int (nI dn), .int (nI bn), .int (nI wn), .ref m5, .ref m6, .ref m7, .ref m8, .ref m9, .ref m10, .ref m11])), (m5, .inl (cI, 40, .inl (fun j => nI (z j)))), (m9, .inl (cB, 8000, .inl (fun j => sb_b (g j))))]) A) ([.ref mx, .int (nI a)]).toArray s 0 0 A) (F0 m 61 ls []) := by
            intro n9
            induction n9 with
            | zero => intro i x9 hm; exact absurd hm (Nat.not_lt_zero _)
            | succ n9 ih =>
              intro i x9 hm hi hv H locs ls hP hD hS hl
              have ih61 := ih
              refine lv_iload_n hx hb dX4_small_61 rfl (lv_at hl 3 rfl) ?_
              refine lv_aload_n hx hb dX4_small_62 rfl (lv_at hl 0 rfl) ?_
              refine va_get (D := (dC, dI)) (ci := 4) (v := .ref m5) (C := RX4) (T := TX4) (N := 12) hx hb hts hinX4 hown hK hP 0 rfl rfl 5 (by decide) (hts (.fieldLink RX4 7 "NumberContentsModel" "sizes" "[I") (by decide +kernel)) (fun _ h9 => h9) rfl dX4_small_63 ?_
              refine lv_iload_n hx hb dX4_small_66 rfl (lv_at hl 1 rfl) ?_
              refine va_iald hx hb hK hP 1 0 rfl rfl (vp_in_nI (by omega) (by omega)) dX4_small_67 ?_
              refine lv_topi (fun x67 e67 => ?_)
              obtain rfl : x67 = nI (z a) := e67.trans (atg (by omega))
              refine lv_icmp_ge (tgt := 99) hx hb dX4_small_68 (by decide) (fun c68 => ?_) (fun c68 => ?_)
              · refine lv_iload_n hx hb dX4_small_99 rfl (lv_at hl 2 rfl) ?_
                have hP9 := hP.sub (ws' := [(mx, .inr (4, [.int 0, .int (nI n), .int (nI dn), .int (nI bn), .int (nI wn), .ref m5, .ref m6, .ref m7, .ref m8, .ref m9, .ref m10, .ref m11])), (m5, .inl (cI, 40, .inl (fun j => nI (z j)))), (m9, .inl (cB, 8000, .inl (fun j => sb_b (g j))))]) [0, 1, 2] rfl
                have hD9 := hD.sub (ws' := [(mx, .inr (4, [.int 0, .int (nI n), .int (nI dn), .int (nI bn), .int (nI wn), .ref m5, .ref m6, .ref m7, .ref m8, .ref m9, .ref m10, .ref m11])), (m5, .inl (cI, 40, .inl (fun j => nI (z j)))), (m9, .inl (cB, 8000, .inl (fun j => sb_b (g j))))]) [0, 1, 2] (by decide) rfl
                have hK9 := hK.sub (tys' := [(cI, .int), (cB, .byte)]) [0, 1] rfl
                exact W.iret (v := x9) hx hb hr (fun tS htS hW => ⟨⟨x9, 0, rfl, (Or.inr (Or.inr ⟨rfl, a, rfl, ha, hz4, (by have he : i = z a := Nat.le_antisymm hi ((nI_leI (by omega) (by omega)).mp c68); subst he; rw [Nat.sub_self] at hv; rw [← hv]; show _ = x9.toInt * ((1 : Nat) : Int) + ((0 : Nat) : Int); omega)⟩)), by rw [htS]; exact hP9, va_K.moved hW.alike hK9, hD9⟩, hS.F htS⟩) hS.2.2 dX4_small_100
              · have hlt : i < z a := Nat.lt_of_not_le (fun h => c68 (nI_le h (by omega)))
                refine lv_iload_n hx hb dX4_small_71 rfl (lv_at hl 2 rfl) ?_
                refine lv_bipush (v := 8) hx hb dX4_small_72 (by decide) ?_
                refine lv_ishl hx hb dX4_small_74 ?_
                refine lv_topi (fun x74 e74 => ?_)
                refine lv_aload_n hx hb dX4_small_75 rfl (lv_at hl 0 rfl) ?_
                refine va_get (D := (dC, dI)) (ci := 4) (v := .ref m9) (C := RX4) (T := TX4) (N := 12) hx hb hts hinX4 hown hK hP 0 rfl rfl 9 (by decide) (hts (.fieldLink RX4 22 "NumberContentsModel" "kept" "[B") (by decide +kernel)) (fun _ h9 => h9) rfl dX4_small_76 ?_
                refine lv_sipush (v := (nI 200)) hx hb dX4_small_79 (by decide) ?_
                refine lv_iload_n hx hb dX4_small_82 rfl (lv_at hl 1 rfl) ?_
                refine lv_imul hx hb dX4_small_83 ?_
                refine lv_topi (fun x83 e83 => ?_)
                obtain rfl : x83 = nI (200 * a) := e83.trans (pk_mul 200 a)
                refine lv_iload_n hx hb dX4_small_84 rfl (lv_at hl 3 rfl) ?_
                refine lv_iadd hx hb dX4_small_85 ?_
                refine lv_topi (fun x85 e85 => ?_)
                obtain rfl : x85 = nI (200 * a + i) := e85.trans (nI_add _ _)
                refine va_bald hx hb hK hP 2 1 rfl rfl (vp_in_nI (by omega) (by omega)) dX4_small_86 ?_
                refine lv_topi (fun x86 e86 => ?_)
                obtain rfl : x86 = sb_b (g (200 * a + i)) := e86.trans (atsb (by omega))
                refine lv_sipush (v := 255) hx hb dX4_small_87 (by decide) ?_
                refine lv_iand hx hb dX4_small_90 ?_
                refine lv_topi (fun x90 e90 => ?_)
                obtain rfl : x90 = nI (g (200 * a + i)) := e90.trans (sb_and (hg _))
                refine lv_ior hx hb dX4_small_91 ?_
                refine lv_topi (fun x91 e91 => ?_)
                refine lv_istore_n (lv' := [(2, .int x91), (0, .ref mx), (1, .int (nI a)), (3, .int (nI i))]) hx hb dX4_small_92 rfl hl (by decide) rfl (fun ls hl => ?_)
                obtain ⟨x93, e93⟩ : ∃ zz9 : Int32, zz9 = (nI i) + 1 := ⟨_, rfl⟩
                refine lv_iinc (v := x93) (lv' := [(3, .int x93), (2, .int x91), (0, .ref mx), (1, .int (nI a))]) hx hb dX4_small_93 hl (k := 3) rfl (by rw [e93]; rfl) (by decide) rfl (fun ls hl => ?_)
                obtain rfl : x93 = nI (i + 1) := e93.trans (nI_1 i)
                refine lv_goto (tgt := 61) hx hb dX4_small_96 (by decide) ?_
                have hrg := sm_rng hza.1 hz4 hlt (hq a ha).2.1 (bv_lt (fun j => hg (200 * a + (z a - 1 - j))) _) hv
                have hx2 : x91.toInt = x9.toInt * 256 + g (200 * a + (z a - 1 - (z a - 1 - i))) := by rw [e91, e74, show z a - 1 - (z a - 1 - i) = i from by omega]; exact sm_sh hrg.1 hrg.2 (hg _)
                exact ih61 (i + 1) x91 (by omega) (by omega) (sm_step (g := fun j => g (200 * a + (z a - 1 - j))) hlt hv hx2) _ _ _ (hP.sub [0, 1, 2] rfl) (hD.sub [0, 1, 2] (by decide) rfl) hS (lv_sub hl [2, 3, 1, 0] rfl)
          exact LP61 _ 0 (-1) (Nat.lt_succ_self _) (by omega) (by have e := sm_0m (g := g) (z := z) (a := a); rw [if_pos (Nat.le_of_not_lt (fun y => c50 ((sb_ge _ (hg _)).mpr y)))] at e; rw [Nat.sub_zero]; exact e) _ _ _ (hP.sub [0, 1, 2] rfl) (hD.sub [0, 1, 2] (by decide) rfl) hS (lv_sub hl [2, 3, 1, 0] rfl)
      · first | exact absurd c35 (by decide) | exact (c35 (by decide)).elim
    · refine lv_iconst (v := 2) hx hb dX4_small_23 (by decide) ?_
      refine lv_goto (tgt := 28) hx hb dX4_small_24 (by decide) ?_
      refine va_put (D := (dC, dI)) (ci := 4) (v := .int 2) (ty := .int) (C := RX4) (T := TX4) (N := 12) hx hb hts hinX4 tyX4 tyX4_ok nmX4 hown hK hP hD hS 0 rfl rfl 0 (by decide) (hts (.fieldLink RX4 32 "NumberContentsModel" "thrown" "I") (by decide +kernel)) (fun _ h9 => h9) rfl (by decide +kernel) rfl rfl (Nat.le_of_ble_eq_true rfl) dX4_small_28 (fun H locs hP hD hS => ?_)
      have hP : va_P (dC, dI) vwCl [(mx, .inr (4, [.int 2, .int (nI n), .int (nI dn), .int (nI bn), .int (nI wn), .ref m5, .ref m6, .ref m7, .ref m8, .ref m9, .ref m10, .ref m11])), (m5, .inl (cI, 40, .inl (fun j => nI (z j)))), (m9, .inl (cB, 8000, .inl (fun j => sb_b (g j))))] H := hP
      have hD : va_D A [(mx, .inr (4, [.int 2, .int (nI n), .int (nI dn), .int (nI bn), .int (nI wn), .ref m5, .ref m6, .ref m7, .ref m8, .ref m9, .ref m10, .ref m11])), (m5, .inl (cI, 40, .inl (fun j => nI (z j)))), (m9, .inl (cB, 8000, .inl (fun j => sb_b (g j))))] := hD
      refine lv_aload_n hx hb dX4_small_31 rfl (lv_at hl 0 rfl) ?_
      refine va_get (D := (dC, dI)) (ci := 4) (v := .int 2) (C := RX4) (T := TX4) (N := 12) hx hb hts hinX4 hown hK hP 0 rfl rfl 0 (by decide) (hts (.fieldLink RX4 32 "NumberContentsModel" "thrown" "I") (by decide +kernel)) (fun _ h9 => h9) rfl dX4_small_32 ?_
      refine lv_if_le (tgt := 40) hx hb dX4_small_35 (by decide) (fun c35 => ?_) (fun c35 => ?_)
      · first | exact absurd c35 (by decide) | exact (c35 (by decide)).elim
      · refine lv_iconst (v := 0) hx hb dX4_small_38 (by decide) ?_
        have hP9 := hP.sub (ws' := [(mx, .inr (4, [.int 2, .int (nI n), .int (nI dn), .int (nI bn), .int (nI wn), .ref m5, .ref m6, .ref m7, .ref m8, .ref m9, .ref m10, .ref m11])), (m5, .inl (cI, 40, .inl (fun j => nI (z j)))), (m9, .inl (cB, 8000, .inl (fun j => sb_b (g j))))]) [0, 1, 2] rfl
        have hD9 := hD.sub (ws' := [(mx, .inr (4, [.int 2, .int (nI n), .int (nI dn), .int (nI bn), .int (nI wn), .ref m5, .ref m6, .ref m7, .ref m8, .ref m9, .ref m10, .ref m11])), (m5, .inl (cI, 40, .inl (fun j => nI (z j)))), (m9, .inl (cB, 8000, .inl (fun j => sb_b (g j))))]) [0, 1, 2] (by decide) rfl
        have hK9 := hK.sub (tys' := [(cI, .int), (cB, .byte)]) [0, 1] rfl
        exact W.iret (v := 0) hx hb hr (fun tS htS hW => ⟨⟨0, 2, rfl, (by first | exact Or.inr (Or.inl ⟨rfl, a, rfl, ha, Nat.lt_of_not_le (fun y => c20 (nI_le y (by omega)))⟩) | exact Or.inl ⟨rfl, ite_r h3 c6⟩), by rw [htS]; exact hP9, va_K.moved hW.alike hK9, hD9⟩, hS.F htS⟩) hS.2.2 dX4_small_39
  · refine lv_iconst (v := 1) hx hb dX4_small_9 (by decide) ?_
    refine lv_goto (tgt := 28) hx hb dX4_small_10 (by decide) ?_
    refine va_put (D := (dC, dI)) (ci := 4) (v := .int 1) (ty := .int) (C := RX4) (T := TX4) (N := 12) hx hb hts hinX4 tyX4 tyX4_ok nmX4 hown hK hP hD hS 0 rfl rfl 0 (by decide) (hts (.fieldLink RX4 32 "NumberContentsModel" "thrown" "I") (by decide +kernel)) (fun _ h9 => h9) rfl (by decide +kernel) rfl rfl (Nat.le_of_ble_eq_true rfl) dX4_small_28 (fun H locs hP hD hS => ?_)
    have hP : va_P (dC, dI) vwCl [(mx, .inr (4, [.int 1, .int (nI n), .int (nI dn), .int (nI bn), .int (nI wn), .ref m5, .ref m6, .ref m7, .ref m8, .ref m9, .ref m10, .ref m11])), (m5, .inl (cI, 40, .inl (fun j => nI (z j)))), (m9, .inl (cB, 8000, .inl (fun j => sb_b (g j))))] H := hP
    have hD : va_D A [(mx, .inr (4, [.int 1, .int (nI n), .int (nI dn), .int (nI bn), .int (nI wn), .ref m5, .ref m6, .ref m7, .ref m8, .ref m9, .ref m10, .ref m11])), (m5, .inl (cI, 40, .inl (fun j => nI (z j)))), (m9, .inl (cB, 8000, .inl (fun j => sb_b (g j))))] := hD
    refine lv_aload_n hx hb dX4_small_31 rfl (lv_at hl 0 rfl) ?_
    refine va_get (D := (dC, dI)) (ci := 4) (v := .int 1) (C := RX4) (T := TX4) (N := 12) hx hb hts hinX4 hown hK hP 0 rfl rfl 0 (by decide) (hts (.fieldLink RX4 32 "NumberContentsModel" "thrown" "I") (by decide +kernel)) (fun _ h9 => h9) rfl dX4_small_32 ?_
    refine lv_if_le (tgt := 40) hx hb dX4_small_35 (by decide) (fun c35 => ?_) (fun c35 => ?_)
    · first | exact absurd c35 (by decide) | exact (c35 (by decide)).elim
    · refine lv_iconst (v := 0) hx hb dX4_small_38 (by decide) ?_
      have hP9 := hP.sub (ws' := [(mx, .inr (4, [.int 1, .int (nI n), .int (nI dn), .int (nI bn), .int (nI wn), .ref m5, .ref m6, .ref m7, .ref m8, .ref m9, .ref m10, .ref m11])), (m5, .inl (cI, 40, .inl (fun j => nI (z j)))), (m9, .inl (cB, 8000, .inl (fun j => sb_b (g j))))]) [0, 1, 2] rfl
      have hD9 := hD.sub (ws' := [(mx, .inr (4, [.int 1, .int (nI n), .int (nI dn), .int (nI bn), .int (nI wn), .ref m5, .ref m6, .ref m7, .ref m8, .ref m9, .ref m10, .ref m11])), (m5, .inl (cI, 40, .inl (fun j => nI (z j)))), (m9, .inl (cB, 8000, .inl (fun j => sb_b (g j))))]) [0, 1, 2] (by decide) rfl
      have hK9 := hK.sub (tys' := [(cI, .int), (cB, .byte)]) [0, 1] rfl
      exact W.iret (v := 0) hx hb hr (fun tS htS hW => ⟨⟨0, 1, rfl, (by first | exact Or.inr (Or.inl ⟨rfl, a, rfl, ha, Nat.lt_of_not_le (fun y => c20 (nI_le y (by omega)))⟩) | exact Or.inl ⟨rfl, ite_r h3 c6⟩), by rw [htS]; exact hP9, va_K.moved hW.alike hK9, hD9⟩, hS.F htS⟩) hS.2.2 dX4_small_39

