theorem bv_top {p q : Nat → Nat} {n i : Nat} (hp : ∀ j, p j < 256) (hi : i < n) (heq : ∀ j, j < i → p (n - 1 - j) = q (n - 1 - j)) (hlt : p (n - 1 - i) < q (n - 1 - i)) : bv p n < bv q n := by
  obtain ⟨m, rfl⟩ : ∃ m, n = m + 1 + i := ⟨n - 1 - i, by omega⟩
  rw [show m + 1 + i - 1 - i = m from by omega] at hlt
  have key : ∀ k, k ≤ i → bv p (m + 1 + k) < bv q (m + 1 + k) := by
    intro k
    induction k with
    | zero =>
      intro _
      rw [Nat.add_zero, bv_s, bv_s]
      have h1 := bv_lt hp m
      have h2 : (p m + 1) * 256 ^ m ≤ q m * 256 ^ m := Nat.mul_le_mul_right _ hlt
      rw [Nat.add_mul] at h2
      omega
    | succ k ih =>
      intro hk
      rw [← Nat.add_assoc, bv_s, bv_s]
      have e := heq (i - 1 - k) (by omega)
      rw [show m + 1 + i - 1 - (i - 1 - k) = m + 1 + k from by omega] at e
      rw [e]
      exact Nat.add_lt_add_right (ih (by omega)) _
  exact key i (Nat.le_refl i)
theorem cb_end {g z : Nat → Nat} {a b i : Nat} {r : Int32} (hg : ∀ j, g j < 256) (hzz : z a = z b) (hi : i < z a) (heq : ∀ j, j < i → g (a * 200 + (z a - 1 - j)) = g (b * 200 + (z b - 1 - j)))
    (h : (r = 1 ∧ nI (g (b * 200 + (z b - 1 - i))) < nI (g (a * 200 + (z a - 1 - i)))) ∨ (r = -1 ∧ nI (g (a * 200 + (z a - 1 - i))) < nI (g (b * 200 + (z b - 1 - i)))) ∨ (r = 0 ∧ nI (g (a * 200 + (z a - 1 - i))) = nI (g (b * 200 + (z b - 1 - i))))) (h0 : ¬ r = 0) :
    (r = 1 ∧ bv (fun j => g (b * 200 + j)) (z b) < bv (fun j => g (a * 200 + j)) (z a)) ∨ (r = -1 ∧ bv (fun j => g (a * 200 + j)) (z a) < bv (fun j => g (b * 200 + j)) (z b)) ∨ (r = 0 ∧ bv (fun j => g (a * 200 + j)) (z a) = bv (fun j => g (b * 200 + j)) (z b)) := by
  have ba := hg (a * 200 + (z a - 1 - i))
  have bb := hg (b * 200 + (z b - 1 - i))
  rw [← hzz] at *
  rcases h with ⟨h1, h2⟩ | ⟨h1, h2⟩ | ⟨h1, _⟩
  · exact Or.inl ⟨h1, bv_top (fun j => hg _) hi (fun j hj => (heq j hj).symm) ((nI_ltI (by omega) (by omega)).mp h2)⟩
  · exact Or.inr (Or.inl ⟨h1, bv_top (fun j => hg _) hi heq ((nI_ltI (by omega) (by omega)).mp h2)⟩)
  · exact absurd h1 h0
theorem cb_eq {r : Int32} {x y : Nat} (hx : x < 256) (hy : y < 256) (h : (r = 1 ∧ nI y < nI x) ∨ (r = -1 ∧ nI x < nI y) ∨ (r = 0 ∧ nI x = nI y)) (h0 : r = 0) : x = y := by
  rcases h with ⟨h1, _⟩ | ⟨h1, _⟩ | ⟨_, h1⟩
  · rw [h1] at h0; exact absurd h0 (by decide)
  · rw [h1] at h0; exact absurd h0 (by decide)
  · exact nI_inj hx hy h1

set_option maxHeartbeats 4000000 in
set_option maxRecDepth 100000 in
theorem c_X3_compareBytes (l : Launch) (dC : Nat → ClassId) (dI : Nat → Nat → Nat) (cI : ClassId) (ax ak ad ab ao aw : Nat) (k1 k2 n : Nat) (g z : Nat → Nat) (a b : Nat) (hg : ∀ j, g j < 256) (hn : n ≤ 40) (hz : ∀ a, a < n → 1 ≤ z a ∧ z a ≤ 200) (ha : a < n) (hb9 : b < n) (hzz : z a = z b) : Met l yX3_compareBytes wsX3_compareBytes ({ frames := 3, cells := 0, slots := 0, locals := 65 } : Room) (va_Pc [.ref ax, .int (nI a), .int (nI b)] (fun U => va_P (dC, dI) vwCl [(ax, .inr (3, [.ref ak, .ref ad, .ref ab, .ref ao, .ref aw])), (ak, .inr (0, [.ref k1, .ref k2, .int (nI n)])), (k1, .inl (cI, 8000, .inl (fun j => nI (g j)))), (k2, .inl (cI, 40, .inl (fun j => nI (z j))))] U.heap ∧ va_K (dC, dI) vwCl [(cI, .int)] U)) (vp_Si (fun r : Int32 => (r = 1 ∧ bv (fun j => g (b * 200 + j)) (z b) < bv (fun j => g (a * 200 + j)) (z a)) ∨ (r = -1 ∧ bv (fun j => g (a * 200 + j)) (z a) < bv (fun j => g (b * 200 + j)) (z b)) ∨ (r = 0 ∧ bv (fun j => g (a * 200 + j)) (z a) = bv (fun j => g (b * 200 + j)) (z b)))) 0 0 (fun _ => False) := by
  refine Met.ofW (cc := cX3_compareBytes) (maxL := 5) (ret := (some .int)) (by decide) rfl ?_
  intro p e s m args below meth c s₁ B hml hv
  obtain ⟨rfl, hP, hK⟩ := hv
  have hx := B.exec
  have hb := B.bytes
  have hr := B.returns
  have hts := atoms_spec (ws := wsX3_compareBytes) B.pre
  have hown : s.vm.findClass RX3 = some m.cls := findClass_of_methodNamed B.named
  have hlocks := B.notSynchronized
  have hinX0 : ∀ w ∈ wsX00, w ∈ wsX3_compareBytes := by decide +kernel
  have hinX3 : ∀ w ∈ wsX30, w ∈ wsX3_compareBytes := by decide +kernel
  have hl := lv_entry ([.ref ax, .int (nI a), .int (nI b)]) (n := 5) (Nat.le_of_ble_eq_true rfl)
  rw [lg_entry_eq]
  generalize (lg_sl ([.ref ax, .int (nI a), .int (nI b)]) ++ List.replicate (5 - (lg_sl ([.ref ax, .int (nI a), .int (nI b)])).length) Slot.unset).toArray = ls at hl ⊢
  have hl : lv_has ls 5 [(0, .ref ax), (1, .int (nI a)), (2, .int (nI b))] := hl
  have hza := hz a ha
  refine lv_iconst (v := (nI 0)) hx hb dX3_compareBytes_0 (by decide) ?_
  refine lv_istore_n (lv' := [(3, .int (nI 0)), (0, .ref ax), (1, .int (nI a)), (2, .int (nI b))]) hx hb dX3_compareBytes_1 rfl hl (by decide) rfl (fun ls hl => ?_)
  have LP2 : ∀ (n9 : Nat) (i : Nat) (hm : (z a - i) < n9) (hi : i ≤ z a) (heq : ∀ j, j < i → g (a * 200 + (z a - 1 - j)) = g (b * 200 + (z b - 1 - j))) (ls : Array Slot) (hl : lv_has ls 5 [(0, .ref ax), (1, .int (nI a)), (2, .int (nI b)), (3, .int (nI i))]), W p l e (headSpec wsX3_compareBytes ({ frames := 3, cells := 0, slots := 0, locals := 65 } : Room)).room s m ([.ref ax, .int (nI a), .int (nI b)]).toArray below meth c s.heap [] 0 0 (MQ below (vp_Si (fun r : Int32 => (r = 1 ∧ bv (fun j => g (b * 200 + j)) (z b) < bv (fun j => g (a * 200 + j)) (z a)) ∨ (r = -1 ∧ bv (fun j => g (a * 200 + j)) (z a) < bv (fun j => g (b * 200 + j)) (z b)) ∨ (r = 0 ∧ bv (fun j => g (a * 200 + j)) (z a) = bv (fun j => g (b * 200 + j)) (z b)))) ([.ref ax, .int (nI a), .int (nI b)]).toArray s 0 0 (fun _ => False)) (F0 m 2 ls []) := by
    intro n9
    induction n9 with
    | zero => intro i hm; exact absurd hm (Nat.not_lt_zero _)
    | succ n9 ih =>
      intro i hm hi heq ls hl
      have ih2 := ih
      refine lv_iload_n hx hb dX3_compareBytes_2 rfl (lv_at hl 3 rfl) ?_
      refine lv_aload_n hx hb dX3_compareBytes_3 rfl (lv_at hl 0 rfl) ?_
      refine va_get (D := (dC, dI)) (ci := 3) (v := .ref ak) (C := RX3) (T := TX3) (N := 5) hx hb hts hinX3 hown hK hP 0 rfl rfl 0 (by decide) (hts (.fieldLink RX3 12 "NumberContents" "kept" "LNumberContents$Numbers;") (by decide +kernel)) (fun _ h9 => h9) rfl dX3_compareBytes_4 ?_
      refine lv_iload_n hx hb dX3_compareBytes_7 rfl (lv_at hl 1 rfl) ?_
      have hPc := hP.sub (ws' := [(ak, .inr (0, [.ref k1, .ref k2, .int (nI n)])), (k1, .inl (cI, 8000, .inl (fun j => nI (g j)))), (k2, .inl (cI, 40, .inl (fun j => nI (z j))))]) [1, 2, 3] rfl
      have hKc := hK.sub (tys' := [(cI, .int)]) [0] rfl
      refine vp_callSi (W.runV (As := [.int (nI a)]) (rest := [.int (nI i)]) ⟨hx, hb, hml, hown, hts⟩ (c_X0_sizeOf l dC dI cI ak k1 k2 n g z a hn ha) (cwV 1 hts gX3_compareBytes_X0_sizeOf rfl rfl rfl (by decide +kernel) ⟨Nat.le_of_ble_eq_true rfl, Nat.le_of_ble_eq_true rfl⟩) ⟨fun a U g mk q => by obtain ⟨q0, qP, qK⟩ := q; exact ⟨q0, qP, va_K.moved (u := U) (U := U.calling g mk a) (Vm.Alike.refl U.vm) qK⟩, va_recv hK hP (ci := 0) (q0 := 1) rfl rfl, fun U hU hW => ⟨rfl, by rw [hU]; exact hPc, va_K.moved hW.alike hKc⟩⟩ rfl rfl hl.1 rfl (lv_room (Nat.le_of_ble_eq_true rfl)) dX3_compareBytes_8 ⟨Nat.le_of_ble_eq_true rfl, Nat.le_of_ble_eq_true rfl⟩) (fun r8 h8 => ?_)
      obtain rfl : r8 = nI (z a) := h8
      refine lv_icmp_ge (tgt := 51) hx hb dX3_compareBytes_11 (by decide) (fun c11 => ?_) (fun c11 => ?_)
      · refine lv_iconst (v := 0) hx hb dX3_compareBytes_51 (by decide) ?_
        exact W.iret (v := 0) hx hb hr (fun tS htS hW => ⟨0, rfl, (by have he : i = z a := Nat.le_antisymm hi ((nI_leI (by omega) (by omega)).mp c11); refine Or.inr (Or.inr ⟨rfl, ?_⟩); rw [← hzz]; exact bv_congr (fun j hj => by have e := heq (z a - 1 - j) (by omega); rw [← hzz, show z a - 1 - (z a - 1 - j) = j from by omega] at e; exact e)), htS⟩) t_nil dX3_compareBytes_52
      · have hlt : i < z a := Nat.lt_of_not_le (fun h => c11 (nI_le h (by omega)))
        refine lv_aload_n hx hb dX3_compareBytes_14 rfl (lv_at hl 0 rfl) ?_
        refine va_get (D := (dC, dI)) (ci := 3) (v := .ref ak) (C := RX3) (T := TX3) (N := 5) hx hb hts hinX3 hown hK hP 0 rfl rfl 0 (by decide) (hts (.fieldLink RX3 12 "NumberContents" "kept" "LNumberContents$Numbers;") (by decide +kernel)) (fun _ h9 => h9) rfl dX3_compareBytes_15 ?_
        refine lv_iload_n hx hb dX3_compareBytes_18 rfl (lv_at hl 1 rfl) ?_
        refine lv_iload_n hx hb dX3_compareBytes_19 rfl (lv_at hl 3 rfl) ?_
        have hPc := hP.sub (ws' := [(ak, .inr (0, [.ref k1, .ref k2, .int (nI n)])), (k1, .inl (cI, 8000, .inl (fun j => nI (g j)))), (k2, .inl (cI, 40, .inl (fun j => nI (z j))))]) [1, 2, 3] rfl
        have hKc := hK.sub (tys' := [(cI, .int)]) [0] rfl
        refine vp_callSi (W.runV (As := [.int (nI a), .int (nI i)]) (rest := []) ⟨hx, hb, hml, hown, hts⟩ (c_X0_highByte l dC dI cI ak k1 k2 n g z a i hn hz ha hlt) (cwV 2 hts gX3_compareBytes_X0_highByte rfl rfl rfl (by decide +kernel) ⟨Nat.le_of_ble_eq_true rfl, Nat.le_of_ble_eq_true rfl⟩) ⟨fun a U g mk q => by obtain ⟨q0, qP, qK⟩ := q; exact ⟨q0, qP, va_K.moved (u := U) (U := U.calling g mk a) (Vm.Alike.refl U.vm) qK⟩, va_recv hK hP (ci := 0) (q0 := 1) rfl rfl, fun U hU hW => ⟨rfl, by rw [hU]; exact hPc, va_K.moved hW.alike hKc⟩⟩ rfl rfl hl.1 rfl (lv_room (Nat.le_of_ble_eq_true rfl)) dX3_compareBytes_20 ⟨Nat.le_of_ble_eq_true rfl, Nat.le_of_ble_eq_true rfl⟩) (fun r20 h20 => ?_)
        obtain rfl : r20 = nI (g (a * 200 + (z a - 1 - i))) := h20
        refine lv_aload_n hx hb dX3_compareBytes_23 rfl (lv_at hl 0 rfl) ?_
        refine va_get (D := (dC, dI)) (ci := 3) (v := .ref ak) (C := RX3) (T := TX3) (N := 5) hx hb hts hinX3 hown hK hP 0 rfl rfl 0 (by decide) (hts (.fieldLink RX3 12 "NumberContents" "kept" "LNumberContents$Numbers;") (by decide +kernel)) (fun _ h9 => h9) rfl dX3_compareBytes_24 ?_
        refine lv_iload_n hx hb dX3_compareBytes_27 rfl (lv_at hl 2 rfl) ?_
        refine lv_iload_n hx hb dX3_compareBytes_28 rfl (lv_at hl 3 rfl) ?_
        have hPc := hP.sub (ws' := [(ak, .inr (0, [.ref k1, .ref k2, .int (nI n)])), (k1, .inl (cI, 8000, .inl (fun j => nI (g j)))), (k2, .inl (cI, 40, .inl (fun j => nI (z j))))]) [1, 2, 3] rfl
        have hKc := hK.sub (tys' := [(cI, .int)]) [0] rfl
        refine vp_callSi (W.runV (As := [.int (nI b), .int (nI i)]) (rest := [.int (nI (g (a * 200 + (z a - 1 - i))))]) ⟨hx, hb, hml, hown, hts⟩ (c_X0_highByte l dC dI cI ak k1 k2 n g z b i hn hz hb9 (by omega)) (cwV 2 hts gX3_compareBytes_X0_highByte rfl rfl rfl (by decide +kernel) ⟨Nat.le_of_ble_eq_true rfl, Nat.le_of_ble_eq_true rfl⟩) ⟨fun a U g mk q => by obtain ⟨q0, qP, qK⟩ := q; exact ⟨q0, qP, va_K.moved (u := U) (U := U.calling g mk a) (Vm.Alike.refl U.vm) qK⟩, va_recv hK hP (ci := 0) (q0 := 1) rfl rfl, fun U hU hW => ⟨rfl, by rw [hU]; exact hPc, va_K.moved hW.alike hKc⟩⟩ rfl rfl hl.1 rfl (lv_room (Nat.le_of_ble_eq_true rfl)) dX3_compareBytes_29 ⟨Nat.le_of_ble_eq_true rfl, Nat.le_of_ble_eq_true rfl⟩) (fun r29 h29 => ?_)
        obtain rfl : r29 = nI (g (b * 200 + (z b - 1 - i))) := h29
        refine vp_callSi (W.runS (As := [.int (nI (g (a * 200 + (z a - 1 - i)))), .int (nI (g (b * 200 + (z b - 1 - i))))]) (rest := []) ⟨hx, hb, hml, hown, hts⟩ (c_J6_compare_7cf53 l dC dI (nI (g (a * 200 + (z a - 1 - i)))) (nI (g (b * 200 + (z b - 1 - i)))) ) (va_cwS 2 hts gX3_compareBytes_J6_compare_7cf53 rfl rfl rfl (by decide +kernel) ⟨Nat.le_of_ble_eq_true rfl, Nat.le_of_ble_eq_true rfl⟩) ⟨fun a U g mk q => q, fun U hU hW => ⟨rfl, trivial⟩⟩ rfl rfl hl.1 rfl (lv_room (Nat.le_of_ble_eq_true rfl)) dX3_compareBytes_32 ⟨Nat.le_of_ble_eq_true rfl, Nat.le_of_ble_eq_true rfl⟩) (fun r32 h32 => ?_)
        refine lv_istore (lv' := [(4, .int r32), (0, .ref ax), (1, .int (nI a)), (2, .int (nI b)), (3, .int (nI i))]) hx hb dX3_compareBytes_35 hl (by decide) rfl (fun ls hl => ?_)
        refine lv_iload hx hb dX3_compareBytes_37 (lv_at hl 0 rfl) ?_
        refine lv_if_eq (tgt := 45) hx hb dX3_compareBytes_39 (by decide) (fun c39 => ?_) (fun c39 => ?_)
        · obtain ⟨x45, e45⟩ : ∃ zz9 : Int32, zz9 = (nI i) + 1 := ⟨_, rfl⟩
          refine lv_iinc (v := x45) (lv' := [(3, .int x45), (4, .int r32), (0, .ref ax), (1, .int (nI a)), (2, .int (nI b))]) hx hb dX3_compareBytes_45 hl (k := 4) rfl (by rw [e45]; rfl) (by decide) rfl (fun ls hl => ?_)
          obtain rfl : x45 = nI (i + 1) := e45.trans (nI_1 i)
          refine lv_goto (tgt := 2) hx hb dX3_compareBytes_48 (by decide) ?_
          exact ih2 (i + 1) (by omega) (by omega) (fun j h => by by_cases e : j = i; rw [e]; exact cb_eq (hg _) (hg _) h32 c39; exact heq j (by omega)) _ (lv_sub hl [2, 3, 4, 0] rfl)
        · refine lv_iload hx hb dX3_compareBytes_42 (lv_at hl 0 rfl) ?_
          exact W.iret (v := r32) hx hb hr (fun tS htS hW => ⟨r32, rfl, (cb_end hg hzz hlt heq h32 c39), htS⟩) t_nil dX3_compareBytes_44
  exact LP2 _ 0 (Nat.lt_succ_self _) (by omega) (fun j h => absurd h (by omega)) _ (lv_sub hl [1, 2, 3, 0] rfl)

set_option maxHeartbeats 4000000 in
set_option maxRecDepth 100000 in
theorem c_X3_writeChunkLowestFirst (l : Launch) (dC : Nat → ClassId) (dI : Nat → Nat → Nat) (cI : ClassId) (ax ak ad ab ao aw : Nat) (o1 wn : Nat) (wr : Nat → Nat) (c9 : Nat) (sz : Nat) (hwn : wn + 9 ≤ 487) (hwr : ∀ j, wr j < 256) (hc9 : c9 < 1000000000) : Met l yX3_writeChunkLowestFirst wsX3_writeChunkLowestFirst ({ frames := 2, cells := 0, slots := 0, locals := 42 } : Room) (va_Pc [.ref ax, .int (nI c9)] (fun U => U.heap.size = sz ∧ va_P (dC, dI) vwCl [(ax, .inr (3, [.ref ak, .ref ad, .ref ab, .ref ao, .ref aw])), (ao, .inr (1, [.ref o1, .int (nI wn)])), (o1, .inl (cI, 487, .inl (fun j => nI (wr j))))] U.heap ∧ va_K (dC, dI) vwCl [(cI, .int)] U ∧ va_D (fun _ => True) [(ax, .inr (3, [.ref ak, .ref ad, .ref ab, .ref ao, .ref aw])), (ao, .inr (1, [.ref o1, .int (nI wn)])), (o1, .inl (cI, 487, .inl (fun j => nI (wr j))))])) (va_Qv (fun (wr3 : Nat → Nat) => (∀ j, wr3 j < 256) ∧ (∀ j, j < wn → wr3 j = wr j) ∧ (∀ j, j < 9 → wr3 (wn + j) = 48 + c9 / 10 ^ j % 10)) (fun (wr3 : Nat → Nat) (tS : State) => va_P (dC, dI) vwCl [(ax, .inr (3, [.ref ak, .ref ad, .ref ab, .ref ao, .ref aw])), (ao, .inr (1, [.ref o1, .int (nI (wn + 9))])), (o1, .inl (cI, 487, .inl (fun j => nI (wr3 j))))] tS.heap ∧ va_K (dC, dI) vwCl [(cI, .int)] tS ∧ va_D (va_A [(ax, .inr (3, [.ref ak, .ref ad, .ref ab, .ref ao, .ref aw])), (ao, .inr (1, [.ref o1, .int (nI wn)])), (o1, .inl (cI, 487, .inl (fun j => nI (wr j))))] sz) [(ax, .inr (3, [.ref ak, .ref ad, .ref ab, .ref ao, .ref aw])), (ao, .inr (1, [.ref o1, .int (nI (wn + 9))])), (o1, .inl (cI, 487, .inl (fun j => nI (wr3 j))))]) (va_A [(ax, .inr (3, [.ref ak, .ref ad, .ref ab, .ref ao, .ref aw])), (ao, .inr (1, [.ref o1, .int (nI wn)])), (o1, .inl (cI, 487, .inl (fun j => nI (wr j))))] sz)) 0 0 (va_A [(ax, .inr (3, [.ref ak, .ref ad, .ref ab, .ref ao, .ref aw])), (ao, .inr (1, [.ref o1, .int (nI wn)])), (o1, .inl (cI, 487, .inl (fun j => nI (wr j))))] sz) := by
  refine Met.ofW (cc := cX3_writeChunkLowestFirst) (maxL := 4) (ret := none) (by decide) rfl ?_
  intro p e s m args below meth c s₁ B hml hv
  obtain ⟨rfl, hsz, hP, hK, hD0⟩ := hv
  have hx := B.exec
  have hb := B.bytes
  have hr := B.returns
  have hts := atoms_spec (ws := wsX3_writeChunkLowestFirst) B.pre
  have hown : s.vm.findClass RX3 = some m.cls := findClass_of_methodNamed B.named
  have hlocks := B.notSynchronized
  subst hsz
  have hD := hD0.self (sz := s.heap.size)
  generalize hAe : va_A [(ax, .inr (3, [.ref ak, .ref ad, .ref ab, .ref ao, .ref aw])), (ao, .inr (1, [.ref o1, .int (nI wn)])), (o1, .inl (cI, 487, .inl (fun j => nI (wr j))))] s.heap.size = A at hD ⊢
  have hA : ∀ q : Nat, s.heap.size ≤ q → A q := fun q h => by rw [← hAe]; exact Or.inr h
  have hS : va_S A s.heap s.heap [] := va_S.rf
  have hinX1 : ∀ w ∈ wsX10, w ∈ wsX3_writeChunkLowestFirst := by decide +kernel
  have hinX3 : ∀ w ∈ wsX30, w ∈ wsX3_writeChunkLowestFirst := by decide +kernel
  have hl := lv_entry ([.ref ax, .int (nI c9)]) (n := 4) (Nat.le_of_ble_eq_true rfl)
  rw [lg_entry_eq]
  generalize (lg_sl ([.ref ax, .int (nI c9)]) ++ List.replicate (4 - (lg_sl ([.ref ax, .int (nI c9)])).length) Slot.unset).toArray = ls at hl ⊢
  have hl : lv_has ls 4 [(0, .ref ax), (1, .int (nI c9))] := hl
  refine lv_iload_n hx hb dX3_writeChunkLowestFirst_0 rfl (lv_at hl 1 rfl) ?_
  refine lv_istore_n (lv' := [(2, .int (nI c9)), (0, .ref ax), (1, .int (nI c9))]) hx hb dX3_writeChunkLowestFirst_1 rfl hl (by decide) rfl (fun ls hl => ?_)
  refine lv_iconst (v := (nI 0)) hx hb dX3_writeChunkLowestFirst_2 (by decide) ?_
  refine lv_istore_n (lv' := [(3, .int (nI 0)), (2, .int (nI c9)), (0, .ref ax), (1, .int (nI c9))]) hx hb dX3_writeChunkLowestFirst_3 rfl hl (by decide) rfl (fun ls hl => ?_)
  have LP4 : ∀ (n9 : Nat) (i rs : Nat) (wr2 : Nat → Nat) (hm : (9 - i) < n9) (hi : i ≤ 9) (hrs : rs = c9 / 10 ^ i) (hlo : ∀ j, j < wn → wr2 j = wr j) (hd : ∀ j, j < i → wr2 (wn + j) = 48 + c9 / 10 ^ j % 10) (hb2 : ∀ j, wr2 j < 256) (H : Heap) (locs : List Loc) (ls : Array Slot) (hP : va_P (dC, dI) vwCl [(ax, .inr (3, [.ref ak, .ref ad, .ref ab, .ref ao, .ref aw])), (ao, .inr (1, [.ref o1, .int (nI (wn + i))])), (o1, .inl (cI, 487, .inl (fun j => nI (wr2 j))))] H) (hD : va_D A [(ax, .inr (3, [.ref ak, .ref ad, .ref ab, .ref ao, .ref aw])), (ao, .inr (1, [.ref o1, .int (nI (wn + i))])), (o1, .inl (cI, 487, .inl (fun j => nI (wr2 j))))]) (hS : va_S A s.heap H locs) (hl : lv_has ls 4 [(0, .ref ax), (1, .int (nI c9)), (2, .int (nI rs)), (3, .int (nI i))]), W p l e (headSpec wsX3_writeChunkLowestFirst ({ frames := 2, cells := 0, slots := 0, locals := 42 } : Room)).room s m ([.ref ax, .int (nI c9)]).toArray below meth c H locs 0 0 (MQ below (va_Qv (fun (wr3 : Nat → Nat) => (∀ j, wr3 j < 256) ∧ (∀ j, j < wn → wr3 j = wr j) ∧ (∀ j, j < 9 → wr3 (wn + j) = 48 + c9 / 10 ^ j % 10)) (fun (wr3 : Nat → Nat) (tS : State) => va_P (dC, dI) vwCl [(ax, .inr (3, [.ref ak, .ref ad, .ref ab, .ref ao, .ref aw])), (ao, .inr (1, [.ref o1, .int (nI (wn + 9))])), (o1, .inl (cI, 487, .inl (fun j => nI (wr3 j))))] tS.heap ∧ va_K (dC, dI) vwCl [(cI, .int)] tS ∧ va_D A [(ax, .inr (3, [.ref ak, .ref ad, .ref ab, .ref ao, .ref aw])), (ao, .inr (1, [.ref o1, .int (nI (wn + 9))])), (o1, .inl (cI, 487, .inl (fun j => nI (wr3 j))))]) A) ([.ref ax, .int (nI c9)]).toArray s 0 0 A) (F0 m 4 ls []) := by
    intro n9
    induction n9 with
    | zero => intro i rs wr2 hm; exact absurd hm (Nat.not_lt_zero _)
    | succ n9 ih =>
      intro i rs wr2 hm hi hrs hlo hd hb2 H locs ls hP hD hS hl
      have ih4 := ih
      refine lv_iload_n hx hb dX3_writeChunkLowestFirst_4 rfl (lv_at hl 3 rfl) ?_
      refine lv_bipush (v := (nI 9)) hx hb dX3_writeChunkLowestFirst_5 (by decide) ?_
      refine lv_icmp_ge (tgt := 35) hx hb dX3_writeChunkLowestFirst_7 (by decide) (fun c7 => ?_) (fun c7 => ?_)
      · obtain rfl : i = 9 := Nat.le_antisymm hi ((nI_leI (by omega) (by omega)).mp c7)
        have hP9 := hP.sub (ws' := [(ax, .inr (3, [.ref ak, .ref ad, .ref ab, .ref ao, .ref aw])), (ao, .inr (1, [.ref o1, .int (nI (wn + 9))])), (o1, .inl (cI, 487, .inl (fun j => nI (wr2 j))))]) [0, 1, 2] rfl
        have hD9 := hD.sub (ws' := [(ax, .inr (3, [.ref ak, .ref ad, .ref ab, .ref ao, .ref aw])), (ao, .inr (1, [.ref o1, .int (nI (wn + 9))])), (o1, .inl (cI, 487, .inl (fun j => nI (wr2 j))))]) [0, 1, 2] (by decide) rfl
        have hK9 := hK.sub (tys' := [(cI, .int)]) [0] rfl
        exact W.vret hx hb hr (fun tS htS hW => ⟨⟨wr2, rfl, ⟨hb2, hlo, hd⟩, by rw [htS]; exact hP9, va_K.moved hW.alike hK9, hD9⟩, hS.F htS⟩) hS.2.2 dX3_writeChunkLowestFirst_35
      · have hlt : i < 9 := Nat.lt_of_not_le (fun h => c7 (nI_le h (by omega)))
        have hrl : rs < 1000000000 := by rw [hrs]; exact Nat.lt_of_le_of_lt (Nat.div_le_self _ _) hc9
        refine lv_aload_n hx hb dX3_writeChunkLowestFirst_10 rfl (lv_at hl 0 rfl) ?_
        refine va_get (D := (dC, dI)) (ci := 3) (v := .ref ao) (C := RX3) (T := TX3) (N := 5) hx hb hts hinX3 hown hK hP 0 rfl rfl 3 (by decide) (hts (.fieldLink RX3 28 "NumberContents" "written" "LNumberContents$Row;") (by decide +kernel)) (fun _ h9 => h9) rfl dX3_writeChunkLowestFirst_11 ?_
        refine lv_bipush (v := (nI 48)) hx hb dX3_writeChunkLowestFirst_14 (by decide) ?_
        refine lv_iload_n hx hb dX3_writeChunkLowestFirst_16 rfl (lv_at hl 2 rfl) ?_
        refine lv_bipush (v := (nI 10)) hx hb dX3_writeChunkLowestFirst_17 (by decide) ?_
        refine lv_irem hx hb dX3_writeChunkLowestFirst_19 (by decide) ?_
        refine lv_topi (fun x19 e19 => ?_)
        obtain rfl : x19 = nI (rs % 10) := e19.trans (pk_rem (by omega) (by decide) (by decide))
        refine lv_iadd hx hb dX3_writeChunkLowestFirst_20 ?_
        refine lv_topi (fun x20 e20 => ?_)
        obtain rfl : x20 = nI (48 + rs % 10) := e20.trans (nI_add _ _)
        have hPc := hP.sub (ws' := [(ao, .inr (1, [.ref o1, .int (nI (wn + i))])), (o1, .inl (cI, 487, .inl (fun j => nI (wr2 j))))]) [1, 2] rfl
        have hKc := hK.sub (tys' := [(cI, .int)]) [0] rfl
        have hDc := hD.sub (ws' := [(ao, .inr (1, [.ref o1, .int (nI (wn + i))])), (o1, .inl (cI, 487, .inl (fun j => nI (wr2 j))))]) [1, 2] (by decide) rfl
        have hFc := va_free (wc := [(ao, .inr (1, [.ref o1, .int (nI (wn + i))])), (o1, .inl (cI, 487, .inl (fun j => nI (wr2 j))))]) hD hS hA [1, 2] rfl
        refine va_callv (va_runV (As := [.int (nI (48 + rs % 10))]) (rest := []) ⟨hx, hb, hml, hown, hts⟩ (c_X1_addg l dC dI cI ao o1 487 (wn + i) wr2 (48 + rs % 10) H.size (by omega) (by omega)) (cwV 1 hts gX3_writeChunkLowestFirst_X1_add rfl rfl rfl (by decide +kernel) ⟨Nat.le_of_ble_eq_true rfl, Nat.le_of_ble_eq_true rfl⟩) ⟨fun a U g mk q => by obtain ⟨q0, q1, qP, qK, qD⟩ := q; exact ⟨q0, q1, qP, va_K.moved (u := U) (U := U.calling g mk a) (Vm.Alike.refl U.vm) qK, qD⟩, va_recv hKc hPc (ci := 1) (q0 := 0) rfl rfl, fun U hU hW => ⟨rfl, by rw [hU], by rw [hU]; exact hPc, va_K.moved hW.alike hKc, hDc.weaken (fun _ _ _ _ => trivial)⟩⟩ rfl rfl hl.1 rfl (lv_room (Nat.le_of_ble_eq_true rfl)) dX3_writeChunkLowestFirst_21 ⟨Nat.le_of_ble_eq_true rfl, Nat.le_of_ble_eq_true rfl⟩) hS (fun q _ h => hFc q h) hFc (fun uS tS H1 locs htS hvm h21 hB hzS hkS hS => ?_)
        obtain ⟨hP1, hK1, hD1⟩ := hB
        rw [htS] at hP1
        have hK1 := va_K.moved hvm.symm hK1
        try dsimp only at h21
        obtain ⟨hP, hD⟩ := va_join (wr := [(ax, .inr (3, [.ref ak, .ref ad, .ref ab, .ref ao, .ref aw]))]) (w1 := [(ao, .inr (1, [.ref o1, .int (nI ((wn + i) + 1))])), (o1, .inl (cI, 487, .inl (fun j => nI (va_up wr2 (wn + i) (48 + rs % 10) j))))]) hP hD [1, 2] [0] rfl rfl (by decide) (by decide) hkS hFc hP1 hD1
        generalize H1 = H at hP hS ⊢
        have hP : va_P (dC, dI) vwCl [(ax, .inr (3, [.ref ak, .ref ad, .ref ab, .ref ao, .ref aw])), (ao, .inr (1, [.ref o1, .int (nI ((wn + i) + 1))])), (o1, .inl (cI, 487, .inl (fun j => nI (va_up wr2 (wn + i) (48 + rs % 10) j))))] H := hP
        have hD : va_D A [(ax, .inr (3, [.ref ak, .ref ad, .ref ab, .ref ao, .ref aw])), (ao, .inr (1, [.ref o1, .int (nI ((wn + i) + 1))])), (o1, .inl (cI, 487, .inl (fun j => nI (va_up wr2 (wn + i) (48 + rs % 10) j))))] := hD
        refine lv_iload_n hx hb dX3_writeChunkLowestFirst_24 rfl (lv_at hl 2 rfl) ?_
        refine lv_bipush (v := (nI 10)) hx hb dX3_writeChunkLowestFirst_25 (by decide) ?_
        refine lv_idiv hx hb dX3_writeChunkLowestFirst_27 (by decide) ?_
        refine lv_topi (fun x27 e27 => ?_)
        obtain rfl : x27 = nI (rs / 10) := e27.trans (pk_div (by omega) (by decide) (by decide))
        refine lv_istore_n (lv' := [(2, .int (nI (rs / 10))), (0, .ref ax), (1, .int (nI c9)), (3, .int (nI i))]) hx hb dX3_writeChunkLowestFirst_28 rfl hl (by decide) rfl (fun ls hl => ?_)
        obtain ⟨x29, e29⟩ : ∃ zz9 : Int32, zz9 = (nI i) + 1 := ⟨_, rfl⟩
        refine lv_iinc (v := x29) (lv' := [(3, .int x29), (2, .int (nI (rs / 10))), (0, .ref ax), (1, .int (nI c9))]) hx hb dX3_writeChunkLowestFirst_29 hl (k := 3) rfl (by rw [e29]; rfl) (by decide) rfl (fun ls hl => ?_)
        obtain rfl : x29 = nI (i + 1) := e29.trans (nI_1 i)
        refine lv_goto (tgt := 4) hx hb dX3_writeChunkLowestFirst_32 (by decide) ?_
        exact ih4 (i + 1) (rs / 10) (va_up wr2 (wn + i) (48 + rs % 10)) (by omega) (by omega) (by rw [hrs, Nat.div_div_eq_div_mul, Nat.pow_succ]) (fun j h => by rw [va_up_ne _ _ (by omega)]; exact hlo j h) (fun j h => by by_cases e : j = i; rw [e, va_up_self, hrs]; rw [va_up_ne _ _ (by omega)]; exact hd j (by omega)) (up_lt hb2 (by omega)) _ _ _ (hP.sub [0, 1, 2] rfl) (hD.sub [0, 1, 2] (by decide) rfl) hS (lv_sub hl [2, 3, 1, 0] rfl)
  exact LP4 _ 0 c9 wr (Nat.lt_succ_self _) (by omega) (by rw [Nat.pow_zero, Nat.div_one]) (fun j h => rfl) (fun j h => absurd h (by omega)) hwr _ _ _ (hP.sub [0, 1, 2] rfl) (hD.sub [0, 1, 2] (by decide) rfl) hS (lv_sub hl [2, 3, 1, 0] rfl)

theorem ch_dig (X i : Nat) (h : i < 9) : X % 1000000000 / 10 ^ i % 10 = X / 10 ^ i % 10 := by
  rcases (show i = 0 ∨ i = 1 ∨ i = 2 ∨ i = 3 ∨ i = 4 ∨ i = 5 ∨ i = 6 ∨ i = 7 ∨ i = 8 by omega) with rfl | rfl | rfl | rfl | rfl | rfl | rfl | rfl | rfl <;> simp only [Nat.pow_zero, Nat.div_one, Nat.reducePow] <;> omega
theorem bv_cut {g : Nat → Nat} {k : Nat} : ∀ n, k ≤ n → (∀ j, k ≤ j → j < n → g j = 0) → bv g n = bv g k := by
  intro n
  induction n with
  | zero => intro h _; rw [show k = 0 from by omega]
  | succ n ih =>
    intro h hz
    rcases Nat.lt_or_ge n k with h1 | h1
    · rw [show k = n + 1 from by omega]
    · rw [bv_s, hz n h1 (by omega), ih h1 (fun j a b => hz j a (by omega))]; omega
theorem wd_v {g w : Nat → Nat} {V k left l2 rs : Nat} (hv : bv w left = V / 10 ^ (9 * k)) (hd : bv w left = 1000000000 * bv g left + rs) (hr : rs < 1000000000) (hl : l2 ≤ left) (hz : ∀ j, l2 ≤ j → j < left → g j = 0) :
    bv g l2 = V / 10 ^ (9 * (k + 1)) ∧ rs = V / 10 ^ (9 * k) % 1000000000 := by
  have e : bv g left = bv g l2 := bv_cut left hl hz
  rw [show 9 * (k + 1) = 9 * k + 9 from by omega, Nat.pow_add, ← Nat.div_div_eq_div_mul, ← hv, ← e, show (10 : Nat) ^ 9 = 1000000000 from by decide]
  omega
theorem wd_d {V k rs : Nat} {wr2 wr3 : Nat → Nat} (hd : ∀ j, j < 9 * k → wr2 j = 48 + V / 10 ^ j % 10) (hlo : ∀ j, j < 9 * k → wr3 j = wr2 j) (hc : ∀ j, j < 9 → wr3 (9 * k + j) = 48 + rs / 10 ^ j % 10) (hr : rs = V / 10 ^ (9 * k) % 1000000000) :
    ∀ j, j < 9 * (k + 1) → wr3 j = 48 + V / 10 ^ j % 10 := by
  intro j hj
  rcases Nat.lt_or_ge j (9 * k) with h | h
  · rw [hlo j h, hd j h]
  · obtain ⟨i, rfl⟩ : ∃ i, j = 9 * k + i := ⟨j - 9 * k, by omega⟩
    rw [hc i (by omega), hr, ch_dig _ _ (by omega), Nat.pow_add, Nat.div_div_eq_div_mul]

set_option maxHeartbeats 4000000 in
set_option maxRecDepth 100000 in
theorem c_X3_writeDigitsLowestFirst (l : Launch) (dC : Nat → ClassId) (dI : Nat → Nat → Nat) (cI : ClassId) (ax ak ad ab ao aw : Nat) (o1 : Nat) (wr : Nat → Nat) (w1 : Nat) (w : Nat → Nat) (sz : Nat) (hw : ∀ j, w j < 256) (hwr : ∀ j, wr j < 256) (hV : bv w 204 < 10 ^ 486) : Met l yX3_writeDigitsLowestFirst wsX3_writeDigitsLowestFirst ({ frames := 3, cells := 0, slots := 0, locals := 65 } : Room) (va_Pc [.ref ax] (fun U => U.heap.size = sz ∧ va_P (dC, dI) vwCl [(ax, .inr (3, [.ref ak, .ref ad, .ref ab, .ref ao, .ref aw])), (ao, .inr (1, [.ref o1, .int (nI 0)])), (o1, .inl (cI, 487, .inl (fun j => nI (wr j)))), (aw, .inr (2, [.ref w1])), (w1, .inl (cI, 204, .inl (fun j => nI (w j))))] U.heap ∧ va_K (dC, dI) vwCl [(cI, .int)] U ∧ va_D (fun _ => True) [(ax, .inr (3, [.ref ak, .ref ad, .ref ab, .ref ao, .ref aw])), (ao, .inr (1, [.ref o1, .int (nI 0)])), (o1, .inl (cI, 487, .inl (fun j => nI (wr j)))), (aw, .inr (2, [.ref w1])), (w1, .inl (cI, 204, .inl (fun j => nI (w j))))])) (va_Qv (fun (uS : Nat × (Nat → Nat) × (Nat → Nat)) => match uS with | (m9, w3, wr3) => 1 ≤ m9 ∧ m9 ≤ 54 ∧ (∀ j, w3 j < 256) ∧ (∀ j, wr3 j < 256) ∧ bv w 204 < 10 ^ (9 * m9) ∧ (∀ j, j < 9 * m9 → wr3 j = 48 + bv w 204 / 10 ^ j % 10)) (fun (uS : Nat × (Nat → Nat) × (Nat → Nat)) (tS : State) => match uS with | (m9, w3, wr3) => va_P (dC, dI) vwCl [(ax, .inr (3, [.ref ak, .ref ad, .ref ab, .ref ao, .ref aw])), (ao, .inr (1, [.ref o1, .int (nI (9 * m9))])), (o1, .inl (cI, 487, .inl (fun j => nI (wr3 j)))), (aw, .inr (2, [.ref w1])), (w1, .inl (cI, 204, .inl (fun j => nI (w3 j))))] tS.heap ∧ va_K (dC, dI) vwCl [(cI, .int)] tS ∧ va_D (va_A [(ax, .inr (3, [.ref ak, .ref ad, .ref ab, .ref ao, .ref aw])), (ao, .inr (1, [.ref o1, .int (nI 0)])), (o1, .inl (cI, 487, .inl (fun j => nI (wr j)))), (aw, .inr (2, [.ref w1])), (w1, .inl (cI, 204, .inl (fun j => nI (w j))))] sz) [(ax, .inr (3, [.ref ak, .ref ad, .ref ab, .ref ao, .ref aw])), (ao, .inr (1, [.ref o1, .int (nI (9 * m9))])), (o1, .inl (cI, 487, .inl (fun j => nI (wr3 j)))), (aw, .inr (2, [.ref w1])), (w1, .inl (cI, 204, .inl (fun j => nI (w3 j))))]) (va_A [(ax, .inr (3, [.ref ak, .ref ad, .ref ab, .ref ao, .ref aw])), (ao, .inr (1, [.ref o1, .int (nI 0)])), (o1, .inl (cI, 487, .inl (fun j => nI (wr j)))), (aw, .inr (2, [.ref w1])), (w1, .inl (cI, 204, .inl (fun j => nI (w j))))] sz)) 0 0 (va_A [(ax, .inr (3, [.ref ak, .ref ad, .ref ab, .ref ao, .ref aw])), (ao, .inr (1, [.ref o1, .int (nI 0)])), (o1, .inl (cI, 487, .inl (fun j => nI (wr j)))), (aw, .inr (2, [.ref w1])), (w1, .inl (cI, 204, .inl (fun j => nI (w j))))] sz) := by
  refine Met.ofW (cc := cX3_writeDigitsLowestFirst) (maxL := 3) (ret := none) (by decide) rfl ?_
  intro p e s m args below meth c s₁ B hml hv
  obtain ⟨rfl, hsz, hP, hK, hD0⟩ := hv
  have hx := B.exec
  have hb := B.bytes
  have hr := B.returns
  have hts := atoms_spec (ws := wsX3_writeDigitsLowestFirst) B.pre
  have hown : s.vm.findClass RX3 = some m.cls := findClass_of_methodNamed B.named
  have hlocks := B.notSynchronized
  subst hsz
  have hD := hD0.self (sz := s.heap.size)
  generalize hAe : va_A [(ax, .inr (3, [.ref ak, .ref ad, .ref ab, .ref ao, .ref aw])), (ao, .inr (1, [.ref o1, .int (nI 0)])), (o1, .inl (cI, 487, .inl (fun j => nI (wr j)))), (aw, .inr (2, [.ref w1])), (w1, .inl (cI, 204, .inl (fun j => nI (w j))))] s.heap.size = A at hD ⊢
  have hA : ∀ q : Nat, s.heap.size ≤ q → A q := fun q h => by rw [← hAe]; exact Or.inr h
  have hS : va_S A s.heap s.heap [] := va_S.rf
  have hinX1 : ∀ w ∈ wsX10, w ∈ wsX3_writeDigitsLowestFirst := by decide +kernel
  have hinX2 : ∀ w ∈ wsX20, w ∈ wsX3_writeDigitsLowestFirst := by decide +kernel
  have hinX3 : ∀ w ∈ wsX30, w ∈ wsX3_writeDigitsLowestFirst := by decide +kernel
  have hl := lv_entry ([.ref ax]) (n := 3) (Nat.le_of_ble_eq_true rfl)
  rw [lg_entry_eq]
  generalize (lg_sl ([.ref ax]) ++ List.replicate (3 - (lg_sl ([.ref ax])).length) Slot.unset).toArray = ls at hl ⊢
  have hl : lv_has ls 3 [(0, .ref ax)] := hl
  refine lv_aload_n hx hb dX3_writeDigitsLowestFirst_0 rfl (lv_at hl 0 rfl) ?_
  refine va_get (D := (dC, dI)) (ci := 3) (v := .ref aw) (C := RX3) (T := TX3) (N := 5) hx hb hts hinX3 hown hK hP 0 rfl rfl 4 (by decide) (hts (.fieldLink RX3 34 "NumberContents" "wide" "LNumberContents$Wide;") (by decide +kernel)) (fun _ h9 => h9) rfl dX3_writeDigitsLowestFirst_1 ?_
  refine lv_sipush (v := (nI 204)) hx hb dX3_writeDigitsLowestFirst_4 (by decide) ?_
  have hPc := hP.sub (ws' := [(aw, .inr (2, [.ref w1])), (w1, .inl (cI, 204, .inl (fun j => nI (w j))))]) [3, 4] rfl
  have hKc := hK.sub (tys' := [(cI, .int)]) [0] rfl
  refine vp_callSi (W.runV (As := [.int (nI 204)]) (rest := []) ⟨hx, hb, hml, hown, hts⟩ (c_X2_bytesUsed l dC dI cI aw w1 w 204 hw (by omega)) (cwV 1 hts gX3_writeDigitsLowestFirst_X2_bytesUsed rfl rfl rfl (by decide +kernel) ⟨Nat.le_of_ble_eq_true rfl, Nat.le_of_ble_eq_true rfl⟩) ⟨fun a U g mk q => by obtain ⟨q0, qP, qK⟩ := q; exact ⟨q0, qP, va_K.moved (u := U) (U := U.calling g mk a) (Vm.Alike.refl U.vm) qK⟩, va_recv hK hP (ci := 2) (q0 := 3) rfl rfl, fun U hU hW => ⟨rfl, by rw [hU]; exact hPc, va_K.moved hW.alike hKc⟩⟩ rfl rfl hl.1 rfl (lv_room (Nat.le_of_ble_eq_true rfl)) dX3_writeDigitsLowestFirst_7 ⟨Nat.le_of_ble_eq_true rfl, Nat.le_of_ble_eq_true rfl⟩) (fun r7 h7 => ?_)
  obtain ⟨lf, rfl, hl7, hz7, hnz7⟩ := h7
  refine lv_istore_n (lv' := [(1, .int (nI lf)), (0, .ref ax)]) hx hb dX3_writeDigitsLowestFirst_10 rfl hl (by decide) rfl (fun ls hl => ?_)
  refine lv_iconst (v := (nI 0)) hx hb dX3_writeDigitsLowestFirst_11 (by decide) ?_
  refine lv_istore_n (lv' := [(2, .int (nI 0)), (1, .int (nI lf)), (0, .ref ax)]) hx hb dX3_writeDigitsLowestFirst_12 rfl hl (by decide) rfl (fun ls hl => ?_)
  have LP13 : ∀ (n9 : Nat) (k left : Nat) (w2 wr2 : Nat → Nat) (hm : (54 - k) < n9) (hk : k ≤ 54) (hl9 : left ≤ 204) (hz9 : ∀ j, left ≤ j → j < 204 → w2 j = 0) (hw2 : ∀ j, w2 j < 256) (hv : bv w2 left = bv w 204 / 10 ^ (9 * k)) (hb2 : ∀ j, wr2 j < 256) (hd : ∀ j, j < 9 * k → wr2 j = 48 + bv w 204 / 10 ^ j % 10) (H : Heap) (locs : List Loc) (ls : Array Slot) (hP : va_P (dC, dI) vwCl [(ax, .inr (3, [.ref ak, .ref ad, .ref ab, .ref ao, .ref aw])), (ao, .inr (1, [.ref o1, .int (nI (9 * k))])), (o1, .inl (cI, 487, .inl (fun j => nI (wr2 j)))), (aw, .inr (2, [.ref w1])), (w1, .inl (cI, 204, .inl (fun j => nI (w2 j))))] H) (hD : va_D A [(ax, .inr (3, [.ref ak, .ref ad, .ref ab, .ref ao, .ref aw])), (ao, .inr (1, [.ref o1, .int (nI (9 * k))])), (o1, .inl (cI, 487, .inl (fun j => nI (wr2 j)))), (aw, .inr (2, [.ref w1])), (w1, .inl (cI, 204, .inl (fun j => nI (w2 j))))]) (hS : va_S A s.heap H locs) (hl : lv_has ls 3 [(0, .ref ax), (1, .int (nI left)), (2, .int (nI k))]), W p l e (headSpec wsX3_writeDigitsLowestFirst ({ frames := 3, cells := 0, slots := 0, locals := 65 } : Room)).room s m ([.ref ax]).toArray below meth c H locs 0 0 (MQ below (va_Qv (fun (uS : Nat × (Nat → Nat) × (Nat → Nat)) => match uS with | (m9, w3, wr3) => 1 ≤ m9 ∧ m9 ≤ 54 ∧ (∀ j, w3 j < 256) ∧ (∀ j, wr3 j < 256) ∧ bv w 204 < 10 ^ (9 * m9) ∧ (∀ j, j < 9 * m9 → wr3 j = 48 + bv w 204 / 10 ^ j % 10)) (fun (uS : Nat × (Nat → Nat) × (Nat → Nat)) (tS : State) => match uS with | (m9, w3, wr3) => va_P (dC, dI) vwCl [(ax, .inr (3, [.ref ak, .ref ad, .ref ab, .ref ao, .ref aw])), (ao, .inr (1, [.ref o1, .int (nI (9 * m9))])), (o1, .inl (cI, 487, .inl (fun j => nI (wr3 j)))), (aw, .inr (2, [.ref w1])), (w1, .inl (cI, 204, .inl (fun j => nI (w3 j))))] tS.heap ∧ va_K (dC, dI) vwCl [(cI, .int)] tS ∧ va_D A [(ax, .inr (3, [.ref ak, .ref ad, .ref ab, .ref ao, .ref aw])), (ao, .inr (1, [.ref o1, .int (nI (9 * m9))])), (o1, .inl (cI, 487, .inl (fun j => nI (wr3 j)))), (aw, .inr (2, [.ref w1])), (w1, .inl (cI, 204, .inl (fun j => nI (w3 j))))]) A) ([.ref ax]).toArray s 0 0 A) (F0 m 13 ls []) := by
    intro n9
    induction n9 with
    | zero => intro k left w2 wr2 hm; exact absurd hm (Nat.not_lt_zero _)
    | succ n9 ih =>
      intro k left w2 wr2 hm hk hl9 hz9 hw2 hv hb2 hd H locs ls hP hD hS hl
      have ih13 := ih
      refine lv_iload_n hx hb dX3_writeDigitsLowestFirst_13 rfl (lv_at hl 2 rfl) ?_
      refine lv_bipush (v := (nI 54)) hx hb dX3_writeDigitsLowestFirst_14 (by decide) ?_
      refine lv_icmp_ge (tgt := 53) hx hb dX3_writeDigitsLowestFirst_16 (by decide) (fun c16 => ?_) (fun c16 => ?_)
      · have hP9 := hP.sub (ws' := [(ax, .inr (3, [.ref ak, .ref ad, .ref ab, .ref ao, .ref aw])), (ao, .inr (1, [.ref o1, .int (nI (9 * k))])), (o1, .inl (cI, 487, .inl (fun j => nI (wr2 j)))), (aw, .inr (2, [.ref w1])), (w1, .inl (cI, 204, .inl (fun j => nI (w2 j))))]) [0, 1, 2, 3, 4] rfl
        have hD9 := hD.sub (ws' := [(ax, .inr (3, [.ref ak, .ref ad, .ref ab, .ref ao, .ref aw])), (ao, .inr (1, [.ref o1, .int (nI (9 * k))])), (o1, .inl (cI, 487, .inl (fun j => nI (wr2 j)))), (aw, .inr (2, [.ref w1])), (w1, .inl (cI, 204, .inl (fun j => nI (w2 j))))]) [0, 1, 2, 3, 4] (by decide) rfl
        have hK9 := hK.sub (tys' := [(cI, .int)]) [0] rfl
        exact W.vret hx hb hr (fun tS htS hW => ⟨⟨(k, w2, wr2), rfl, (by first | exact ⟨by omega, hlt, hb25, h28.1, (by have e := (wd_v hv hdv hrs hl36 hz36).1; have l0 : l2 = 0 := (nI_eq (b := 0) (by omega) (by omega)).mp c41; rw [l0] at e; exact Nat.lt_of_div_eq_zero (Nat.pow_pos (by decide)) e.symm), wd_d hd h28.2.1 h28.2.2 (wd_v hv hdv hrs hl36 hz36).2⟩ | exact (by have he : k = 54 := Nat.le_antisymm hk ((nI_leI (by omega) (by omega)).mp c16); subst he; exact ⟨by omega, by omega, hw2, hb2, hV, hd⟩)), by rw [htS]; exact hP9, va_K.moved hW.alike hK9, hD9⟩, hS.F htS⟩) hS.2.2 dX3_writeDigitsLowestFirst_53
      · have hlt : k < 54 := Nat.lt_of_not_le (fun h => c16 (nI_le h (by omega)))
        refine lv_aload_n hx hb dX3_writeDigitsLowestFirst_19 rfl (lv_at hl 0 rfl) ?_
        refine lv_aload_n hx hb dX3_writeDigitsLowestFirst_20 rfl (lv_at hl 0 rfl) ?_
        refine va_get (D := (dC, dI)) (ci := 3) (v := .ref aw) (C := RX3) (T := TX3) (N := 5) hx hb hts hinX3 hown hK hP 0 rfl rfl 4 (by decide) (hts (.fieldLink RX3 34 "NumberContents" "wide" "LNumberContents$Wide;") (by decide +kernel)) (fun _ h9 => h9) rfl dX3_writeDigitsLowestFirst_21 ?_
        refine lv_iload_n hx hb dX3_writeDigitsLowestFirst_24 rfl (lv_at hl 1 rfl) ?_
        have hPc := hP.sub (ws' := [(aw, .inr (2, [.ref w1])), (w1, .inl (cI, 204, .inl (fun j => nI (w2 j))))]) [3, 4] rfl
        have hKc := hK.sub (tys' := [(cI, .int)]) [0] rfl
        have hDc := hD.sub (ws' := [(aw, .inr (2, [.ref w1])), (w1, .inl (cI, 204, .inl (fun j => nI (w2 j))))]) [3, 4] (by decide) rfl
        have hFc := va_free (wc := [(aw, .inr (2, [.ref w1])), (w1, .inl (cI, 204, .inl (fun j => nI (w2 j))))]) hD hS hA [3, 4] rfl
        refine va_calli (va_runV (As := [.int (nI left)]) (rest := [.ref ax]) ⟨hx, hb, hml, hown, hts⟩ (c_X2_divideByChunk l dC dI cI aw w1 w2 left H.size hw2 hl9) (cwV 1 hts gX3_writeDigitsLowestFirst_X2_divideByChunk rfl rfl rfl (by decide +kernel) ⟨Nat.le_of_ble_eq_true rfl, Nat.le_of_ble_eq_true rfl⟩) ⟨fun a U g mk q => by obtain ⟨q0, q1, qP, qK, qD⟩ := q; exact ⟨q0, q1, qP, va_K.moved (u := U) (U := U.calling g mk a) (Vm.Alike.refl U.vm) qK, qD⟩, va_recv hKc hPc (ci := 2) (q0 := 0) rfl rfl, fun U hU hW => ⟨rfl, by rw [hU], by rw [hU]; exact hPc, va_K.moved hW.alike hKc, hDc.weaken (fun _ _ _ _ => trivial)⟩⟩ rfl rfl hl.1 rfl (lv_room (Nat.le_of_ble_eq_true rfl)) dX3_writeDigitsLowestFirst_25 ⟨Nat.le_of_ble_eq_true rfl, Nat.le_of_ble_eq_true rfl⟩) hS (fun q _ h => hFc q h) hFc (fun r25 uS tS H1 locs htS hvm h25 hB hzS hkS hS => ?_)
        obtain ⟨g3_25, rfl⟩ : ∃ z, z = uS := ⟨_, rfl⟩
        obtain ⟨hP1, hK1, hD1⟩ := hB
        rw [htS] at hP1
        have hK1 := va_K.moved hvm.symm hK1
        try dsimp only at h25
        obtain ⟨hP, hD⟩ := va_join (wr := [(ax, .inr (3, [.ref ak, .ref ad, .ref ab, .ref ao, .ref aw])), (ao, .inr (1, [.ref o1, .int (nI (9 * k))])), (o1, .inl (cI, 487, .inl (fun j => nI (wr2 j))))]) (w1 := [(aw, .inr (2, [.ref w1])), (w1, .inl (cI, 204, .inl (fun j => nI (g3_25 j))))]) hP hD [3, 4] [0, 1, 2] rfl rfl (by decide) (by decide) hkS hFc hP1 hD1
        generalize H1 = H at hP hS ⊢
        have hP : va_P (dC, dI) vwCl [(ax, .inr (3, [.ref ak, .ref ad, .ref ab, .ref ao, .ref aw])), (ao, .inr (1, [.ref o1, .int (nI (9 * k))])), (o1, .inl (cI, 487, .inl (fun j => nI (wr2 j)))), (aw, .inr (2, [.ref w1])), (w1, .inl (cI, 204, .inl (fun j => nI (g3_25 j))))] H := hP
        have hD : va_D A [(ax, .inr (3, [.ref ak, .ref ad, .ref ab, .ref ao, .ref aw])), (ao, .inr (1, [.ref o1, .int (nI (9 * k))])), (o1, .inl (cI, 487, .inl (fun j => nI (wr2 j)))), (aw, .inr (2, [.ref w1])), (w1, .inl (cI, 204, .inl (fun j => nI (g3_25 j))))] := hD
        obtain ⟨rs, rfl, hrs, hdv, hb25, hh25⟩ := h25
        have hPc := hP.sub (ws' := [(ax, .inr (3, [.ref ak, .ref ad, .ref ab, .ref ao, .ref aw])), (ao, .inr (1, [.ref o1, .int (nI (9 * k))])), (o1, .inl (cI, 487, .inl (fun j => nI (wr2 j))))]) [0, 1, 2] rfl
        have hKc := hK.sub (tys' := [(cI, .int)]) [0] rfl
        have hDc := hD.sub (ws' := [(ax, .inr (3, [.ref ak, .ref ad, .ref ab, .ref ao, .ref aw])), (ao, .inr (1, [.ref o1, .int (nI (9 * k))])), (o1, .inl (cI, 487, .inl (fun j => nI (wr2 j))))]) [0, 1, 2] (by decide) rfl
        have hFc := va_free (wc := [(ax, .inr (3, [.ref ak, .ref ad, .ref ab, .ref ao, .ref aw])), (ao, .inr (1, [.ref o1, .int (nI (9 * k))])), (o1, .inl (cI, 487, .inl (fun j => nI (wr2 j))))]) hD hS hA [0, 1, 2] rfl
        refine va_callv (va_runV (As := [.int (nI rs)]) (rest := []) ⟨hx, hb, hml, hown, hts⟩ (c_X3_writeChunkLowestFirst l dC dI cI ax ak ad ab ao aw o1 (9 * k) wr2 rs H.size (by omega) hb2 hrs) (cwV 1 hts gX3_writeDigitsLowestFirst_X3_writeChunkLowestFirst rfl rfl rfl (by decide +kernel) ⟨Nat.le_of_ble_eq_true rfl, Nat.le_of_ble_eq_true rfl⟩) ⟨fun a U g mk q => by obtain ⟨q0, q1, qP, qK, qD⟩ := q; exact ⟨q0, q1, qP, va_K.moved (u := U) (U := U.calling g mk a) (Vm.Alike.refl U.vm) qK, qD⟩, va_recv hKc hPc (ci := 3) (q0 := 0) rfl rfl, fun U hU hW => ⟨rfl, by rw [hU], by rw [hU]; exact hPc, va_K.moved hW.alike hKc, hDc.weaken (fun _ _ _ _ => trivial)⟩⟩ rfl rfl hl.1 rfl (lv_room (Nat.le_of_ble_eq_true rfl)) dX3_writeDigitsLowestFirst_28 ⟨Nat.le_of_ble_eq_true rfl, Nat.le_of_ble_eq_true rfl⟩) hS (fun q _ h => hFc q h) hFc (fun uS tS H1 locs htS hvm h28 hB hzS hkS hS => ?_)
        obtain ⟨wr3_28, rfl⟩ : ∃ z, z = uS := ⟨_, rfl⟩
        obtain ⟨hP1, hK1, hD1⟩ := hB
        rw [htS] at hP1
        have hK1 := va_K.moved hvm.symm hK1
        try dsimp only at h28
        obtain ⟨hP, hD⟩ := va_join (wr := [(aw, .inr (2, [.ref w1])), (w1, .inl (cI, 204, .inl (fun j => nI (g3_25 j))))]) (w1 := [(ax, .inr (3, [.ref ak, .ref ad, .ref ab, .ref ao, .ref aw])), (ao, .inr (1, [.ref o1, .int (nI ((9 * k) + 9))])), (o1, .inl (cI, 487, .inl (fun j => nI (wr3_28 j))))]) hP hD [0, 1, 2] [3, 4] rfl rfl (by decide) (by decide) hkS hFc hP1 hD1
        generalize H1 = H at hP hS ⊢
        have hP : va_P (dC, dI) vwCl [(aw, .inr (2, [.ref w1])), (w1, .inl (cI, 204, .inl (fun j => nI (g3_25 j)))), (ax, .inr (3, [.ref ak, .ref ad, .ref ab, .ref ao, .ref aw])), (ao, .inr (1, [.ref o1, .int (nI ((9 * k) + 9))])), (o1, .inl (cI, 487, .inl (fun j => nI (wr3_28 j))))] H := hP
        have hD : va_D A [(aw, .inr (2, [.ref w1])), (w1, .inl (cI, 204, .inl (fun j => nI (g3_25 j)))), (ax, .inr (3, [.ref ak, .ref ad, .ref ab, .ref ao, .ref aw])), (ao, .inr (1, [.ref o1, .int (nI ((9 * k) + 9))])), (o1, .inl (cI, 487, .inl (fun j => nI (wr3_28 j))))] := hD
        have hP : va_P (dC, dI) vwCl [(aw, .inr (2, [.ref w1])), (w1, .inl (cI, 204, .inl (fun j => nI (g3_25 j)))), (ax, .inr (3, [.ref ak, .ref ad, .ref ab, .ref ao, .ref aw])), (ao, .inr (1, [.ref o1, .int (nI (9 * (k + 1)))])), (o1, .inl (cI, 487, .inl (fun j => nI (wr3_28 j))))] H := hP
        have hD : va_D A [(aw, .inr (2, [.ref w1])), (w1, .inl (cI, 204, .inl (fun j => nI (g3_25 j)))), (ax, .inr (3, [.ref ak, .ref ad, .ref ab, .ref ao, .ref aw])), (ao, .inr (1, [.ref o1, .int (nI (9 * (k + 1)))])), (o1, .inl (cI, 487, .inl (fun j => nI (wr3_28 j))))] := hD
        refine lv_aload_n hx hb dX3_writeDigitsLowestFirst_31 rfl (lv_at hl 0 rfl) ?_
        refine va_get (D := (dC, dI)) (ci := 3) (v := .ref aw) (C := RX3) (T := TX3) (N := 5) hx hb hts hinX3 hown hK hP 2 rfl rfl 4 (by decide) (hts (.fieldLink RX3 34 "NumberContents" "wide" "LNumberContents$Wide;") (by decide +kernel)) (fun _ h9 => h9) rfl dX3_writeDigitsLowestFirst_32 ?_
        refine lv_iload_n hx hb dX3_writeDigitsLowestFirst_35 rfl (lv_at hl 1 rfl) ?_
        have hPc := hP.sub (ws' := [(aw, .inr (2, [.ref w1])), (w1, .inl (cI, 204, .inl (fun j => nI (g3_25 j))))]) [0, 1] rfl
        have hKc := hK.sub (tys' := [(cI, .int)]) [0] rfl
        refine vp_callSi (W.runV (As := [.int (nI left)]) (rest := []) ⟨hx, hb, hml, hown, hts⟩ (c_X2_bytesUsed l dC dI cI aw w1 g3_25 left hb25 hl9) (cwV 1 hts gX3_writeDigitsLowestFirst_X2_bytesUsed rfl rfl rfl (by decide +kernel) ⟨Nat.le_of_ble_eq_true rfl, Nat.le_of_ble_eq_true rfl⟩) ⟨fun a U g mk q => by obtain ⟨q0, qP, qK⟩ := q; exact ⟨q0, qP, va_K.moved (u := U) (U := U.calling g mk a) (Vm.Alike.refl U.vm) qK⟩, va_recv hK hP (ci := 2) (q0 := 0) rfl rfl, fun U hU hW => ⟨rfl, by rw [hU]; exact hPc, va_K.moved hW.alike hKc⟩⟩ rfl rfl hl.1 rfl (lv_room (Nat.le_of_ble_eq_true rfl)) dX3_writeDigitsLowestFirst_36 ⟨Nat.le_of_ble_eq_true rfl, Nat.le_of_ble_eq_true rfl⟩) (fun r36 h36 => ?_)
        obtain ⟨l2, rfl, hl36, hz36, hnz36⟩ := h36
        refine lv_istore_n (lv' := [(1, .int (nI l2)), (0, .ref ax), (2, .int (nI k))]) hx hb dX3_writeDigitsLowestFirst_39 rfl hl (by decide) rfl (fun ls hl => ?_)
        refine lv_iload_n hx hb dX3_writeDigitsLowestFirst_40 rfl (lv_at hl 0 rfl) ?_
        refine lv_if_ne (tgt := 47) hx hb dX3_writeDigitsLowestFirst_41 (by decide) (fun c41 => ?_) (fun c41 => ?_)
        · obtain ⟨x47, e47⟩ : ∃ zz9 : Int32, zz9 = (nI k) + 1 := ⟨_, rfl⟩
          refine lv_iinc (v := x47) (lv' := [(2, .int x47), (1, .int (nI l2)), (0, .ref ax)]) hx hb dX3_writeDigitsLowestFirst_47 hl (k := 2) rfl (by rw [e47]; rfl) (by decide) rfl (fun ls hl => ?_)
          obtain rfl : x47 = nI (k + 1) := e47.trans (nI_1 k)
          refine lv_goto (tgt := 13) hx hb dX3_writeDigitsLowestFirst_50 (by decide) ?_
          exact ih13 (k + 1) l2 g3_25 wr3_28 (by omega) (by omega) (by omega) (fun j a b => by rcases Nat.lt_or_ge j left with h | h; exact hz36 j a h; rw [hh25 j h]; exact hz9 j h b) hb25 ((wd_v hv hdv hrs hl36 hz36).1) h28.1 (wd_d hd h28.2.1 h28.2.2 (wd_v hv hdv hrs hl36 hz36).2) _ _ _ (hP.sub [2, 3, 4, 0, 1] rfl) (hD.sub [2, 3, 4, 0, 1] (by decide) rfl) hS (lv_sub hl [2, 1, 0] rfl)
        · refine lv_goto (tgt := 53) hx hb dX3_writeDigitsLowestFirst_44 (by decide) ?_
          have hP9 := hP.sub (ws' := [(ax, .inr (3, [.ref ak, .ref ad, .ref ab, .ref ao, .ref aw])), (ao, .inr (1, [.ref o1, .int (nI (9 * (k + 1)))])), (o1, .inl (cI, 487, .inl (fun j => nI (wr3_28 j)))), (aw, .inr (2, [.ref w1])), (w1, .inl (cI, 204, .inl (fun j => nI (g3_25 j))))]) [2, 3, 4, 0, 1] rfl
          have hD9 := hD.sub (ws' := [(ax, .inr (3, [.ref ak, .ref ad, .ref ab, .ref ao, .ref aw])), (ao, .inr (1, [.ref o1, .int (nI (9 * (k + 1)))])), (o1, .inl (cI, 487, .inl (fun j => nI (wr3_28 j)))), (aw, .inr (2, [.ref w1])), (w1, .inl (cI, 204, .inl (fun j => nI (g3_25 j))))]) [2, 3, 4, 0, 1] (by decide) rfl
          have hK9 := hK.sub (tys' := [(cI, .int)]) [0] rfl
          exact W.vret hx hb hr (fun tS htS hW => ⟨⟨((k + 1), g3_25, wr3_28), rfl, (by first | exact ⟨by omega, hlt, hb25, h28.1, (by have e := (wd_v hv hdv hrs hl36 hz36).1; have l0 : l2 = 0 := (nI_eq (b := 0) (by omega) (by omega)).mp c41; rw [l0] at e; exact Nat.lt_of_div_eq_zero (Nat.pow_pos (by decide)) e.symm), wd_d hd h28.2.1 h28.2.2 (wd_v hv hdv hrs hl36 hz36).2⟩ | exact (by have he : k = 54 := Nat.le_antisymm hk ((nI_leI (by omega) (by omega)).mp c16); subst he; exact ⟨by omega, by omega, hw2, hb2, hV, hd⟩)), by rw [htS]; exact hP9, va_K.moved hW.alike hK9, hD9⟩, hS.F htS⟩) hS.2.2 dX3_writeDigitsLowestFirst_53
  exact LP13 _ 0 lf w wr (Nat.lt_succ_self _) (by omega) (by omega) hz7 hw (by rw [Nat.mul_zero, Nat.pow_zero, Nat.div_one]; exact (bv_cut 204 hl7 hz7).symm) hwr (fun j h => absurd h (by omega)) _ _ _ (hP.sub [0, 1, 2, 3, 4] rfl) (hD.sub [0, 1, 2, 3, 4] (by decide) rfl) hS (lv_sub hl [2, 1, 0] rfl)

def GR (wn : Nat) (wr : Nat → Nat) : Prop := 1 ≤ wn ∧ wr 0 ≠ 128 ∧ ∀ i, i < wn → (128 ≤ wr i ↔ i < wn - 1)

set_option maxHeartbeats 4000000 in
set_option maxRecDepth 100000 in
theorem c_X3_isWrittenInGroups (l : Launch) (dC : Nat → ClassId) (dI : Nat → Nat → Nat) (cI : ClassId) (ax ak ad ab ao aw : Nat) (o1 wn : Nat) (wr : Nat → Nat) (hwn : wn ≤ 487) (hwr : ∀ j, wr j < 256) : Met l yX3_isWrittenInGroups wsX3_isWrittenInGroups ({ frames := 2, cells := 0, slots := 0, locals := 42 } : Room) (va_Pc [.ref ax] (fun U => va_P (dC, dI) vwCl [(ax, .inr (3, [.ref ak, .ref ad, .ref ab, .ref ao, .ref aw])), (ao, .inr (1, [.ref o1, .int (nI wn)])), (o1, .inl (cI, 487, .inl (fun j => nI (wr j))))] U.heap ∧ va_K (dC, dI) vwCl [(cI, .int)] U)) (vp_Si (fun r : Int32 => (r = 1 ∧ (wn ≤ 229 ∧ GR wn wr)) ∨ (r = 0 ∧ ¬ (wn ≤ 229 ∧ GR wn wr)))) 0 0 (fun _ => False) := by
  refine Met.ofW (cc := cX3_isWrittenInGroups) (maxL := 4) (ret := (some .boolean)) (by decide) rfl ?_
  intro p e s m args below meth c s₁ B hml hv
  obtain ⟨rfl, hP, hK⟩ := hv
  have hx := B.exec
  have hb := B.bytes
  have hr := B.returns
  have hts := atoms_spec (ws := wsX3_isWrittenInGroups) B.pre
  have hown : s.vm.findClass RX3 = some m.cls := findClass_of_methodNamed B.named
  have hlocks := B.notSynchronized
  have hinX1 : ∀ w ∈ wsX10, w ∈ wsX3_isWrittenInGroups := by decide +kernel
  have hinX3 : ∀ w ∈ wsX30, w ∈ wsX3_isWrittenInGroups := by decide +kernel
  have hl := lv_entry ([.ref ax]) (n := 4) (Nat.le_of_ble_eq_true rfl)
  rw [lg_entry_eq]
  generalize (lg_sl ([.ref ax]) ++ List.replicate (4 - (lg_sl ([.ref ax])).length) Slot.unset).toArray = ls at hl ⊢
  have hl : lv_has ls 4 [(0, .ref ax)] := hl
  refine lv_aload_n hx hb dX3_isWrittenInGroups_0 rfl (lv_at hl 0 rfl) ?_
  refine va_get (D := (dC, dI)) (ci := 3) (v := .ref ao) (C := RX3) (T := TX3) (N := 5) hx hb hts hinX3 hown hK hP 0 rfl rfl 3 (by decide) (hts (.fieldLink RX3 28 "NumberContents" "written" "LNumberContents$Row;") (by decide +kernel)) (fun _ h9 => h9) rfl dX3_isWrittenInGroups_1 ?_
  have hPc := hP.sub (ws' := [(ao, .inr (1, [.ref o1, .int (nI wn)])), (o1, .inl (cI, 487, .inl (fun j => nI (wr j))))]) [1, 2] rfl
  have hKc := hK.sub (tys' := [(cI, .int)]) [0] rfl
  refine vp_callSi (W.runV (As := []) (rest := []) ⟨hx, hb, hml, hown, hts⟩ (c_X1_length l dC dI cI ao o1 487 wn (fun j => nI (wr j)) ) (cwV 0 hts gX3_isWrittenInGroups_X1_length rfl rfl rfl (by decide +kernel) ⟨Nat.le_of_ble_eq_true rfl, Nat.le_of_ble_eq_true rfl⟩) ⟨fun a U g mk q => by obtain ⟨q0, qP, qK⟩ := q; exact ⟨q0, qP, va_K.moved (u := U) (U := U.calling g mk a) (Vm.Alike.refl U.vm) qK⟩, va_recv hK hP (ci := 1) (q0 := 1) rfl rfl, fun U hU hW => ⟨rfl, by rw [hU]; exact hPc, va_K.moved hW.alike hKc⟩⟩ rfl rfl hl.1 rfl (lv_room (Nat.le_of_ble_eq_true rfl)) dX3_isWrittenInGroups_4 ⟨Nat.le_of_ble_eq_true rfl, Nat.le_of_ble_eq_true rfl⟩) (fun r4 h4 => ?_)
  obtain rfl : r4 = nI wn := h4
  refine lv_istore_n (lv' := [(1, .int (nI wn)), (0, .ref ax)]) hx hb dX3_isWrittenInGroups_7 rfl hl (by decide) rfl (fun ls hl => ?_)
  refine lv_iload_n hx hb dX3_isWrittenInGroups_8 rfl (lv_at hl 0 rfl) ?_
  refine lv_if_eq (tgt := 33) hx hb dX3_isWrittenInGroups_9 (by decide) (fun c9 => ?_) (fun c9 => ?_)
  · refine lv_iconst (v := 0) hx hb dX3_isWrittenInGroups_33 (by decide) ?_
    exact W.zret (v := 0) hx hb hr rfl (fun tS htS hW => ⟨0, rfl, (by first | exact Or.inr ⟨rfl, fun y => y.2.2.1 (nI_inj (hwr 0) (by decide) c30)⟩ | exact Or.inr ⟨rfl, fun y => nI_nlt y.1 (by omega) c16⟩ | exact Or.inr ⟨rfl, fun y => by have y1 := y.2.1; have := (nI_eq (b := 0) (by omega) (by omega)).mp c9; omega⟩), htS⟩) t_nil dX3_isWrittenInGroups_34
  · have hwn1 : 1 ≤ wn := Nat.pos_of_ne_zero (fun y => c9 (by rw [y]; rfl))
    refine lv_iload_n hx hb dX3_isWrittenInGroups_12 rfl (lv_at hl 0 rfl) ?_
    refine lv_sipush (v := (nI 229)) hx hb dX3_isWrittenInGroups_13 (by decide) ?_
    refine lv_icmp_gt (tgt := 33) hx hb dX3_isWrittenInGroups_16 (by decide) (fun c16 => ?_) (fun c16 => ?_)
    · refine lv_iconst (v := 0) hx hb dX3_isWrittenInGroups_33 (by decide) ?_
      exact W.zret (v := 0) hx hb hr rfl (fun tS htS hW => ⟨0, rfl, (by first | exact Or.inr ⟨rfl, fun y => y.2.2.1 (nI_inj (hwr 0) (by decide) c30)⟩ | exact Or.inr ⟨rfl, fun y => nI_nlt y.1 (by omega) c16⟩ | exact Or.inr ⟨rfl, fun y => by have y1 := y.2.1; have := (nI_eq (b := 0) (by omega) (by omega)).mp c9; omega⟩), htS⟩) t_nil dX3_isWrittenInGroups_34
    · have hw229 : wn ≤ 229 := Nat.le_of_not_lt (fun y => c16 (nI_lt y (by omega)))
      refine lv_aload_n hx hb dX3_isWrittenInGroups_19 rfl (lv_at hl 1 rfl) ?_
      refine va_get (D := (dC, dI)) (ci := 3) (v := .ref ao) (C := RX3) (T := TX3) (N := 5) hx hb hts hinX3 hown hK hP 0 rfl rfl 3 (by decide) (hts (.fieldLink RX3 28 "NumberContents" "written" "LNumberContents$Row;") (by decide +kernel)) (fun _ h9 => h9) rfl dX3_isWrittenInGroups_20 ?_
      refine lv_iconst (v := (nI 0)) hx hb dX3_isWrittenInGroups_23 (by decide) ?_
      have hPc := hP.sub (ws' := [(ao, .inr (1, [.ref o1, .int (nI wn)])), (o1, .inl (cI, 487, .inl (fun j => nI (wr j))))]) [1, 2] rfl
      have hKc := hK.sub (tys' := [(cI, .int)]) [0] rfl
      refine vp_callSi (W.runV (As := [.int (nI 0)]) (rest := []) ⟨hx, hb, hml, hown, hts⟩ (c_X1_itemAt l dC dI cI ao o1 487 wn (fun j => nI (wr j)) (nI 0) hwn (by omega)) (cwV 1 hts gX3_isWrittenInGroups_X1_itemAt rfl rfl rfl (by decide +kernel) ⟨Nat.le_of_ble_eq_true rfl, Nat.le_of_ble_eq_true rfl⟩) ⟨fun a U g mk q => by obtain ⟨q0, qP, qK⟩ := q; exact ⟨q0, qP, va_K.moved (u := U) (U := U.calling g mk a) (Vm.Alike.refl U.vm) qK⟩, va_recv hK hP (ci := 1) (q0 := 1) rfl rfl, fun U hU hW => ⟨rfl, by rw [hU]; exact hPc, va_K.moved hW.alike hKc⟩⟩ rfl rfl hl.1 rfl (lv_room (Nat.le_of_ble_eq_true rfl)) dX3_isWrittenInGroups_24 ⟨Nat.le_of_ble_eq_true rfl, Nat.le_of_ble_eq_true rfl⟩) (fun r24 h24 => ?_)
      obtain rfl : r24 = nI (wr 0) := it_at (by omega) (by omega) h24
      refine lv_sipush (v := (nI 128)) hx hb dX3_isWrittenInGroups_27 (by decide) ?_
      refine lv_icmp_ne (tgt := 35) hx hb dX3_isWrittenInGroups_30 (by decide) (fun c30 => ?_) (fun c30 => ?_)
      · refine lv_iconst (v := (nI 0)) hx hb dX3_isWrittenInGroups_35 (by decide) ?_
        refine lv_istore_n (lv' := [(2, .int (nI 0)), (1, .int (nI wn)), (0, .ref ax)]) hx hb dX3_isWrittenInGroups_36 rfl hl (by decide) rfl (fun ls hl => ?_)
        have LP37 : ∀ (n9 : Nat) (i : Nat) (hm : (wn - i) < n9) (hi : i ≤ wn) (ha : ∀ j, j < i → (128 ≤ wr j ↔ j < wn - 1)) (ls : Array Slot) (hl : lv_has ls 4 [(0, .ref ax), (1, .int (nI wn)), (2, .int (nI i))]), W p l e (headSpec wsX3_isWrittenInGroups ({ frames := 2, cells := 0, slots := 0, locals := 42 } : Room)).room s m ([.ref ax]).toArray below meth c s.heap [] 0 0 (MQ below (vp_Si (fun r : Int32 => (r = 1 ∧ (wn ≤ 229 ∧ GR wn wr)) ∨ (r = 0 ∧ ¬ (wn ≤ 229 ∧ GR wn wr)))) ([.ref ax]).toArray s 0 0 (fun _ => False)) (F0 m 37 ls []) := by
          intro n9
          induction n9 with
          | zero => intro i hm; exact absurd hm (Nat.not_lt_zero _)
          | succ n9 ih =>
            intro i hm hi ha ls hl
            have ih37 := ih
            refine lv_iload_n hx hb dX3_isWrittenInGroups_37 rfl (lv_at hl 2 rfl) ?_
            refine lv_iload_n hx hb dX3_isWrittenInGroups_38 rfl (lv_at hl 1 rfl) ?_
            refine lv_icmp_ge (tgt := 86) hx hb dX3_isWrittenInGroups_39 (by decide) (fun c39 => ?_) (fun c39 => ?_)
            · refine lv_iconst (v := 1) hx hb dX3_isWrittenInGroups_86 (by decide) ?_
              exact W.zret (v := 1) hx hb hr rfl (fun tS htS hW => ⟨1, rfl, (by have he : i = wn := Nat.le_antisymm hi ((nI_leI (by omega) (by omega)).mp c39); subst he; exact Or.inl ⟨rfl, hw229, hwn1, fun y => c30 (by rw [y]), ha⟩), htS⟩) t_nil dX3_isWrittenInGroups_87
            · have hlt : i < wn := Nat.lt_of_not_le (fun h => c39 (nI_le h (by omega)))
              refine lv_aload_n hx hb dX3_isWrittenInGroups_42 rfl (lv_at hl 0 rfl) ?_
              refine va_get (D := (dC, dI)) (ci := 3) (v := .ref ao) (C := RX3) (T := TX3) (N := 5) hx hb hts hinX3 hown hK hP 0 rfl rfl 3 (by decide) (hts (.fieldLink RX3 28 "NumberContents" "written" "LNumberContents$Row;") (by decide +kernel)) (fun _ h9 => h9) rfl dX3_isWrittenInGroups_43 ?_
              refine lv_iload_n hx hb dX3_isWrittenInGroups_46 rfl (lv_at hl 2 rfl) ?_
              have hPc := hP.sub (ws' := [(ao, .inr (1, [.ref o1, .int (nI wn)])), (o1, .inl (cI, 487, .inl (fun j => nI (wr j))))]) [1, 2] rfl
              have hKc := hK.sub (tys' := [(cI, .int)]) [0] rfl
              refine vp_callSi (W.runV (As := [.int (nI i)]) (rest := []) ⟨hx, hb, hml, hown, hts⟩ (c_X1_itemAt l dC dI cI ao o1 487 wn (fun j => nI (wr j)) (nI i) hwn (by omega)) (cwV 1 hts gX3_isWrittenInGroups_X1_itemAt rfl rfl rfl (by decide +kernel) ⟨Nat.le_of_ble_eq_true rfl, Nat.le_of_ble_eq_true rfl⟩) ⟨fun a U g mk q => by obtain ⟨q0, qP, qK⟩ := q; exact ⟨q0, qP, va_K.moved (u := U) (U := U.calling g mk a) (Vm.Alike.refl U.vm) qK⟩, va_recv hK hP (ci := 1) (q0 := 1) rfl rfl, fun U hU hW => ⟨rfl, by rw [hU]; exact hPc, va_K.moved hW.alike hKc⟩⟩ rfl rfl hl.1 rfl (lv_room (Nat.le_of_ble_eq_true rfl)) dX3_isWrittenInGroups_47 ⟨Nat.le_of_ble_eq_true rfl, Nat.le_of_ble_eq_true rfl⟩) (fun r47 h47 => ?_)
              obtain rfl : r47 = nI (wr i) := it_at hlt (by omega) h47
              refine lv_sipush (v := (nI 128)) hx hb dX3_isWrittenInGroups_50 (by decide) ?_
              refine lv_icmp_lt (tgt := 60) hx hb dX3_isWrittenInGroups_53 (by decide) (fun c53 => ?_) (fun c53 => ?_)
              · have q53 := fb_lt (hwr i) c53
                refine lv_iconst (v := 0) hx hb dX3_isWrittenInGroups_60 (by decide) ?_
                refine lv_istore_n (lv' := [(3, .int 0), (0, .ref ax), (1, .int (nI wn)), (2, .int (nI i))]) hx hb dX3_isWrittenInGroups_61 rfl hl (by decide) rfl (fun ls hl => ?_)
                refine lv_iload_n hx hb dX3_isWrittenInGroups_62 rfl (lv_at hl 0 rfl) ?_
                refine lv_iload_n hx hb dX3_isWrittenInGroups_63 rfl (lv_at hl 3 rfl) ?_
                refine lv_iload_n hx hb dX3_isWrittenInGroups_64 rfl (lv_at hl 2 rfl) ?_
                refine lv_iconst (v := 1) hx hb dX3_isWrittenInGroups_65 (by decide) ?_
                refine lv_isub hx hb dX3_isWrittenInGroups_66 ?_
                refine lv_topi (fun x66 e66 => ?_)
                obtain rfl : x66 = nI (wn - 1) := e66.trans (nI_m1 (by omega))
                refine lv_icmp_ge (tgt := 74) hx hb dX3_isWrittenInGroups_67 (by decide) (fun c67 => ?_) (fun c67 => ?_)
                · have q67 : wn - 1 ≤ i := (nI_leI (by omega) (by omega)).mp c67
                  refine lv_iconst (v := 0) hx hb dX3_isWrittenInGroups_74 (by decide) ?_
                  refine lv_icmp_eq (tgt := 80) hx hb dX3_isWrittenInGroups_75 (by decide) (fun c75 => ?_) (fun c75 => ?_)
                  · obtain ⟨x80, e80⟩ : ∃ zz9 : Int32, zz9 = (nI i) + 1 := ⟨_, rfl⟩
                    refine lv_iinc (v := x80) (lv' := [(2, .int x80), (3, .int 0), (0, .ref ax), (1, .int (nI wn))]) hx hb dX3_isWrittenInGroups_80 hl (k := 3) rfl (by rw [e80]; rfl) (by decide) rfl (fun ls hl => ?_)
                    obtain rfl : x80 = nI (i + 1) := e80.trans (nI_1 i)
                    refine lv_goto (tgt := 37) hx hb dX3_isWrittenInGroups_83 (by decide) ?_
                    exact ih37 (i + 1) (by omega) (by omega) (by first | exact absurd c75 (by decide) | exact (fun j h => (Nat.lt_succ_iff_lt_or_eq.mp h).elim (fun y => ha j y) (fun y => by subst y; omega))) _ (lv_sub hl [2, 3, 0] rfl)
                  · refine lv_iconst (v := 0) hx hb dX3_isWrittenInGroups_78 (by decide) ?_
                    exact W.zret (v := 0) hx hb hr rfl (fun tS htS hW => ⟨0, rfl, (by first | exact absurd rfl c75 | exact Or.inr ⟨rfl, fun y => by have y2 := y.2.2.2 i hlt; omega⟩), htS⟩) t_nil dX3_isWrittenInGroups_79
                · have q67 : i < wn - 1 := Nat.lt_of_not_le (fun h => c67 (nI_le h (by omega)))
                  refine lv_iconst (v := 1) hx hb dX3_isWrittenInGroups_70 (by decide) ?_
                  refine lv_goto (tgt := 75) hx hb dX3_isWrittenInGroups_71 (by decide) ?_
                  refine lv_icmp_eq (tgt := 80) hx hb dX3_isWrittenInGroups_75 (by decide) (fun c75 => ?_) (fun c75 => ?_)
                  · obtain ⟨x80, e80⟩ : ∃ zz9 : Int32, zz9 = (nI i) + 1 := ⟨_, rfl⟩
                    refine lv_iinc (v := x80) (lv' := [(2, .int x80), (3, .int 0), (0, .ref ax), (1, .int (nI wn))]) hx hb dX3_isWrittenInGroups_80 hl (k := 3) rfl (by rw [e80]; rfl) (by decide) rfl (fun ls hl => ?_)
                    obtain rfl : x80 = nI (i + 1) := e80.trans (nI_1 i)
                    refine lv_goto (tgt := 37) hx hb dX3_isWrittenInGroups_83 (by decide) ?_
                    exact ih37 (i + 1) (by omega) (by omega) (by first | exact absurd c75 (by decide) | exact (fun j h => (Nat.lt_succ_iff_lt_or_eq.mp h).elim (fun y => ha j y) (fun y => by subst y; omega))) _ (lv_sub hl [2, 3, 0] rfl)
                  · refine lv_iconst (v := 0) hx hb dX3_isWrittenInGroups_78 (by decide) ?_
                    exact W.zret (v := 0) hx hb hr rfl (fun tS htS hW => ⟨0, rfl, (by first | exact absurd rfl c75 | exact Or.inr ⟨rfl, fun y => by have y2 := y.2.2.2 i hlt; omega⟩), htS⟩) t_nil dX3_isWrittenInGroups_79
              · have q53 := fb_ge (hwr i) c53
                refine lv_iconst (v := 1) hx hb dX3_isWrittenInGroups_56 (by decide) ?_
                refine lv_goto (tgt := 61) hx hb dX3_isWrittenInGroups_57 (by decide) ?_
                refine lv_istore_n (lv' := [(3, .int 1), (0, .ref ax), (1, .int (nI wn)), (2, .int (nI i))]) hx hb dX3_isWrittenInGroups_61 rfl hl (by decide) rfl (fun ls hl => ?_)
                refine lv_iload_n hx hb dX3_isWrittenInGroups_62 rfl (lv_at hl 0 rfl) ?_
                refine lv_iload_n hx hb dX3_isWrittenInGroups_63 rfl (lv_at hl 3 rfl) ?_
                refine lv_iload_n hx hb dX3_isWrittenInGroups_64 rfl (lv_at hl 2 rfl) ?_
                refine lv_iconst (v := 1) hx hb dX3_isWrittenInGroups_65 (by decide) ?_
                refine lv_isub hx hb dX3_isWrittenInGroups_66 ?_
                refine lv_topi (fun x66 e66 => ?_)
                obtain rfl : x66 = nI (wn - 1) := e66.trans (nI_m1 (by omega))
                refine lv_icmp_ge (tgt := 74) hx hb dX3_isWrittenInGroups_67 (by decide) (fun c67 => ?_) (fun c67 => ?_)
                · have q67 : wn - 1 ≤ i := (nI_leI (by omega) (by omega)).mp c67
                  refine lv_iconst (v := 0) hx hb dX3_isWrittenInGroups_74 (by decide) ?_
                  refine lv_icmp_eq (tgt := 80) hx hb dX3_isWrittenInGroups_75 (by decide) (fun c75 => ?_) (fun c75 => ?_)
                  · obtain ⟨x80, e80⟩ : ∃ zz9 : Int32, zz9 = (nI i) + 1 := ⟨_, rfl⟩
                    refine lv_iinc (v := x80) (lv' := [(2, .int x80), (3, .int 1), (0, .ref ax), (1, .int (nI wn))]) hx hb dX3_isWrittenInGroups_80 hl (k := 3) rfl (by rw [e80]; rfl) (by decide) rfl (fun ls hl => ?_)
                    obtain rfl : x80 = nI (i + 1) := e80.trans (nI_1 i)
                    refine lv_goto (tgt := 37) hx hb dX3_isWrittenInGroups_83 (by decide) ?_
                    exact ih37 (i + 1) (by omega) (by omega) (by first | exact absurd c75 (by decide) | exact (fun j h => (Nat.lt_succ_iff_lt_or_eq.mp h).elim (fun y => ha j y) (fun y => by subst y; omega))) _ (lv_sub hl [2, 3, 0] rfl)
                  · refine lv_iconst (v := 0) hx hb dX3_isWrittenInGroups_78 (by decide) ?_
                    exact W.zret (v := 0) hx hb hr rfl (fun tS htS hW => ⟨0, rfl, (by first | exact absurd rfl c75 | exact Or.inr ⟨rfl, fun y => by have y2 := y.2.2.2 i hlt; omega⟩), htS⟩) t_nil dX3_isWrittenInGroups_79
                · have q67 : i < wn - 1 := Nat.lt_of_not_le (fun h => c67 (nI_le h (by omega)))
                  refine lv_iconst (v := 1) hx hb dX3_isWrittenInGroups_70 (by decide) ?_
                  refine lv_goto (tgt := 75) hx hb dX3_isWrittenInGroups_71 (by decide) ?_
                  refine lv_icmp_eq (tgt := 80) hx hb dX3_isWrittenInGroups_75 (by decide) (fun c75 => ?_) (fun c75 => ?_)
                  · obtain ⟨x80, e80⟩ : ∃ zz9 : Int32, zz9 = (nI i) + 1 := ⟨_, rfl⟩
                    refine lv_iinc (v := x80) (lv' := [(2, .int x80), (3, .int 1), (0, .ref ax), (1, .int (nI wn))]) hx hb dX3_isWrittenInGroups_80 hl (k := 3) rfl (by rw [e80]; rfl) (by decide) rfl (fun ls hl => ?_)
                    obtain rfl : x80 = nI (i + 1) := e80.trans (nI_1 i)
                    refine lv_goto (tgt := 37) hx hb dX3_isWrittenInGroups_83 (by decide) ?_
                    exact ih37 (i + 1) (by omega) (by omega) (by first | exact absurd c75 (by decide) | exact (fun j h => (Nat.lt_succ_iff_lt_or_eq.mp h).elim (fun y => ha j y) (fun y => by subst y; omega))) _ (lv_sub hl [2, 3, 0] rfl)
                  · refine lv_iconst (v := 0) hx hb dX3_isWrittenInGroups_78 (by decide) ?_
                    exact W.zret (v := 0) hx hb hr rfl (fun tS htS hW => ⟨0, rfl, (by first | exact absurd rfl c75 | exact Or.inr ⟨rfl, fun y => by have y2 := y.2.2.2 i hlt; omega⟩), htS⟩) t_nil dX3_isWrittenInGroups_79
        exact LP37 _ 0 (Nat.lt_succ_self _) (by omega) (fun j h => absurd h (by omega)) _ (lv_sub hl [2, 1, 0] rfl)
      · refine lv_iconst (v := 0) hx hb dX3_isWrittenInGroups_33 (by decide) ?_
        exact W.zret (v := 0) hx hb hr rfl (fun tS htS hW => ⟨0, rfl, (by first | exact Or.inr ⟨rfl, fun y => y.2.2.1 (nI_inj (hwr 0) (by decide) c30)⟩ | exact Or.inr ⟨rfl, fun y => nI_nlt y.1 (by omega) c16⟩ | exact Or.inr ⟨rfl, fun y => by have y1 := y.2.1; have := (nI_eq (b := 0) (by omega) (by omega)).mp c9; omega⟩), htS⟩) t_nil dX3_isWrittenInGroups_34

