def PR (y : Int) (wn : Nat) (wr : Nat → Nat) : Prop := ∃ k, 1 ≤ k ∧ k ≤ 486 ∧ y.natAbs < 10 ^ k ∧ (k = 1 ∨ 10 ^ (k - 1) ≤ y.natAbs) ∧ wn = k + (if y < 0 then 1 else 0) ∧ (y < 0 → wr 0 = 45) ∧ ∀ j, j < k → wr (j + (if y < 0 then 1 else 0)) = 48 + y.natAbs / 10 ^ (k - 1 - j) % 10
theorem pr_v {w : Nat → Nat} {x : Int} (hw : ∀ j, w j < 256) (e : sv w 204 = x) (h0 : 0 ≤ x) : bv w 204 = x.natAbs := by
  have h1 := bv_lt hw 204
  unfold sv at e
  generalize 256 ^ 204 = P at *
  by_cases h : 128 ≤ w (204 - 1)
  · rw [if_pos h] at e; omega
  · rw [if_neg h] at e; omega
theorem na_lt {x : Int} (h : fitz x 200) : x.natAbs < 10 ^ 486 ∧ x.natAbs < 128 ^ 229 := by
  have h3 : 128 * 256 ^ 199 < 10 ^ 486 := by decide +kernel
  have h4 : 128 * 256 ^ 199 < 128 ^ 229 := by decide +kernel
  obtain ⟨a, b⟩ := h
  rw [show 200 - 1 = 199 from rfl] at a b
  generalize 10 ^ 486 = u at *
  generalize 128 ^ 229 = v at *
  generalize 256 ^ 199 = w at *
  omega
theorem dz_lt {B N k : Nat} (hB : 2 ≤ B) : ∀ m, k ≤ m → N < B ^ m → (∀ j, k ≤ j → j < m → N / B ^ j % B = 0) → N < B ^ k := by
  intro m
  induction m with
  | zero => intro h hN _; rw [show k = 0 from by omega]; exact hN
  | succ m ih =>
    intro h hN hz
    rcases Nat.lt_or_ge m k with h1 | h1
    · rw [show k = m + 1 from by omega]; exact hN
    · refine ih h1 ?_ (fun j a b => hz j a (by omega))
      have e := hz m h1 (by omega)
      have l : N / B ^ m < B := by rw [Nat.div_lt_iff_lt_mul (Nat.pow_pos (by omega))]; rw [Nat.pow_succ, Nat.mul_comm] at hN; exact hN
      rw [Nat.mod_eq_of_lt l] at e
      exact Nat.lt_of_div_eq_zero (Nat.pow_pos (by omega)) e
theorem dz_ge {B N k : Nat} (h : N / B ^ k % B ≠ 0) : B ^ k ≤ N := by
  rcases Nat.lt_or_ge N (B ^ k) with h1 | h1
  · rw [Nat.div_eq_of_lt h1, Nat.zero_mod] at h; exact absurd rfl h
  · exact h1
theorem pr_d {N m k : Nat} {wr : Nat → Nat} (hb : ∀ j, wr j < 256) (hm1 : 1 ≤ m) (hm : m ≤ 54) (hN : N < 10 ^ (9 * m)) (hd : ∀ j, j < 9 * m → wr j = 48 + N / 10 ^ j % 10)
    (h : k ≤ 9 * m ∧ (1 ≤ 9 * m → 1 ≤ k) ∧ (∀ j, k ≤ j → j < 9 * m → (fun j => nI (wr j)) j = nI 48) ∧ (k ≤ 1 ∨ (fun j => nI (wr j)) (k - 1) ≠ nI 48)) :
    1 ≤ k ∧ k ≤ 486 ∧ N < 10 ^ k ∧ (k = 1 ∨ 10 ^ (k - 1) ≤ N) ∧ ∀ j, j < k → wr j = 48 + N / 10 ^ j % 10 := by
  obtain ⟨h1, h2, h3, h4⟩ := h
  have k1 := h2 (by omega)
  refine ⟨k1, by omega, dz_lt (by decide) (9 * m) h1 hN (fun j a b => ?_), ?_, fun j hj => hd j (by omega)⟩
  · have e := nI_inj (hb j) (by decide) (h3 j a b)
    have := hd j b
    omega
  · rcases h4 with h4 | h4
    · exact Or.inl (by omega)
    · refine Or.inr (dz_ge (fun z => h4 ?_))
      show nI (wr (k - 1)) = nI 48
      rw [hd (k - 1) (by omega), z]
theorem pr_e0 {y : Int} {k : Nat} {wr g2 : Nat → Nat} (hy : 0 ≤ y) (h : 1 ≤ k ∧ k ≤ 486 ∧ y.natAbs < 10 ^ k ∧ (k = 1 ∨ 10 ^ (k - 1) ≤ y.natAbs) ∧ ∀ j, j < k → wr j = 48 + y.natAbs / 10 ^ j % 10)
    (h2 : (∀ j, j < k → g2 j = wr (k - 1 - j)) ∧ (∀ j, k ≤ j → g2 j = wr j)) : PR y k g2 := by
  obtain ⟨a, b, c, d, e⟩ := h
  refine ⟨k, a, b, c, d, by rw [if_neg (by omega)]; rfl, fun z => absurd z (by omega), fun j hj => ?_⟩
  rw [if_neg (by omega), Nat.add_zero, h2.1 j hj, e _ (by omega)]
theorem pr_e1 {y : Int} {k : Nat} {wr g2 : Nat → Nat} (hy : y < 0) (h : 1 ≤ k ∧ k ≤ 486 ∧ y.natAbs < 10 ^ k ∧ (k = 1 ∨ 10 ^ (k - 1) ≤ y.natAbs) ∧ ∀ j, j < k → wr j = 48 + y.natAbs / 10 ^ j % 10)
    (h2 : (∀ j, j < k + 1 → g2 j = va_up wr k 45 (k + 1 - 1 - j)) ∧ (∀ j, k + 1 ≤ j → g2 j = va_up wr k 45 j)) : PR y (k + 1) g2 := by
  obtain ⟨a, b, c, d, e⟩ := h
  refine ⟨k, a, b, c, d, by rw [if_pos hy], fun _ => ?_, fun j hj => ?_⟩
  · rw [h2.1 0 (by omega), show k + 1 - 1 - 0 = k from by omega, va_up_self]
  · rw [if_pos hy, h2.1 (j + 1) (by omega), show k + 1 - 1 - (j + 1) = k - 1 - j from by omega, va_up_ne _ _ (by omega), e _ (by omega)]
theorem rv_lt {k B : Nat} {f g2 : Nat → Nat} (hf : ∀ j, f j < B) (h2 : (∀ j, j < k → g2 j = f (k - 1 - j)) ∧ (∀ j, k ≤ j → g2 j = f j)) (j : Nat) : g2 j < B := by
  rcases Nat.lt_or_ge j k with h | h
  · rw [h2.1 j h]; exact hf _
  · rw [h2.2 j h]; exact hf _

set_option maxHeartbeats 4000000 in
set_option maxRecDepth 100000 in
theorem c_X3_print (l : Launch) (hl9 : l.stackTraces = false) (dC : Nat → ClassId) (dI : Nat → Nat → Nat) (cI : ClassId) (ax ak ad ab ao aw : Nat) (k1 k2 n : Nat) (g z : Nat → Nat) (o1 wn : Nat) (wr : Nat → Nat) (w1 : Nat) (w : Nat → Nat) (a9 : Int32) (sz : Nat) (hI : XK n g z) (hwn : wn ≤ 487) (hwr : ∀ j, wr j < 256) (hw : ∀ j, w j < 256) : vx_Met l yX3_print wsX3_print ({ frames := 7, cells := 1, slots := 6, locals := 113 } : Room) (va_Pc [.ref ax, .int a9] (fun U => U.heap.size = sz ∧ va_P (dC, dI) vwCl [(ax, .inr (3, [.ref ak, .ref ad, .ref ab, .ref ao, .ref aw])), (ak, .inr (0, [.ref k1, .ref k2, .int (nI n)])), (k1, .inl (cI, 8000, .inl (fun j => nI (g j)))), (k2, .inl (cI, 40, .inl (fun j => nI (z j)))), (ao, .inr (1, [.ref o1, .int (nI wn)])), (o1, .inl (cI, 487, .inl (fun j => nI (wr j)))), (aw, .inr (2, [.ref w1])), (w1, .inl (cI, 204, .inl (fun j => nI (w j))))] U.heap ∧ va_K (dC, dI) vwCl [(cI, .int)] U ∧ va_D (fun _ => True) [(ax, .inr (3, [.ref ak, .ref ad, .ref ab, .ref ao, .ref aw])), (ak, .inr (0, [.ref k1, .ref k2, .int (nI n)])), (k1, .inl (cI, 8000, .inl (fun j => nI (g j)))), (k2, .inl (cI, 40, .inl (fun j => nI (z j)))), (ao, .inr (1, [.ref o1, .int (nI wn)])), (o1, .inl (cI, 487, .inl (fun j => nI (wr j)))), (aw, .inr (2, [.ref w1])), (w1, .inl (cI, 204, .inl (fun j => nI (w j))))] ∧ tz (va_A [(ax, .inr (3, [.ref ak, .ref ad, .ref ab, .ref ao, .ref aw])), (ak, .inr (0, [.ref k1, .ref k2, .int (nI n)])), (k1, .inl (cI, 8000, .inl (fun j => nI (g j)))), (k2, .inl (cI, 40, .inl (fun j => nI (z j)))), (ao, .inr (1, [.ref o1, .int (nI wn)])), (o1, .inl (cI, 487, .inl (fun j => nI (wr j)))), (aw, .inr (2, [.ref w1])), (w1, .inl (cI, 204, .inl (fun j => nI (w j))))] sz) U U.heap ∧ tw U)) (va_Qi (fun (r : Int32) (uS : Nat × (Nat → Nat) × (Nat → Nat)) => match uS with | (wn3, wr3, w3) => (∀ j, w3 j < 256) ∧ (∀ j, wr3 j < 256) ∧ ∃ aA, a9 = nI aA ∧ aA < n ∧ r = nI wn3 ∧ PR (nval g z aA) wn3 wr3) (fun (uS : Nat × (Nat → Nat) × (Nat → Nat)) (tS : State) => match uS with | (wn3, wr3, w3) => va_P (dC, dI) vwCl [(ax, .inr (3, [.ref ak, .ref ad, .ref ab, .ref ao, .ref aw])), (ak, .inr (0, [.ref k1, .ref k2, .int (nI n)])), (k1, .inl (cI, 8000, .inl (fun j => nI (g j)))), (k2, .inl (cI, 40, .inl (fun j => nI (z j)))), (ao, .inr (1, [.ref o1, .int (nI wn3)])), (o1, .inl (cI, 487, .inl (fun j => nI (wr3 j)))), (aw, .inr (2, [.ref w1])), (w1, .inl (cI, 204, .inl (fun j => nI (w3 j))))] tS.heap ∧ va_K (dC, dI) vwCl [(cI, .int)] tS ∧ va_D (va_A [(ax, .inr (3, [.ref ak, .ref ad, .ref ab, .ref ao, .ref aw])), (ak, .inr (0, [.ref k1, .ref k2, .int (nI n)])), (k1, .inl (cI, 8000, .inl (fun j => nI (g j)))), (k2, .inl (cI, 40, .inl (fun j => nI (z j)))), (ao, .inr (1, [.ref o1, .int (nI wn)])), (o1, .inl (cI, 487, .inl (fun j => nI (wr j)))), (aw, .inr (2, [.ref w1])), (w1, .inl (cI, 204, .inl (fun j => nI (w j))))] sz) [(ax, .inr (3, [.ref ak, .ref ad, .ref ab, .ref ao, .ref aw])), (ak, .inr (0, [.ref k1, .ref k2, .int (nI n)])), (k1, .inl (cI, 8000, .inl (fun j => nI (g j)))), (k2, .inl (cI, 40, .inl (fun j => nI (z j)))), (ao, .inr (1, [.ref o1, .int (nI wn3)])), (o1, .inl (cI, 487, .inl (fun j => nI (wr3 j)))), (aw, .inr (2, [.ref w1])), (w1, .inl (cI, 204, .inl (fun j => nI (w3 j))))]) (va_A [(ax, .inr (3, [.ref ak, .ref ad, .ref ab, .ref ao, .ref aw])), (ak, .inr (0, [.ref k1, .ref k2, .int (nI n)])), (k1, .inl (cI, 8000, .inl (fun j => nI (g j)))), (k2, .inl (cI, 40, .inl (fun j => nI (z j)))), (ao, .inr (1, [.ref o1, .int (nI wn)])), (o1, .inl (cI, 487, .inl (fun j => nI (wr j)))), (aw, .inr (2, [.ref w1])), (w1, .inl (cI, 204, .inl (fun j => nI (w j))))] sz)) (vx_X (fun (_ : Unit) => True) (fun (E : String) (_ : Unit) (tS : State) => (E = eIO ∧ ¬ vp_in a9 n) ∧ va_P (dC, dI) vwCl [(ax, .inr (3, [.ref ak, .ref ad, .ref ab, .ref ao, .ref aw])), (ak, .inr (0, [.ref k1, .ref k2, .int (nI n)])), (k1, .inl (cI, 8000, .inl (fun j => nI (g j)))), (k2, .inl (cI, 40, .inl (fun j => nI (z j)))), (ao, .inr (1, [.ref o1, .int (nI wn)])), (o1, .inl (cI, 487, .inl (fun j => nI (wr j)))), (aw, .inr (2, [.ref w1])), (w1, .inl (cI, 204, .inl (fun j => nI (w j))))] tS.heap ∧ va_K (dC, dI) vwCl [(cI, .int)] tS ∧ va_D (va_A [(ax, .inr (3, [.ref ak, .ref ad, .ref ab, .ref ao, .ref aw])), (ak, .inr (0, [.ref k1, .ref k2, .int (nI n)])), (k1, .inl (cI, 8000, .inl (fun j => nI (g j)))), (k2, .inl (cI, 40, .inl (fun j => nI (z j)))), (ao, .inr (1, [.ref o1, .int (nI wn)])), (o1, .inl (cI, 487, .inl (fun j => nI (wr j)))), (aw, .inr (2, [.ref w1])), (w1, .inl (cI, 204, .inl (fun j => nI (w j))))] sz) [(ax, .inr (3, [.ref ak, .ref ad, .ref ab, .ref ao, .ref aw])), (ak, .inr (0, [.ref k1, .ref k2, .int (nI n)])), (k1, .inl (cI, 8000, .inl (fun j => nI (g j)))), (k2, .inl (cI, 40, .inl (fun j => nI (z j)))), (ao, .inr (1, [.ref o1, .int (nI wn)])), (o1, .inl (cI, 487, .inl (fun j => nI (wr j)))), (aw, .inr (2, [.ref w1])), (w1, .inl (cI, 204, .inl (fun j => nI (w j))))]) (va_A [(ax, .inr (3, [.ref ak, .ref ad, .ref ab, .ref ao, .ref aw])), (ak, .inr (0, [.ref k1, .ref k2, .int (nI n)])), (k1, .inl (cI, 8000, .inl (fun j => nI (g j)))), (k2, .inl (cI, 40, .inl (fun j => nI (z j)))), (ao, .inr (1, [.ref o1, .int (nI wn)])), (o1, .inl (cI, 487, .inl (fun j => nI (wr j)))), (aw, .inr (2, [.ref w1])), (w1, .inl (cI, 204, .inl (fun j => nI (w j))))] sz)) 1 6 (va_A [(ax, .inr (3, [.ref ak, .ref ad, .ref ab, .ref ao, .ref aw])), (ak, .inr (0, [.ref k1, .ref k2, .int (nI n)])), (k1, .inl (cI, 8000, .inl (fun j => nI (g j)))), (k2, .inl (cI, 40, .inl (fun j => nI (z j)))), (ao, .inr (1, [.ref o1, .int (nI wn)])), (o1, .inl (cI, 487, .inl (fun j => nI (wr j)))), (aw, .inr (2, [.ref w1])), (w1, .inl (cI, 204, .inl (fun j => nI (w j))))] sz) := by
  refine vx_ofW (cc := cX3_print) (maxL := 3) (ret := (some .int)) (by decide) rfl ?_
  intro p e s m args below meth c s₁ B hml hno hv
  obtain ⟨rfl, hsz, hP, hK, hD0, hZ, hT⟩ := hv
  have hx := B.exec
  have hb := B.bytes
  have hr := B.returns
  have hts := atoms_spec (ws := wsX3_print) B.pre
  have hown : s.vm.findClass RX3 = some m.cls := findClass_of_methodNamed B.named
  have hlocks := B.notSynchronized
  subst hsz
  have hD := hD0.self (sz := s.heap.size)
  generalize hAe : va_A [(ax, .inr (3, [.ref ak, .ref ad, .ref ab, .ref ao, .ref aw])), (ak, .inr (0, [.ref k1, .ref k2, .int (nI n)])), (k1, .inl (cI, 8000, .inl (fun j => nI (g j)))), (k2, .inl (cI, 40, .inl (fun j => nI (z j)))), (ao, .inr (1, [.ref o1, .int (nI wn)])), (o1, .inl (cI, 487, .inl (fun j => nI (wr j)))), (aw, .inr (2, [.ref w1])), (w1, .inl (cI, 204, .inl (fun j => nI (w j))))] s.heap.size = A at hD hZ ⊢
  have hA : ∀ q : Nat, s.heap.size ≤ q → A q := fun q h => by rw [← hAe]; exact Or.inr h
  have hS : va_S A s.heap s.heap [] := va_S.rf
  have hinX0 : ∀ w ∈ wsX00, w ∈ wsX3_print := by decide +kernel
  have hinX1 : ∀ w ∈ wsX10, w ∈ wsX3_print := by decide +kernel
  have hinX2 : ∀ w ∈ wsX20, w ∈ wsX3_print := by decide +kernel
  have hinX3 : ∀ w ∈ wsX30, w ∈ wsX3_print := by decide +kernel
  have hl := lv_entry ([.ref ax, .int a9]) (n := 3) (Nat.le_of_ble_eq_true rfl)
  rw [lg_entry_eq]
  generalize (lg_sl ([.ref ax, .int a9]) ++ List.replicate (3 - (lg_sl ([.ref ax, .int a9])).length) Slot.unset).toArray = ls at hl ⊢
  have hl : lv_has ls 3 [(0, .ref ax), (1, .int a9)] := hl
  obtain ⟨hg, hn, hz, hq⟩ := id hI
  refine lv_aload_n hx hb dX3_print_0 rfl (lv_at hl 0 rfl) ?_
  refine lv_iload_n hx hb dX3_print_1 rfl (lv_at hl 1 rfl) ?_
  have hPc := hP.sub (ws' := [(ax, .inr (3, [.ref ak, .ref ad, .ref ab, .ref ao, .ref aw])), (ak, .inr (0, [.ref k1, .ref k2, .int (nI n)])), (k1, .inl (cI, 8000, .inl (fun j => nI (g j)))), (k2, .inl (cI, 40, .inl (fun j => nI (z j))))]) [0, 1, 2, 3] rfl
  have hKc := hK.sub (tys' := [(cI, .int)]) [0] rfl
  have hDc := hD.sub (ws' := [(ax, .inr (3, [.ref ak, .ref ad, .ref ab, .ref ao, .ref aw])), (ak, .inr (0, [.ref k1, .ref k2, .int (nI n)])), (k1, .inl (cI, 8000, .inl (fun j => nI (g j)))), (k2, .inl (cI, 40, .inl (fun j => nI (z j))))]) [0, 1, 2, 3] (by decide) rfl
  have hFc := va_free (wc := [(ax, .inr (3, [.ref ak, .ref ad, .ref ab, .ref ao, .ref aw])), (ak, .inr (0, [.ref k1, .ref k2, .int (nI n)])), (k1, .inl (cI, 8000, .inl (fun j => nI (g j)))), (k2, .inl (cI, 40, .inl (fun j => nI (z j))))]) hD hS hA [0, 1, 2, 3] rfl
  refine vx_callv (vx_runV (As := [.int a9]) (rest := []) ⟨hx, hb, hml, hown, hts⟩ (c_X3_needNumber l hl9 dC dI cI ax ak ad ab ao aw k1 k2 n g z a9 s.heap.size hn) (cwV 1 hts gX3_print_X3_needNumber rfl rfl rfl (by decide +kernel) ⟨Nat.le_of_ble_eq_true rfl, Nat.le_of_ble_eq_true rfl⟩) ⟨fun a U g mk q => by obtain ⟨q0, q1, qP, qK, qD, qZ, qT⟩ := q; exact ⟨q0, q1, qP, va_K.moved (u := U) (U := U.calling g mk a) (Vm.Alike.refl U.vm) qK, qD, tz.moved (u := U) (U := U.calling g mk a) (Vm.Alike.refl U.vm) qZ, tw.same (u := U) (U := U.calling g mk a) rfl qT⟩, va_recv hKc hPc (ci := 3) (q0 := 0) rfl rfl, fun U hU hW => ⟨rfl, by rw [hU], by rw [hU]; exact hPc, va_K.moved hW.alike hKc, hDc.weaken (fun _ _ _ _ => trivial), hZ.call hS hU hW hFc, hT.warm hW⟩⟩ rfl rfl hl.1 rfl (lv_room (Nat.le_of_ble_eq_true rfl)) dX3_print_2 ⟨Nat.le_of_ble_eq_true rfl, Nat.le_of_ble_eq_true rfl⟩) hS (fun q _ h => hFc q h) hFc (fun q _ h => hFc q h) (fun E ce q9 uX tX H1 locs htX hvmX _ hBX hzS hkS hS hce hcv hcl => ?_) (fun uS tS H1 locs htS hvm h2 hB hzS hkS hS => ?_)
  · obtain ⟨hX2, hP1, hK1, hD1⟩ := hBX
    rw [htX] at hP1
    obtain ⟨hP, hD⟩ := va_join (wr := [(ao, .inr (1, [.ref o1, .int (nI wn)])), (o1, .inl (cI, 487, .inl (fun j => nI (wr j)))), (aw, .inr (2, [.ref w1])), (w1, .inl (cI, 204, .inl (fun j => nI (w j))))]) (w1 := [(ax, .inr (3, [.ref ak, .ref ad, .ref ab, .ref ao, .ref aw])), (ak, .inr (0, [.ref k1, .ref k2, .int (nI n)])), (k1, .inl (cI, 8000, .inl (fun j => nI (g j)))), (k2, .inl (cI, 40, .inl (fun j => nI (z j))))]) hP hD [0, 1, 2, 3] [4, 5, 6, 7] rfl rfl (by decide) (by decide) hkS hFc hP1 hD1
    have hP : va_P (dC, dI) vwCl [(ao, .inr (1, [.ref o1, .int (nI wn)])), (o1, .inl (cI, 487, .inl (fun j => nI (wr j)))), (aw, .inr (2, [.ref w1])), (w1, .inl (cI, 204, .inl (fun j => nI (w j)))), (ax, .inr (3, [.ref ak, .ref ad, .ref ab, .ref ao, .ref aw])), (ak, .inr (0, [.ref k1, .ref k2, .int (nI n)])), (k1, .inl (cI, 8000, .inl (fun j => nI (g j)))), (k2, .inl (cI, 40, .inl (fun j => nI (z j))))] H1 := hP
    have hD : va_D A [(ao, .inr (1, [.ref o1, .int (nI wn)])), (o1, .inl (cI, 487, .inl (fun j => nI (wr j)))), (aw, .inr (2, [.ref w1])), (w1, .inl (cI, 204, .inl (fun j => nI (w j)))), (ax, .inr (3, [.ref ak, .ref ad, .ref ab, .ref ao, .ref aw])), (ak, .inr (0, [.ref k1, .ref k2, .int (nI n)])), (k1, .inl (cI, 8000, .inl (fun j => nI (g j)))), (k2, .inl (cI, 40, .inl (fun j => nI (z j))))] := hD
    have hP9 := hP.sub (ws' := [(ax, .inr (3, [.ref ak, .ref ad, .ref ab, .ref ao, .ref aw])), (ak, .inr (0, [.ref k1, .ref k2, .int (nI n)])), (k1, .inl (cI, 8000, .inl (fun j => nI (g j)))), (k2, .inl (cI, 40, .inl (fun j => nI (z j)))), (ao, .inr (1, [.ref o1, .int (nI wn)])), (o1, .inl (cI, 487, .inl (fun j => nI (wr j)))), (aw, .inr (2, [.ref w1])), (w1, .inl (cI, 204, .inl (fun j => nI (w j))))]) [4, 5, 6, 7, 0, 1, 2, 3] rfl
    have hD9 := hD.sub (ws' := [(ax, .inr (3, [.ref ak, .ref ad, .ref ab, .ref ao, .ref aw])), (ak, .inr (0, [.ref k1, .ref k2, .int (nI n)])), (k1, .inl (cI, 8000, .inl (fun j => nI (g j)))), (k2, .inl (cI, 40, .inl (fun j => nI (z j)))), (ao, .inr (1, [.ref o1, .int (nI wn)])), (o1, .inl (cI, 487, .inl (fun j => nI (wr j)))), (aw, .inr (2, [.ref w1])), (w1, .inl (cI, 204, .inl (fun j => nI (w j))))]) [4, 5, 6, 7, 0, 1, 2, 3] (by decide) rfl
    have hK9 := hK.sub (tys' := [(cI, .int)]) [0] rfl
    exact vx_out (E := E) (fun x h => (hno x h).elim) hlocks hce hcv hcl (fun tS htS haS => ⟨(), trivial, ⟨hX2, by rw [htS]; exact hP9, va_K.moved haS hK9, hD9⟩, hS.F htS⟩) hS.2.2 (by omega) (by omega)
  obtain ⟨hP1, hK1, hD1⟩ := hB
  rw [htS] at hP1
  have hK1 := va_K.moved hvm.symm hK1
  try dsimp only at h2
  obtain ⟨hP, hD⟩ := va_join (wr := [(ao, .inr (1, [.ref o1, .int (nI wn)])), (o1, .inl (cI, 487, .inl (fun j => nI (wr j)))), (aw, .inr (2, [.ref w1])), (w1, .inl (cI, 204, .inl (fun j => nI (w j))))]) (w1 := [(ax, .inr (3, [.ref ak, .ref ad, .ref ab, .ref ao, .ref aw])), (ak, .inr (0, [.ref k1, .ref k2, .int (nI n)])), (k1, .inl (cI, 8000, .inl (fun j => nI (g j)))), (k2, .inl (cI, 40, .inl (fun j => nI (z j))))]) hP hD [0, 1, 2, 3] [4, 5, 6, 7] rfl rfl (by decide) (by decide) hkS hFc hP1 hD1
  generalize H1 = H at hP hS ⊢
  have hP : va_P (dC, dI) vwCl [(ao, .inr (1, [.ref o1, .int (nI wn)])), (o1, .inl (cI, 487, .inl (fun j => nI (wr j)))), (aw, .inr (2, [.ref w1])), (w1, .inl (cI, 204, .inl (fun j => nI (w j)))), (ax, .inr (3, [.ref ak, .ref ad, .ref ab, .ref ao, .ref aw])), (ak, .inr (0, [.ref k1, .ref k2, .int (nI n)])), (k1, .inl (cI, 8000, .inl (fun j => nI (g j)))), (k2, .inl (cI, 40, .inl (fun j => nI (z j))))] H := hP
  have hD : va_D A [(ao, .inr (1, [.ref o1, .int (nI wn)])), (o1, .inl (cI, 487, .inl (fun j => nI (wr j)))), (aw, .inr (2, [.ref w1])), (w1, .inl (cI, 204, .inl (fun j => nI (w j)))), (ax, .inr (3, [.ref ak, .ref ad, .ref ab, .ref ao, .ref aw])), (ak, .inr (0, [.ref k1, .ref k2, .int (nI n)])), (k1, .inl (cI, 8000, .inl (fun j => nI (g j)))), (k2, .inl (cI, 40, .inl (fun j => nI (z j))))] := hD
  refine W.widen (k := 1) (n := 6) (by omega) (by omega) ?_
  obtain ⟨a, ha, rfl⟩ := vp_in_of h2 (by omega)
  refine lv_aload_n hx hb dX3_print_5 rfl (lv_at hl 0 rfl) ?_
  refine va_get (D := (dC, dI)) (ci := 3) (v := .ref ak) (C := RX3) (T := TX3) (N := 5) hx hb hts hinX3 hown hK hP 4 rfl rfl 0 (by decide) (hts (.fieldLink RX3 12 "NumberContents" "kept" "LNumberContents$Numbers;") (by decide +kernel)) (fun _ h9 => h9) rfl dX3_print_6 ?_
  refine lv_iload_n hx hb dX3_print_9 rfl (lv_at hl 1 rfl) ?_
  have hPc := hP.sub (ws' := [(ak, .inr (0, [.ref k1, .ref k2, .int (nI n)])), (k1, .inl (cI, 8000, .inl (fun j => nI (g j)))), (k2, .inl (cI, 40, .inl (fun j => nI (z j))))]) [5, 6, 7] rfl
  have hKc := hK.sub (tys' := [(cI, .int)]) [0] rfl
  refine vp_callSi (W.runV (As := [.int (nI a)]) (rest := []) ⟨hx, hb, hml, hown, hts⟩ (c_X0_isMinus l dC dI cI ak k1 k2 n g z a hg hn hz ha) (cwV 1 hts gX3_print_X0_isMinus rfl rfl rfl (by decide +kernel) ⟨Nat.le_of_ble_eq_true rfl, Nat.le_of_ble_eq_true rfl⟩) ⟨fun a U g mk q => by obtain ⟨q0, qP, qK⟩ := q; exact ⟨q0, qP, va_K.moved (u := U) (U := U.calling g mk a) (Vm.Alike.refl U.vm) qK⟩, va_recv hK hP (ci := 0) (q0 := 5) rfl rfl, fun U hU hW => ⟨rfl, by rw [hU]; exact hPc, va_K.moved hW.alike hKc⟩⟩ rfl rfl hl.1 rfl (lv_room (Nat.le_of_ble_eq_true rfl)) dX3_print_10 ⟨Nat.le_of_ble_eq_true rfl, Nat.le_of_ble_eq_true rfl⟩) (fun r10 h10 => ?_)
  refine lv_istore_n (lv' := [(2, .int r10), (0, .ref ax), (1, .int (nI a))]) hx hb dX3_print_13 rfl hl (by decide) rfl (fun ls hl => ?_)
  refine lv_aload_n hx hb dX3_print_14 rfl (lv_at hl 1 rfl) ?_
  refine lv_iload_n hx hb dX3_print_15 rfl (lv_at hl 2 rfl) ?_
  have hPc := hP.sub (ws' := [(ax, .inr (3, [.ref ak, .ref ad, .ref ab, .ref ao, .ref aw])), (ak, .inr (0, [.ref k1, .ref k2, .int (nI n)])), (k1, .inl (cI, 8000, .inl (fun j => nI (g j)))), (k2, .inl (cI, 40, .inl (fun j => nI (z j)))), (aw, .inr (2, [.ref w1])), (w1, .inl (cI, 204, .inl (fun j => nI (w j))))]) [4, 5, 6, 7, 2, 3] rfl
  have hKc := hK.sub (tys' := [(cI, .int)]) [0] rfl
  have hDc := hD.sub (ws' := [(ax, .inr (3, [.ref ak, .ref ad, .ref ab, .ref ao, .ref aw])), (ak, .inr (0, [.ref k1, .ref k2, .int (nI n)])), (k1, .inl (cI, 8000, .inl (fun j => nI (g j)))), (k2, .inl (cI, 40, .inl (fun j => nI (z j)))), (aw, .inr (2, [.ref w1])), (w1, .inl (cI, 204, .inl (fun j => nI (w j))))]) [4, 5, 6, 7, 2, 3] (by decide) rfl
  have hFc := va_free (wc := [(ax, .inr (3, [.ref ak, .ref ad, .ref ab, .ref ao, .ref aw])), (ak, .inr (0, [.ref k1, .ref k2, .int (nI n)])), (k1, .inl (cI, 8000, .inl (fun j => nI (g j)))), (k2, .inl (cI, 40, .inl (fun j => nI (z j)))), (aw, .inr (2, [.ref w1])), (w1, .inl (cI, 204, .inl (fun j => nI (w j))))]) hD hS hA [4, 5, 6, 7, 2, 3] rfl
  refine va_callv (va_runV (As := [.int (nI a)]) (rest := []) ⟨hx, hb, hml, hown, hts⟩ (c_X3_loadNumber l dC dI cI ax ak ad ab ao aw k1 k2 n g z w1 w a H.size hg hn hz hw ha) (cwV 1 hts gX3_print_X3_loadNumber rfl rfl rfl (by decide +kernel) ⟨Nat.le_of_ble_eq_true rfl, Nat.le_of_ble_eq_true rfl⟩) ⟨fun a U g mk q => by obtain ⟨q0, q1, qP, qK, qD⟩ := q; exact ⟨q0, q1, qP, va_K.moved (u := U) (U := U.calling g mk a) (Vm.Alike.refl U.vm) qK, qD⟩, va_recv hKc hPc (ci := 3) (q0 := 0) rfl rfl, fun U hU hW => ⟨rfl, by rw [hU], by rw [hU]; exact hPc, va_K.moved hW.alike hKc, hDc.weaken (fun _ _ _ _ => trivial)⟩⟩ rfl rfl hl.1 rfl (lv_room (Nat.le_of_ble_eq_true rfl)) dX3_print_16 ⟨Nat.le_of_ble_eq_true rfl, Nat.le_of_ble_eq_true rfl⟩) hS (fun q _ h => hFc q h) hFc (fun uS tS H1 locs htS hvm h16 hB hzS hkS hS => ?_)
  obtain ⟨w4_16, rfl⟩ : ∃ z, z = uS := ⟨_, rfl⟩
  obtain ⟨hP1, hK1, hD1⟩ := hB
  rw [htS] at hP1
  have hK1 := va_K.moved hvm.symm hK1
  try dsimp only at h16
  obtain ⟨hP, hD⟩ := va_join (wr := [(ao, .inr (1, [.ref o1, .int (nI wn)])), (o1, .inl (cI, 487, .inl (fun j => nI (wr j))))]) (w1 := [(ax, .inr (3, [.ref ak, .ref ad, .ref ab, .ref ao, .ref aw])), (ak, .inr (0, [.ref k1, .ref k2, .int (nI n)])), (k1, .inl (cI, 8000, .inl (fun j => nI (g j)))), (k2, .inl (cI, 40, .inl (fun j => nI (z j)))), (aw, .inr (2, [.ref w1])), (w1, .inl (cI, 204, .inl (fun j => nI (w4_16 j))))]) hP hD [4, 5, 6, 7, 2, 3] [0, 1] rfl rfl (by decide) (by decide) hkS hFc hP1 hD1
  generalize H1 = H at hP hS ⊢
  have hP : va_P (dC, dI) vwCl [(ao, .inr (1, [.ref o1, .int (nI wn)])), (o1, .inl (cI, 487, .inl (fun j => nI (wr j)))), (ax, .inr (3, [.ref ak, .ref ad, .ref ab, .ref ao, .ref aw])), (ak, .inr (0, [.ref k1, .ref k2, .int (nI n)])), (k1, .inl (cI, 8000, .inl (fun j => nI (g j)))), (k2, .inl (cI, 40, .inl (fun j => nI (z j)))), (aw, .inr (2, [.ref w1])), (w1, .inl (cI, 204, .inl (fun j => nI (w4_16 j))))] H := hP
  have hD : va_D A [(ao, .inr (1, [.ref o1, .int (nI wn)])), (o1, .inl (cI, 487, .inl (fun j => nI (wr j)))), (ax, .inr (3, [.ref ak, .ref ad, .ref ab, .ref ao, .ref aw])), (ak, .inr (0, [.ref k1, .ref k2, .int (nI n)])), (k1, .inl (cI, 8000, .inl (fun j => nI (g j)))), (k2, .inl (cI, 40, .inl (fun j => nI (z j)))), (aw, .inr (2, [.ref w1])), (w1, .inl (cI, 204, .inl (fun j => nI (w4_16 j))))] := hD
  refine lv_iload_n hx hb dX3_print_19 rfl (lv_at hl 0 rfl) ?_
  refine lv_if_eq (tgt := 32) hx hb dX3_print_20 (by decide) (fun c20 => ?_) (fun c20 => ?_)
  · have hN32 : (∀ j, w4_16 j < 256) ∧ bv w4_16 204 = (nval g z a).natAbs := (by first | exact ⟨h29.1, (pr_v h29.1 (ng_ex (nval_fit hg (hz a ha)) h16.2 h29) (by have := nv_neg hg (ite_s h10 c20); omega)).trans (Int.natAbs_neg _)⟩ | exact ⟨h16.1, pr_v h16.1 h16.2 (nv_pos (ite_r h10 c20))⟩)
    refine lv_aload_n hx hb dX3_print_32 rfl (lv_at hl 1 rfl) ?_
    refine va_get (D := (dC, dI)) (ci := 3) (v := .ref ao) (C := RX3) (T := TX3) (N := 5) hx hb hts hinX3 hown hK hP 2 rfl rfl 3 (by decide) (hts (.fieldLink RX3 28 "NumberContents" "written" "LNumberContents$Row;") (by decide +kernel)) (fun _ h9 => h9) rfl dX3_print_33 ?_
    have hPc := hP.sub (ws' := [(ao, .inr (1, [.ref o1, .int (nI wn)])), (o1, .inl (cI, 487, .inl (fun j => nI (wr j))))]) [0, 1] rfl
    have hKc := hK.sub (tys' := [(cI, .int)]) [0] rfl
    have hDc := hD.sub (ws' := [(ao, .inr (1, [.ref o1, .int (nI wn)])), (o1, .inl (cI, 487, .inl (fun j => nI (wr j))))]) [0, 1] (by decide) rfl
    have hFc := va_free (wc := [(ao, .inr (1, [.ref o1, .int (nI wn)])), (o1, .inl (cI, 487, .inl (fun j => nI (wr j))))]) hD hS hA [0, 1] rfl
    refine va_callv (va_runV (As := []) (rest := []) ⟨hx, hb, hml, hown, hts⟩ (c_X1_empty l dC dI cI ao o1 487 wn (fun j => nI (wr j)) H.size ) (cwV 0 hts gX3_print_X1_empty rfl rfl rfl (by decide +kernel) ⟨Nat.le_of_ble_eq_true rfl, Nat.le_of_ble_eq_true rfl⟩) ⟨fun a U g mk q => by obtain ⟨q0, q1, qP, qK, qD⟩ := q; exact ⟨q0, q1, qP, va_K.moved (u := U) (U := U.calling g mk a) (Vm.Alike.refl U.vm) qK, qD⟩, va_recv hKc hPc (ci := 1) (q0 := 0) rfl rfl, fun U hU hW => ⟨rfl, by rw [hU], by rw [hU]; exact hPc, va_K.moved hW.alike hKc, hDc.weaken (fun _ _ _ _ => trivial)⟩⟩ rfl rfl hl.1 rfl (lv_room (Nat.le_of_ble_eq_true rfl)) dX3_print_36 ⟨Nat.le_of_ble_eq_true rfl, Nat.le_of_ble_eq_true rfl⟩) hS (fun q _ h => hFc q h) hFc (fun uS tS H1 locs htS hvm h36 hB hzS hkS hS => ?_)
    obtain ⟨hP1, hK1, hD1⟩ := hB
    rw [htS] at hP1
    have hK1 := va_K.moved hvm.symm hK1
    try dsimp only at h36
    obtain ⟨hP, hD⟩ := va_join (wr := [(ax, .inr (3, [.ref ak, .ref ad, .ref ab, .ref ao, .ref aw])), (ak, .inr (0, [.ref k1, .ref k2, .int (nI n)])), (k1, .inl (cI, 8000, .inl (fun j => nI (g j)))), (k2, .inl (cI, 40, .inl (fun j => nI (z j)))), (aw, .inr (2, [.ref w1])), (w1, .inl (cI, 204, .inl (fun j => nI (w4_16 j))))]) (w1 := [(ao, .inr (1, [.ref o1, .int (nI 0)])), (o1, .inl (cI, 487, .inl (fun j => nI (wr j))))]) hP hD [0, 1] [2, 3, 4, 5, 6, 7] rfl rfl (by decide) (by decide) hkS hFc hP1 hD1
    generalize H1 = H at hP hS ⊢
    have hP : va_P (dC, dI) vwCl [(ax, .inr (3, [.ref ak, .ref ad, .ref ab, .ref ao, .ref aw])), (ak, .inr (0, [.ref k1, .ref k2, .int (nI n)])), (k1, .inl (cI, 8000, .inl (fun j => nI (g j)))), (k2, .inl (cI, 40, .inl (fun j => nI (z j)))), (aw, .inr (2, [.ref w1])), (w1, .inl (cI, 204, .inl (fun j => nI (w4_16 j)))), (ao, .inr (1, [.ref o1, .int (nI 0)])), (o1, .inl (cI, 487, .inl (fun j => nI (wr j))))] H := hP
    have hD : va_D A [(ax, .inr (3, [.ref ak, .ref ad, .ref ab, .ref ao, .ref aw])), (ak, .inr (0, [.ref k1, .ref k2, .int (nI n)])), (k1, .inl (cI, 8000, .inl (fun j => nI (g j)))), (k2, .inl (cI, 40, .inl (fun j => nI (z j)))), (aw, .inr (2, [.ref w1])), (w1, .inl (cI, 204, .inl (fun j => nI (w4_16 j)))), (ao, .inr (1, [.ref o1, .int (nI 0)])), (o1, .inl (cI, 487, .inl (fun j => nI (wr j))))] := hD
    refine lv_aload_n hx hb dX3_print_39 rfl (lv_at hl 1 rfl) ?_
    have hPc := hP.sub (ws' := [(ax, .inr (3, [.ref ak, .ref ad, .ref ab, .ref ao, .ref aw])), (ao, .inr (1, [.ref o1, .int (nI 0)])), (o1, .inl (cI, 487, .inl (fun j => nI (wr j)))), (aw, .inr (2, [.ref w1])), (w1, .inl (cI, 204, .inl (fun j => nI (w4_16 j))))]) [0, 6, 7, 4, 5] rfl
    have hKc := hK.sub (tys' := [(cI, .int)]) [0] rfl
    have hDc := hD.sub (ws' := [(ax, .inr (3, [.ref ak, .ref ad, .ref ab, .ref ao, .ref aw])), (ao, .inr (1, [.ref o1, .int (nI 0)])), (o1, .inl (cI, 487, .inl (fun j => nI (wr j)))), (aw, .inr (2, [.ref w1])), (w1, .inl (cI, 204, .inl (fun j => nI (w4_16 j))))]) [0, 6, 7, 4, 5] (by decide) rfl
    have hFc := va_free (wc := [(ax, .inr (3, [.ref ak, .ref ad, .ref ab, .ref ao, .ref aw])), (ao, .inr (1, [.ref o1, .int (nI 0)])), (o1, .inl (cI, 487, .inl (fun j => nI (wr j)))), (aw, .inr (2, [.ref w1])), (w1, .inl (cI, 204, .inl (fun j => nI (w4_16 j))))]) hD hS hA [0, 6, 7, 4, 5] rfl
    refine va_callv (va_runV (As := []) (rest := []) ⟨hx, hb, hml, hown, hts⟩ (c_X3_writeDigitsLowestFirst l dC dI cI ax ak ad ab ao aw o1 wr w1 w4_16 H.size hN32.1 hwr (by rw [hN32.2]; exact (na_lt (nval_fit hg (hz a ha))).1)) (cwV 0 hts gX3_print_X3_writeDigitsLowestFirst rfl rfl rfl (by decide +kernel) ⟨Nat.le_of_ble_eq_true rfl, Nat.le_of_ble_eq_true rfl⟩) ⟨fun a U g mk q => by obtain ⟨q0, q1, qP, qK, qD⟩ := q; exact ⟨q0, q1, qP, va_K.moved (u := U) (U := U.calling g mk a) (Vm.Alike.refl U.vm) qK, qD⟩, va_recv hKc hPc (ci := 3) (q0 := 0) rfl rfl, fun U hU hW => ⟨rfl, by rw [hU], by rw [hU]; exact hPc, va_K.moved hW.alike hKc, hDc.weaken (fun _ _ _ _ => trivial)⟩⟩ rfl rfl hl.1 rfl (lv_room (Nat.le_of_ble_eq_true rfl)) dX3_print_40 ⟨Nat.le_of_ble_eq_true rfl, Nat.le_of_ble_eq_true rfl⟩) hS (fun q _ h => hFc q h) hFc (fun uS tS H1 locs htS hvm h40 hB hzS hkS hS => ?_)
    obtain ⟨m9_40, w3_40, wr3_40⟩ := uS
    obtain ⟨hP1, hK1, hD1⟩ := hB
    rw [htS] at hP1
    have hK1 := va_K.moved hvm.symm hK1
    try dsimp only at h40
    obtain ⟨hP, hD⟩ := va_join (wr := [(ak, .inr (0, [.ref k1, .ref k2, .int (nI n)])), (k1, .inl (cI, 8000, .inl (fun j => nI (g j)))), (k2, .inl (cI, 40, .inl (fun j => nI (z j))))]) (w1 := [(ax, .inr (3, [.ref ak, .ref ad, .ref ab, .ref ao, .ref aw])), (ao, .inr (1, [.ref o1, .int (nI (9 * m9_40))])), (o1, .inl (cI, 487, .inl (fun j => nI (wr3_40 j)))), (aw, .inr (2, [.ref w1])), (w1, .inl (cI, 204, .inl (fun j => nI (w3_40 j))))]) hP hD [0, 6, 7, 4, 5] [1, 2, 3] rfl rfl (by decide) (by decide) hkS hFc hP1 hD1
    generalize H1 = H at hP hS ⊢
    have hP : va_P (dC, dI) vwCl [(ak, .inr (0, [.ref k1, .ref k2, .int (nI n)])), (k1, .inl (cI, 8000, .inl (fun j => nI (g j)))), (k2, .inl (cI, 40, .inl (fun j => nI (z j)))), (ax, .inr (3, [.ref ak, .ref ad, .ref ab, .ref ao, .ref aw])), (ao, .inr (1, [.ref o1, .int (nI (9 * m9_40))])), (o1, .inl (cI, 487, .inl (fun j => nI (wr3_40 j)))), (aw, .inr (2, [.ref w1])), (w1, .inl (cI, 204, .inl (fun j => nI (w3_40 j))))] H := hP
    have hD : va_D A [(ak, .inr (0, [.ref k1, .ref k2, .int (nI n)])), (k1, .inl (cI, 8000, .inl (fun j => nI (g j)))), (k2, .inl (cI, 40, .inl (fun j => nI (z j)))), (ax, .inr (3, [.ref ak, .ref ad, .ref ab, .ref ao, .ref aw])), (ao, .inr (1, [.ref o1, .int (nI (9 * m9_40))])), (o1, .inl (cI, 487, .inl (fun j => nI (wr3_40 j)))), (aw, .inr (2, [.ref w1])), (w1, .inl (cI, 204, .inl (fun j => nI (w3_40 j))))] := hD
    refine lv_aload_n hx hb dX3_print_43 rfl (lv_at hl 1 rfl) ?_
    refine va_get (D := (dC, dI)) (ci := 3) (v := .ref ao) (C := RX3) (T := TX3) (N := 5) hx hb hts hinX3 hown hK hP 3 rfl rfl 3 (by decide) (hts (.fieldLink RX3 28 "NumberContents" "written" "LNumberContents$Row;") (by decide +kernel)) (fun _ h9 => h9) rfl dX3_print_44 ?_
    refine lv_bipush (v := (nI 48)) hx hb dX3_print_47 (by decide) ?_
    have hPc := hP.sub (ws' := [(ao, .inr (1, [.ref o1, .int (nI (9 * m9_40))])), (o1, .inl (cI, 487, .inl (fun j => nI (wr3_40 j))))]) [4, 5] rfl
    have hKc := hK.sub (tys' := [(cI, .int)]) [0] rfl
    have hDc := hD.sub (ws' := [(ao, .inr (1, [.ref o1, .int (nI (9 * m9_40))])), (o1, .inl (cI, 487, .inl (fun j => nI (wr3_40 j))))]) [4, 5] (by decide) rfl
    have hFc := va_free (wc := [(ao, .inr (1, [.ref o1, .int (nI (9 * m9_40))])), (o1, .inl (cI, 487, .inl (fun j => nI (wr3_40 j))))]) hD hS hA [4, 5] rfl
    refine va_callv (va_runV (As := [.int (nI 48)]) (rest := []) ⟨hx, hb, hml, hown, hts⟩ (c_X1_dropFromEnd l dC dI cI ao o1 487 (9 * m9_40) (fun j => nI (wr3_40 j)) (nI 48) H.size (by have := h40.2.1; omega) (by omega)) (cwV 1 hts gX3_print_X1_dropFromEnd rfl rfl rfl (by decide +kernel) ⟨Nat.le_of_ble_eq_true rfl, Nat.le_of_ble_eq_true rfl⟩) ⟨fun a U g mk q => by obtain ⟨q0, q1, qP, qK, qD⟩ := q; exact ⟨q0, q1, qP, va_K.moved (u := U) (U := U.calling g mk a) (Vm.Alike.refl U.vm) qK, qD⟩, va_recv hKc hPc (ci := 1) (q0 := 0) rfl rfl, fun U hU hW => ⟨rfl, by rw [hU], by rw [hU]; exact hPc, va_K.moved hW.alike hKc, hDc.weaken (fun _ _ _ _ => trivial)⟩⟩ rfl rfl hl.1 rfl (lv_room (Nat.le_of_ble_eq_true rfl)) dX3_print_49 ⟨Nat.le_of_ble_eq_true rfl, Nat.le_of_ble_eq_true rfl⟩) hS (fun q _ h => hFc q h) hFc (fun uS tS H1 locs htS hvm h49 hB hzS hkS hS => ?_)
    obtain ⟨n2_49, rfl⟩ : ∃ z, z = uS := ⟨_, rfl⟩
    obtain ⟨hP1, hK1, hD1⟩ := hB
    rw [htS] at hP1
    have hK1 := va_K.moved hvm.symm hK1
    try dsimp only at h49
    obtain ⟨hP, hD⟩ := va_join (wr := [(ak, .inr (0, [.ref k1, .ref k2, .int (nI n)])), (k1, .inl (cI, 8000, .inl (fun j => nI (g j)))), (k2, .inl (cI, 40, .inl (fun j => nI (z j)))), (ax, .inr (3, [.ref ak, .ref ad, .ref ab, .ref ao, .ref aw])), (aw, .inr (2, [.ref w1])), (w1, .inl (cI, 204, .inl (fun j => nI (w3_40 j))))]) (w1 := [(ao, .inr (1, [.ref o1, .int (nI n2_49)])), (o1, .inl (cI, 487, .inl (fun j => nI (wr3_40 j))))]) hP hD [4, 5] [0, 1, 2, 3, 6, 7] rfl rfl (by decide) (by decide) hkS hFc hP1 hD1
    generalize H1 = H at hP hS ⊢
    have hP : va_P (dC, dI) vwCl [(ak, .inr (0, [.ref k1, .ref k2, .int (nI n)])), (k1, .inl (cI, 8000, .inl (fun j => nI (g j)))), (k2, .inl (cI, 40, .inl (fun j => nI (z j)))), (ax, .inr (3, [.ref ak, .ref ad, .ref ab, .ref ao, .ref aw])), (aw, .inr (2, [.ref w1])), (w1, .inl (cI, 204, .inl (fun j => nI (w3_40 j)))), (ao, .inr (1, [.ref o1, .int (nI n2_49)])), (o1, .inl (cI, 487, .inl (fun j => nI (wr3_40 j))))] H := hP
    have hD : va_D A [(ak, .inr (0, [.ref k1, .ref k2, .int (nI n)])), (k1, .inl (cI, 8000, .inl (fun j => nI (g j)))), (k2, .inl (cI, 40, .inl (fun j => nI (z j)))), (ax, .inr (3, [.ref ak, .ref ad, .ref ab, .ref ao, .ref aw])), (aw, .inr (2, [.ref w1])), (w1, .inl (cI, 204, .inl (fun j => nI (w3_40 j)))), (ao, .inr (1, [.ref o1, .int (nI n2_49)])), (o1, .inl (cI, 487, .inl (fun j => nI (wr3_40 j))))] := hD
    have hd52 := pr_d h40.2.2.2.1 h40.1 h40.2.1 h40.2.2.2.2.1 h40.2.2.2.2.2 h49
    rw [hN32.2] at hd52
    refine lv_iload_n hx hb dX3_print_52 rfl (lv_at hl 0 rfl) ?_
    refine lv_if_eq (tgt := 65) hx hb dX3_print_53 (by decide) (fun c53 => ?_) (fun c53 => ?_)
    · refine lv_aload_n hx hb dX3_print_65 rfl (lv_at hl 1 rfl) ?_
      refine va_get (D := (dC, dI)) (ci := 3) (v := .ref ao) (C := RX3) (T := TX3) (N := 5) hx hb hts hinX3 hown hK hP 3 rfl rfl 3 (by decide) (hts (.fieldLink RX3 28 "NumberContents" "written" "LNumberContents$Row;") (by decide +kernel)) (fun _ h9 => h9) rfl dX3_print_66 ?_
      have hPc := hP.sub (ws' := [(ao, .inr (1, [.ref o1, .int (nI n2_49)])), (o1, .inl (cI, 487, .inl (fun j => nI (wr3_40 j))))]) [6, 7] rfl
      have hKc := hK.sub (tys' := [(cI, .int)]) [0] rfl
      have hDc := hD.sub (ws' := [(ao, .inr (1, [.ref o1, .int (nI n2_49)])), (o1, .inl (cI, 487, .inl (fun j => nI (wr3_40 j))))]) [6, 7] (by decide) rfl
      have hFc := va_free (wc := [(ao, .inr (1, [.ref o1, .int (nI n2_49)])), (o1, .inl (cI, 487, .inl (fun j => nI (wr3_40 j))))]) hD hS hA [6, 7] rfl
      refine va_callv (va_runV (As := []) (rest := []) ⟨hx, hb, hml, hown, hts⟩ (c_X1_reverseg l dC dI cI ao o1 487 n2_49 wr3_40 H.size (by have := hd52.2.1; omega) (by omega)) (cwV 0 hts gX3_print_X1_reverse rfl rfl rfl (by decide +kernel) ⟨Nat.le_of_ble_eq_true rfl, Nat.le_of_ble_eq_true rfl⟩) ⟨fun a U g mk q => by obtain ⟨q0, q1, qP, qK, qD⟩ := q; exact ⟨q0, q1, qP, va_K.moved (u := U) (U := U.calling g mk a) (Vm.Alike.refl U.vm) qK, qD⟩, va_recv hKc hPc (ci := 1) (q0 := 0) rfl rfl, fun U hU hW => ⟨rfl, by rw [hU], by rw [hU]; exact hPc, va_K.moved hW.alike hKc, hDc.weaken (fun _ _ _ _ => trivial)⟩⟩ rfl rfl hl.1 rfl (lv_room (Nat.le_of_ble_eq_true rfl)) dX3_print_69 ⟨Nat.le_of_ble_eq_true rfl, Nat.le_of_ble_eq_true rfl⟩) hS (fun q _ h => hFc q h) hFc (fun uS tS H1 locs htS hvm h69 hB hzS hkS hS => ?_)
      obtain ⟨g2_69, rfl⟩ : ∃ z, z = uS := ⟨_, rfl⟩
      obtain ⟨hP1, hK1, hD1⟩ := hB
      rw [htS] at hP1
      have hK1 := va_K.moved hvm.symm hK1
      try dsimp only at h69
      obtain ⟨hP, hD⟩ := va_join (wr := [(ak, .inr (0, [.ref k1, .ref k2, .int (nI n)])), (k1, .inl (cI, 8000, .inl (fun j => nI (g j)))), (k2, .inl (cI, 40, .inl (fun j => nI (z j)))), (ax, .inr (3, [.ref ak, .ref ad, .ref ab, .ref ao, .ref aw])), (aw, .inr (2, [.ref w1])), (w1, .inl (cI, 204, .inl (fun j => nI (w3_40 j))))]) (w1 := [(ao, .inr (1, [.ref o1, .int (nI n2_49)])), (o1, .inl (cI, 487, .inl (fun j => nI (g2_69 j))))]) hP hD [6, 7] [0, 1, 2, 3, 4, 5] rfl rfl (by decide) (by decide) hkS hFc hP1 hD1
      generalize H1 = H at hP hS ⊢
      have hP : va_P (dC, dI) vwCl [(ak, .inr (0, [.ref k1, .ref k2, .int (nI n)])), (k1, .inl (cI, 8000, .inl (fun j => nI (g j)))), (k2, .inl (cI, 40, .inl (fun j => nI (z j)))), (ax, .inr (3, [.ref ak, .ref ad, .ref ab, .ref ao, .ref aw])), (aw, .inr (2, [.ref w1])), (w1, .inl (cI, 204, .inl (fun j => nI (w3_40 j)))), (ao, .inr (1, [.ref o1, .int (nI n2_49)])), (o1, .inl (cI, 487, .inl (fun j => nI (g2_69 j))))] H := hP
      have hD : va_D A [(ak, .inr (0, [.ref k1, .ref k2, .int (nI n)])), (k1, .inl (cI, 8000, .inl (fun j => nI (g j)))), (k2, .inl (cI, 40, .inl (fun j => nI (z j)))), (ax, .inr (3, [.ref ak, .ref ad, .ref ab, .ref ao, .ref aw])), (aw, .inr (2, [.ref w1])), (w1, .inl (cI, 204, .inl (fun j => nI (w3_40 j)))), (ao, .inr (1, [.ref o1, .int (nI n2_49)])), (o1, .inl (cI, 487, .inl (fun j => nI (g2_69 j))))] := hD
      refine lv_aload_n hx hb dX3_print_72 rfl (lv_at hl 1 rfl) ?_
      refine va_get (D := (dC, dI)) (ci := 3) (v := .ref ao) (C := RX3) (T := TX3) (N := 5) hx hb hts hinX3 hown hK hP 3 rfl rfl 3 (by decide) (hts (.fieldLink RX3 28 "NumberContents" "written" "LNumberContents$Row;") (by decide +kernel)) (fun _ h9 => h9) rfl dX3_print_73 ?_
      have hPc := hP.sub (ws' := [(ao, .inr (1, [.ref o1, .int (nI n2_49)])), (o1, .inl (cI, 487, .inl (fun j => nI (g2_69 j))))]) [6, 7] rfl
      have hKc := hK.sub (tys' := [(cI, .int)]) [0] rfl
      refine vp_callSi (W.runV (As := []) (rest := []) ⟨hx, hb, hml, hown, hts⟩ (c_X1_length l dC dI cI ao o1 487 n2_49 (fun j => nI (g2_69 j)) ) (cwV 0 hts gX3_print_X1_length rfl rfl rfl (by decide +kernel) ⟨Nat.le_of_ble_eq_true rfl, Nat.le_of_ble_eq_true rfl⟩) ⟨fun a U g mk q => by obtain ⟨q0, qP, qK⟩ := q; exact ⟨q0, qP, va_K.moved (u := U) (U := U.calling g mk a) (Vm.Alike.refl U.vm) qK⟩, va_recv hK hP (ci := 1) (q0 := 6) rfl rfl, fun U hU hW => ⟨rfl, by rw [hU]; exact hPc, va_K.moved hW.alike hKc⟩⟩ rfl rfl hl.1 rfl (lv_room (Nat.le_of_ble_eq_true rfl)) dX3_print_76 ⟨Nat.le_of_ble_eq_true rfl, Nat.le_of_ble_eq_true rfl⟩) (fun r76 h76 => ?_)
      have hP9 := hP.sub (ws' := [(ax, .inr (3, [.ref ak, .ref ad, .ref ab, .ref ao, .ref aw])), (ak, .inr (0, [.ref k1, .ref k2, .int (nI n)])), (k1, .inl (cI, 8000, .inl (fun j => nI (g j)))), (k2, .inl (cI, 40, .inl (fun j => nI (z j)))), (ao, .inr (1, [.ref o1, .int (nI n2_49)])), (o1, .inl (cI, 487, .inl (fun j => nI (g2_69 j)))), (aw, .inr (2, [.ref w1])), (w1, .inl (cI, 204, .inl (fun j => nI (w3_40 j))))]) [3, 0, 1, 2, 6, 7, 4, 5] rfl
      have hD9 := hD.sub (ws' := [(ax, .inr (3, [.ref ak, .ref ad, .ref ab, .ref ao, .ref aw])), (ak, .inr (0, [.ref k1, .ref k2, .int (nI n)])), (k1, .inl (cI, 8000, .inl (fun j => nI (g j)))), (k2, .inl (cI, 40, .inl (fun j => nI (z j)))), (ao, .inr (1, [.ref o1, .int (nI n2_49)])), (o1, .inl (cI, 487, .inl (fun j => nI (g2_69 j)))), (aw, .inr (2, [.ref w1])), (w1, .inl (cI, 204, .inl (fun j => nI (w3_40 j))))]) [3, 0, 1, 2, 6, 7, 4, 5] (by decide) rfl
      have hK9 := hK.sub (tys' := [(cI, .int)]) [0] rfl
      exact vx_ret (W.widen (k := 1) (n := 6) (by omega) (by omega) (W.iret (v := r76) hx hb hr (fun tS htS hW => ⟨⟨r76, (n2_49, g2_69, w3_40), rfl, (by first | exact absurd c20 c53 | exact absurd c53 c20 | exact ⟨h40.2.2.1, rv_lt h40.2.2.2.1 h69, a, rfl, ha, h76, pr_e0 (nv_pos (ite_r h10 c20)) hd52 h69⟩ | exact ⟨h40.2.2.1, rv_lt (up_lt h40.2.2.2.1 (by decide)) h69, a, rfl, ha, h76, pr_e1 (nv_neg hg (ite_s h10 c20)) hd52 h69⟩), by rw [htS]; exact hP9, va_K.moved hW.alike hK9, hD9⟩, hS.F htS⟩) hS.2.2 dX3_print_79))
    · refine lv_aload_n hx hb dX3_print_56 rfl (lv_at hl 1 rfl) ?_
      refine va_get (D := (dC, dI)) (ci := 3) (v := .ref ao) (C := RX3) (T := TX3) (N := 5) hx hb hts hinX3 hown hK hP 3 rfl rfl 3 (by decide) (hts (.fieldLink RX3 28 "NumberContents" "written" "LNumberContents$Row;") (by decide +kernel)) (fun _ h9 => h9) rfl dX3_print_57 ?_
      refine lv_bipush (v := (nI 45)) hx hb dX3_print_60 (by decide) ?_
      have hPc := hP.sub (ws' := [(ao, .inr (1, [.ref o1, .int (nI n2_49)])), (o1, .inl (cI, 487, .inl (fun j => nI (wr3_40 j))))]) [6, 7] rfl
      have hKc := hK.sub (tys' := [(cI, .int)]) [0] rfl
      have hDc := hD.sub (ws' := [(ao, .inr (1, [.ref o1, .int (nI n2_49)])), (o1, .inl (cI, 487, .inl (fun j => nI (wr3_40 j))))]) [6, 7] (by decide) rfl
      have hFc := va_free (wc := [(ao, .inr (1, [.ref o1, .int (nI n2_49)])), (o1, .inl (cI, 487, .inl (fun j => nI (wr3_40 j))))]) hD hS hA [6, 7] rfl
      refine va_callv (va_runV (As := [.int (nI 45)]) (rest := []) ⟨hx, hb, hml, hown, hts⟩ (c_X1_addg l dC dI cI ao o1 487 n2_49 wr3_40 45 H.size (by have := hd52.2.1; omega) (by omega)) (cwV 1 hts gX3_print_X1_add rfl rfl rfl (by decide +kernel) ⟨Nat.le_of_ble_eq_true rfl, Nat.le_of_ble_eq_true rfl⟩) ⟨fun a U g mk q => by obtain ⟨q0, q1, qP, qK, qD⟩ := q; exact ⟨q0, q1, qP, va_K.moved (u := U) (U := U.calling g mk a) (Vm.Alike.refl U.vm) qK, qD⟩, va_recv hKc hPc (ci := 1) (q0 := 0) rfl rfl, fun U hU hW => ⟨rfl, by rw [hU], by rw [hU]; exact hPc, va_K.moved hW.alike hKc, hDc.weaken (fun _ _ _ _ => trivial)⟩⟩ rfl rfl hl.1 rfl (lv_room (Nat.le_of_ble_eq_true rfl)) dX3_print_62 ⟨Nat.le_of_ble_eq_true rfl, Nat.le_of_ble_eq_true rfl⟩) hS (fun q _ h => hFc q h) hFc (fun uS tS H1 locs htS hvm h62 hB hzS hkS hS => ?_)
      obtain ⟨hP1, hK1, hD1⟩ := hB
      rw [htS] at hP1
      have hK1 := va_K.moved hvm.symm hK1
      try dsimp only at h62
      obtain ⟨hP, hD⟩ := va_join (wr := [(ak, .inr (0, [.ref k1, .ref k2, .int (nI n)])), (k1, .inl (cI, 8000, .inl (fun j => nI (g j)))), (k2, .inl (cI, 40, .inl (fun j => nI (z j)))), (ax, .inr (3, [.ref ak, .ref ad, .ref ab, .ref ao, .ref aw])), (aw, .inr (2, [.ref w1])), (w1, .inl (cI, 204, .inl (fun j => nI (w3_40 j))))]) (w1 := [(ao, .inr (1, [.ref o1, .int (nI (n2_49 + 1))])), (o1, .inl (cI, 487, .inl (fun j => nI (va_up wr3_40 n2_49 45 j))))]) hP hD [6, 7] [0, 1, 2, 3, 4, 5] rfl rfl (by decide) (by decide) hkS hFc hP1 hD1
      generalize H1 = H at hP hS ⊢
      have hP : va_P (dC, dI) vwCl [(ak, .inr (0, [.ref k1, .ref k2, .int (nI n)])), (k1, .inl (cI, 8000, .inl (fun j => nI (g j)))), (k2, .inl (cI, 40, .inl (fun j => nI (z j)))), (ax, .inr (3, [.ref ak, .ref ad, .ref ab, .ref ao, .ref aw])), (aw, .inr (2, [.ref w1])), (w1, .inl (cI, 204, .inl (fun j => nI (w3_40 j)))), (ao, .inr (1, [.ref o1, .int (nI (n2_49 + 1))])), (o1, .inl (cI, 487, .inl (fun j => nI (va_up wr3_40 n2_49 45 j))))] H := hP
      have hD : va_D A [(ak, .inr (0, [.ref k1, .ref k2, .int (nI n)])), (k1, .inl (cI, 8000, .inl (fun j => nI (g j)))), (k2, .inl (cI, 40, .inl (fun j => nI (z j)))), (ax, .inr (3, [.ref ak, .ref ad, .ref ab, .ref ao, .ref aw])), (aw, .inr (2, [.ref w1])), (w1, .inl (cI, 204, .inl (fun j => nI (w3_40 j)))), (ao, .inr (1, [.ref o1, .int (nI (n2_49 + 1))])), (o1, .inl (cI, 487, .inl (fun j => nI (va_up wr3_40 n2_49 45 j))))] := hD
      refine lv_aload_n hx hb dX3_print_65 rfl (lv_at hl 1 rfl) ?_
      refine va_get (D := (dC, dI)) (ci := 3) (v := .ref ao) (C := RX3) (T := TX3) (N := 5) hx hb hts hinX3 hown hK hP 3 rfl rfl 3 (by decide) (hts (.fieldLink RX3 28 "NumberContents" "written" "LNumberContents$Row;") (by decide +kernel)) (fun _ h9 => h9) rfl dX3_print_66 ?_
      have hPc := hP.sub (ws' := [(ao, .inr (1, [.ref o1, .int (nI (n2_49 + 1))])), (o1, .inl (cI, 487, .inl (fun j => nI ((va_up wr3_40 n2_49 45) j))))]) [6, 7] rfl
      have hKc := hK.sub (tys' := [(cI, .int)]) [0] rfl
      have hDc := hD.sub (ws' := [(ao, .inr (1, [.ref o1, .int (nI (n2_49 + 1))])), (o1, .inl (cI, 487, .inl (fun j => nI ((va_up wr3_40 n2_49 45) j))))]) [6, 7] (by decide) rfl
      have hFc := va_free (wc := [(ao, .inr (1, [.ref o1, .int (nI (n2_49 + 1))])), (o1, .inl (cI, 487, .inl (fun j => nI ((va_up wr3_40 n2_49 45) j))))]) hD hS hA [6, 7] rfl
      refine va_callv (va_runV (As := []) (rest := []) ⟨hx, hb, hml, hown, hts⟩ (c_X1_reverseg l dC dI cI ao o1 487 (n2_49 + 1) (va_up wr3_40 n2_49 45) H.size (by have := hd52.2.1; omega) (by omega)) (cwV 0 hts gX3_print_X1_reverse rfl rfl rfl (by decide +kernel) ⟨Nat.le_of_ble_eq_true rfl, Nat.le_of_ble_eq_true rfl⟩) ⟨fun a U g mk q => by obtain ⟨q0, q1, qP, qK, qD⟩ := q; exact ⟨q0, q1, qP, va_K.moved (u := U) (U := U.calling g mk a) (Vm.Alike.refl U.vm) qK, qD⟩, va_recv hKc hPc (ci := 1) (q0 := 0) rfl rfl, fun U hU hW => ⟨rfl, by rw [hU], by rw [hU]; exact hPc, va_K.moved hW.alike hKc, hDc.weaken (fun _ _ _ _ => trivial)⟩⟩ rfl rfl hl.1 rfl (lv_room (Nat.le_of_ble_eq_true rfl)) dX3_print_69 ⟨Nat.le_of_ble_eq_true rfl, Nat.le_of_ble_eq_true rfl⟩) hS (fun q _ h => hFc q h) hFc (fun uS tS H1 locs htS hvm h69 hB hzS hkS hS => ?_)
      obtain ⟨g2_69, rfl⟩ : ∃ z, z = uS := ⟨_, rfl⟩
      obtain ⟨hP1, hK1, hD1⟩ := hB
      rw [htS] at hP1
      have hK1 := va_K.moved hvm.symm hK1
      try dsimp only at h69
      obtain ⟨hP, hD⟩ := va_join (wr := [(ak, .inr (0, [.ref k1, .ref k2, .int (nI n)])), (k1, .inl (cI, 8000, .inl (fun j => nI (g j)))), (k2, .inl (cI, 40, .inl (fun j => nI (z j)))), (ax, .inr (3, [.ref ak, .ref ad, .ref ab, .ref ao, .ref aw])), (aw, .inr (2, [.ref w1])), (w1, .inl (cI, 204, .inl (fun j => nI (w3_40 j))))]) (w1 := [(ao, .inr (1, [.ref o1, .int (nI (n2_49 + 1))])), (o1, .inl (cI, 487, .inl (fun j => nI (g2_69 j))))]) hP hD [6, 7] [0, 1, 2, 3, 4, 5] rfl rfl (by decide) (by decide) hkS hFc hP1 hD1
      generalize H1 = H at hP hS ⊢
      have hP : va_P (dC, dI) vwCl [(ak, .inr (0, [.ref k1, .ref k2, .int (nI n)])), (k1, .inl (cI, 8000, .inl (fun j => nI (g j)))), (k2, .inl (cI, 40, .inl (fun j => nI (z j)))), (ax, .inr (3, [.ref ak, .ref ad, .ref ab, .ref ao, .ref aw])), (aw, .inr (2, [.ref w1])), (w1, .inl (cI, 204, .inl (fun j => nI (w3_40 j)))), (ao, .inr (1, [.ref o1, .int (nI (n2_49 + 1))])), (o1, .inl (cI, 487, .inl (fun j => nI (g2_69 j))))] H := hP
      have hD : va_D A [(ak, .inr (0, [.ref k1, .ref k2, .int (nI n)])), (k1, .inl (cI, 8000, .inl (fun j => nI (g j)))), (k2, .inl (cI, 40, .inl (fun j => nI (z j)))), (ax, .inr (3, [.ref ak, .ref ad, .ref ab, .ref ao, .ref aw])), (aw, .inr (2, [.ref w1])), (w1, .inl (cI, 204, .inl (fun j => nI (w3_40 j)))), (ao, .inr (1, [.ref o1, .int (nI (n2_49 + 1))])), (o1, .inl (cI, 487, .inl (fun j => nI (g2_69 j))))] := hD
      refine lv_aload_n hx hb dX3_print_72 rfl (lv_at hl 1 rfl) ?_
      refine va_get (D := (dC, dI)) (ci := 3) (v := .ref ao) (C := RX3) (T := TX3) (N := 5) hx hb hts hinX3 hown hK hP 3 rfl rfl 3 (by decide) (hts (.fieldLink RX3 28 "NumberContents" "written" "LNumberContents$Row;") (by decide +kernel)) (fun _ h9 => h9) rfl dX3_print_73 ?_
      have hPc := hP.sub (ws' := [(ao, .inr (1, [.ref o1, .int (nI (n2_49 + 1))])), (o1, .inl (cI, 487, .inl (fun j => nI (g2_69 j))))]) [6, 7] rfl
      have hKc := hK.sub (tys' := [(cI, .int)]) [0] rfl
      refine vp_callSi (W.runV (As := []) (rest := []) ⟨hx, hb, hml, hown, hts⟩ (c_X1_length l dC dI cI ao o1 487 (n2_49 + 1) (fun j => nI (g2_69 j)) ) (cwV 0 hts gX3_print_X1_length rfl rfl rfl (by decide +kernel) ⟨Nat.le_of_ble_eq_true rfl, Nat.le_of_ble_eq_true rfl⟩) ⟨fun a U g mk q => by obtain ⟨q0, qP, qK⟩ := q; exact ⟨q0, qP, va_K.moved (u := U) (U := U.calling g mk a) (Vm.Alike.refl U.vm) qK⟩, va_recv hK hP (ci := 1) (q0 := 6) rfl rfl, fun U hU hW => ⟨rfl, by rw [hU]; exact hPc, va_K.moved hW.alike hKc⟩⟩ rfl rfl hl.1 rfl (lv_room (Nat.le_of_ble_eq_true rfl)) dX3_print_76 ⟨Nat.le_of_ble_eq_true rfl, Nat.le_of_ble_eq_true rfl⟩) (fun r76 h76 => ?_)
      have hP9 := hP.sub (ws' := [(ax, .inr (3, [.ref ak, .ref ad, .ref ab, .ref ao, .ref aw])), (ak, .inr (0, [.ref k1, .ref k2, .int (nI n)])), (k1, .inl (cI, 8000, .inl (fun j => nI (g j)))), (k2, .inl (cI, 40, .inl (fun j => nI (z j)))), (ao, .inr (1, [.ref o1, .int (nI (n2_49 + 1))])), (o1, .inl (cI, 487, .inl (fun j => nI (g2_69 j)))), (aw, .inr (2, [.ref w1])), (w1, .inl (cI, 204, .inl (fun j => nI (w3_40 j))))]) [3, 0, 1, 2, 6, 7, 4, 5] rfl
      have hD9 := hD.sub (ws' := [(ax, .inr (3, [.ref ak, .ref ad, .ref ab, .ref ao, .ref aw])), (ak, .inr (0, [.ref k1, .ref k2, .int (nI n)])), (k1, .inl (cI, 8000, .inl (fun j => nI (g j)))), (k2, .inl (cI, 40, .inl (fun j => nI (z j)))), (ao, .inr (1, [.ref o1, .int (nI (n2_49 + 1))])), (o1, .inl (cI, 487, .inl (fun j => nI (g2_69 j)))), (aw, .inr (2, [.ref w1])), (w1, .inl (cI, 204, .inl (fun j => nI (w3_40 j))))]) [3, 0, 1, 2, 6, 7, 4, 5] (by decide) rfl
      have hK9 := hK.sub (tys' := [(cI, .int)]) [0] rfl
      exact vx_ret (W.widen (k := 1) (n := 6) (by omega) (by omega) (W.iret (v := r76) hx hb hr (fun tS htS hW => ⟨⟨r76, ((n2_49 + 1), g2_69, w3_40), rfl, (by first | exact absurd c20 c53 | exact absurd c53 c20 | exact ⟨h40.2.2.1, rv_lt h40.2.2.2.1 h69, a, rfl, ha, h76, pr_e0 (nv_pos (ite_r h10 c20)) hd52 h69⟩ | exact ⟨h40.2.2.1, rv_lt (up_lt h40.2.2.2.1 (by decide)) h69, a, rfl, ha, h76, pr_e1 (nv_neg hg (ite_s h10 c20)) hd52 h69⟩), by rw [htS]; exact hP9, va_K.moved hW.alike hK9, hD9⟩, hS.F htS⟩) hS.2.2 dX3_print_79))
  · refine lv_aload_n hx hb dX3_print_23 rfl (lv_at hl 1 rfl) ?_
    refine va_get (D := (dC, dI)) (ci := 3) (v := .ref aw) (C := RX3) (T := TX3) (N := 5) hx hb hts hinX3 hown hK hP 2 rfl rfl 4 (by decide) (hts (.fieldLink RX3 34 "NumberContents" "wide" "LNumberContents$Wide;") (by decide +kernel)) (fun _ h9 => h9) rfl dX3_print_24 ?_
    refine lv_iconst (v := (-1)) hx hb dX3_print_27 (by decide) ?_
    refine lv_iconst (v := 0) hx hb dX3_print_28 (by decide) ?_
    have hPc := hP.sub (ws' := [(aw, .inr (2, [.ref w1])), (w1, .inl (cI, 204, .inl (fun j => nI (w4_16 j))))]) [6, 7] rfl
    have hKc := hK.sub (tys' := [(cI, .int)]) [0] rfl
    have hDc := hD.sub (ws' := [(aw, .inr (2, [.ref w1])), (w1, .inl (cI, 204, .inl (fun j => nI (w4_16 j))))]) [6, 7] (by decide) rfl
    have hFc := va_free (wc := [(aw, .inr (2, [.ref w1])), (w1, .inl (cI, 204, .inl (fun j => nI (w4_16 j))))]) hD hS hA [6, 7] rfl
    refine va_callv (va_runV (As := [.int (-1), .int 0]) (rest := []) ⟨hx, hb, hml, hown, hts⟩ (c_X2_multiplyAndAdd l dC dI cI aw w1 w4_16 (-1) 0 H.size h16.1) (cwV 2 hts gX3_print_X2_multiplyAndAdd rfl rfl rfl (by decide +kernel) ⟨Nat.le_of_ble_eq_true rfl, Nat.le_of_ble_eq_true rfl⟩) ⟨fun a U g mk q => by obtain ⟨q0, q1, qP, qK, qD⟩ := q; exact ⟨q0, q1, qP, va_K.moved (u := U) (U := U.calling g mk a) (Vm.Alike.refl U.vm) qK, qD⟩, va_recv hKc hPc (ci := 2) (q0 := 0) rfl rfl, fun U hU hW => ⟨rfl, by rw [hU], by rw [hU]; exact hPc, va_K.moved hW.alike hKc, hDc.weaken (fun _ _ _ _ => trivial)⟩⟩ rfl rfl hl.1 rfl (lv_room (Nat.le_of_ble_eq_true rfl)) dX3_print_29 ⟨Nat.le_of_ble_eq_true rfl, Nat.le_of_ble_eq_true rfl⟩) hS (fun q _ h => hFc q h) hFc (fun uS tS H1 locs htS hvm h29 hB hzS hkS hS => ?_)
    obtain ⟨g3_29, rfl⟩ : ∃ z, z = uS := ⟨_, rfl⟩
    obtain ⟨hP1, hK1, hD1⟩ := hB
    rw [htS] at hP1
    have hK1 := va_K.moved hvm.symm hK1
    try dsimp only at h29
    obtain ⟨hP, hD⟩ := va_join (wr := [(ao, .inr (1, [.ref o1, .int (nI wn)])), (o1, .inl (cI, 487, .inl (fun j => nI (wr j)))), (ax, .inr (3, [.ref ak, .ref ad, .ref ab, .ref ao, .ref aw])), (ak, .inr (0, [.ref k1, .ref k2, .int (nI n)])), (k1, .inl (cI, 8000, .inl (fun j => nI (g j)))), (k2, .inl (cI, 40, .inl (fun j => nI (z j))))]) (w1 := [(aw, .inr (2, [.ref w1])), (w1, .inl (cI, 204, .inl (fun j => nI (g3_29 j))))]) hP hD [6, 7] [0, 1, 2, 3, 4, 5] rfl rfl (by decide) (by decide) hkS hFc hP1 hD1
    generalize H1 = H at hP hS ⊢
    have hP : va_P (dC, dI) vwCl [(ao, .inr (1, [.ref o1, .int (nI wn)])), (o1, .inl (cI, 487, .inl (fun j => nI (wr j)))), (ax, .inr (3, [.ref ak, .ref ad, .ref ab, .ref ao, .ref aw])), (ak, .inr (0, [.ref k1, .ref k2, .int (nI n)])), (k1, .inl (cI, 8000, .inl (fun j => nI (g j)))), (k2, .inl (cI, 40, .inl (fun j => nI (z j)))), (aw, .inr (2, [.ref w1])), (w1, .inl (cI, 204, .inl (fun j => nI (g3_29 j))))] H := hP
    have hD : va_D A [(ao, .inr (1, [.ref o1, .int (nI wn)])), (o1, .inl (cI, 487, .inl (fun j => nI (wr j)))), (ax, .inr (3, [.ref ak, .ref ad, .ref ab, .ref ao, .ref aw])), (ak, .inr (0, [.ref k1, .ref k2, .int (nI n)])), (k1, .inl (cI, 8000, .inl (fun j => nI (g j)))), (k2, .inl (cI, 40, .inl (fun j => nI (z j)))), (aw, .inr (2, [.ref w1])), (w1, .inl (cI, 204, .inl (fun j => nI (g3_29 j))))] := hD
    have hN32 : (∀ j, g3_29 j < 256) ∧ bv g3_29 204 = (nval g z a).natAbs := (by first | exact ⟨h29.1, (pr_v h29.1 (ng_ex (nval_fit hg (hz a ha)) h16.2 h29) (by have := nv_neg hg (ite_s h10 c20); omega)).trans (Int.natAbs_neg _)⟩ | exact ⟨h16.1, pr_v h16.1 h16.2 (nv_pos (ite_r h10 c20))⟩)
    refine lv_aload_n hx hb dX3_print_32 rfl (lv_at hl 1 rfl) ?_
    refine va_get (D := (dC, dI)) (ci := 3) (v := .ref ao) (C := RX3) (T := TX3) (N := 5) hx hb hts hinX3 hown hK hP 2 rfl rfl 3 (by decide) (hts (.fieldLink RX3 28 "NumberContents" "written" "LNumberContents$Row;") (by decide +kernel)) (fun _ h9 => h9) rfl dX3_print_33 ?_
    have hPc := hP.sub (ws' := [(ao, .inr (1, [.ref o1, .int (nI wn)])), (o1, .inl (cI, 487, .inl (fun j => nI (wr j))))]) [0, 1] rfl
    have hKc := hK.sub (tys' := [(cI, .int)]) [0] rfl
    have hDc := hD.sub (ws' := [(ao, .inr (1, [.ref o1, .int (nI wn)])), (o1, .inl (cI, 487, .inl (fun j => nI (wr j))))]) [0, 1] (by decide) rfl
    have hFc := va_free (wc := [(ao, .inr (1, [.ref o1, .int (nI wn)])), (o1, .inl (cI, 487, .inl (fun j => nI (wr j))))]) hD hS hA [0, 1] rfl
    refine va_callv (va_runV (As := []) (rest := []) ⟨hx, hb, hml, hown, hts⟩ (c_X1_empty l dC dI cI ao o1 487 wn (fun j => nI (wr j)) H.size ) (cwV 0 hts gX3_print_X1_empty rfl rfl rfl (by decide +kernel) ⟨Nat.le_of_ble_eq_true rfl, Nat.le_of_ble_eq_true rfl⟩) ⟨fun a U g mk q => by obtain ⟨q0, q1, qP, qK, qD⟩ := q; exact ⟨q0, q1, qP, va_K.moved (u := U) (U := U.calling g mk a) (Vm.Alike.refl U.vm) qK, qD⟩, va_recv hKc hPc (ci := 1) (q0 := 0) rfl rfl, fun U hU hW => ⟨rfl, by rw [hU], by rw [hU]; exact hPc, va_K.moved hW.alike hKc, hDc.weaken (fun _ _ _ _ => trivial)⟩⟩ rfl rfl hl.1 rfl (lv_room (Nat.le_of_ble_eq_true rfl)) dX3_print_36 ⟨Nat.le_of_ble_eq_true rfl, Nat.le_of_ble_eq_true rfl⟩) hS (fun q _ h => hFc q h) hFc (fun uS tS H1 locs htS hvm h36 hB hzS hkS hS => ?_)
    obtain ⟨hP1, hK1, hD1⟩ := hB
    rw [htS] at hP1
    have hK1 := va_K.moved hvm.symm hK1
    try dsimp only at h36
    obtain ⟨hP, hD⟩ := va_join (wr := [(ax, .inr (3, [.ref ak, .ref ad, .ref ab, .ref ao, .ref aw])), (ak, .inr (0, [.ref k1, .ref k2, .int (nI n)])), (k1, .inl (cI, 8000, .inl (fun j => nI (g j)))), (k2, .inl (cI, 40, .inl (fun j => nI (z j)))), (aw, .inr (2, [.ref w1])), (w1, .inl (cI, 204, .inl (fun j => nI (g3_29 j))))]) (w1 := [(ao, .inr (1, [.ref o1, .int (nI 0)])), (o1, .inl (cI, 487, .inl (fun j => nI (wr j))))]) hP hD [0, 1] [2, 3, 4, 5, 6, 7] rfl rfl (by decide) (by decide) hkS hFc hP1 hD1
    generalize H1 = H at hP hS ⊢
    have hP : va_P (dC, dI) vwCl [(ax, .inr (3, [.ref ak, .ref ad, .ref ab, .ref ao, .ref aw])), (ak, .inr (0, [.ref k1, .ref k2, .int (nI n)])), (k1, .inl (cI, 8000, .inl (fun j => nI (g j)))), (k2, .inl (cI, 40, .inl (fun j => nI (z j)))), (aw, .inr (2, [.ref w1])), (w1, .inl (cI, 204, .inl (fun j => nI (g3_29 j)))), (ao, .inr (1, [.ref o1, .int (nI 0)])), (o1, .inl (cI, 487, .inl (fun j => nI (wr j))))] H := hP
    have hD : va_D A [(ax, .inr (3, [.ref ak, .ref ad, .ref ab, .ref ao, .ref aw])), (ak, .inr (0, [.ref k1, .ref k2, .int (nI n)])), (k1, .inl (cI, 8000, .inl (fun j => nI (g j)))), (k2, .inl (cI, 40, .inl (fun j => nI (z j)))), (aw, .inr (2, [.ref w1])), (w1, .inl (cI, 204, .inl (fun j => nI (g3_29 j)))), (ao, .inr (1, [.ref o1, .int (nI 0)])), (o1, .inl (cI, 487, .inl (fun j => nI (wr j))))] := hD
    refine lv_aload_n hx hb dX3_print_39 rfl (lv_at hl 1 rfl) ?_
    have hPc := hP.sub (ws' := [(ax, .inr (3, [.ref ak, .ref ad, .ref ab, .ref ao, .ref aw])), (ao, .inr (1, [.ref o1, .int (nI 0)])), (o1, .inl (cI, 487, .inl (fun j => nI (wr j)))), (aw, .inr (2, [.ref w1])), (w1, .inl (cI, 204, .inl (fun j => nI (g3_29 j))))]) [0, 6, 7, 4, 5] rfl
    have hKc := hK.sub (tys' := [(cI, .int)]) [0] rfl
    have hDc := hD.sub (ws' := [(ax, .inr (3, [.ref ak, .ref ad, .ref ab, .ref ao, .ref aw])), (ao, .inr (1, [.ref o1, .int (nI 0)])), (o1, .inl (cI, 487, .inl (fun j => nI (wr j)))), (aw, .inr (2, [.ref w1])), (w1, .inl (cI, 204, .inl (fun j => nI (g3_29 j))))]) [0, 6, 7, 4, 5] (by decide) rfl
    have hFc := va_free (wc := [(ax, .inr (3, [.ref ak, .ref ad, .ref ab, .ref ao, .ref aw])), (ao, .inr (1, [.ref o1, .int (nI 0)])), (o1, .inl (cI, 487, .inl (fun j => nI (wr j)))), (aw, .inr (2, [.ref w1])), (w1, .inl (cI, 204, .inl (fun j => nI (g3_29 j))))]) hD hS hA [0, 6, 7, 4, 5] rfl
    refine va_callv (va_runV (As := []) (rest := []) ⟨hx, hb, hml, hown, hts⟩ (c_X3_writeDigitsLowestFirst l dC dI cI ax ak ad ab ao aw o1 wr w1 g3_29 H.size hN32.1 hwr (by rw [hN32.2]; exact (na_lt (nval_fit hg (hz a ha))).1)) (cwV 0 hts gX3_print_X3_writeDigitsLowestFirst rfl rfl rfl (by decide +kernel) ⟨Nat.le_of_ble_eq_true rfl, Nat.le_of_ble_eq_true rfl⟩) ⟨fun a U g mk q => by obtain ⟨q0, q1, qP, qK, qD⟩ := q; exact ⟨q0, q1, qP, va_K.moved (u := U) (U := U.calling g mk a) (Vm.Alike.refl U.vm) qK, qD⟩, va_recv hKc hPc (ci := 3) (q0 := 0) rfl rfl, fun U hU hW => ⟨rfl, by rw [hU], by rw [hU]; exact hPc, va_K.moved hW.alike hKc, hDc.weaken (fun _ _ _ _ => trivial)⟩⟩ rfl rfl hl.1 rfl (lv_room (Nat.le_of_ble_eq_true rfl)) dX3_print_40 ⟨Nat.le_of_ble_eq_true rfl, Nat.le_of_ble_eq_true rfl⟩) hS (fun q _ h => hFc q h) hFc (fun uS tS H1 locs htS hvm h40 hB hzS hkS hS => ?_)
    obtain ⟨m9_40, w3_40, wr3_40⟩ := uS
    obtain ⟨hP1, hK1, hD1⟩ := hB
    rw [htS] at hP1
    have hK1 := va_K.moved hvm.symm hK1
    try dsimp only at h40
    obtain ⟨hP, hD⟩ := va_join (wr := [(ak, .inr (0, [.ref k1, .ref k2, .int (nI n)])), (k1, .inl (cI, 8000, .inl (fun j => nI (g j)))), (k2, .inl (cI, 40, .inl (fun j => nI (z j))))]) (w1 := [(ax, .inr (3, [.ref ak, .ref ad, .ref ab, .ref ao, .ref aw])), (ao, .inr (1, [.ref o1, .int (nI (9 * m9_40))])), (o1, .inl (cI, 487, .inl (fun j => nI (wr3_40 j)))), (aw, .inr (2, [.ref w1])), (w1, .inl (cI, 204, .inl (fun j => nI (w3_40 j))))]) hP hD [0, 6, 7, 4, 5] [1, 2, 3] rfl rfl (by decide) (by decide) hkS hFc hP1 hD1
    generalize H1 = H at hP hS ⊢
    have hP : va_P (dC, dI) vwCl [(ak, .inr (0, [.ref k1, .ref k2, .int (nI n)])), (k1, .inl (cI, 8000, .inl (fun j => nI (g j)))), (k2, .inl (cI, 40, .inl (fun j => nI (z j)))), (ax, .inr (3, [.ref ak, .ref ad, .ref ab, .ref ao, .ref aw])), (ao, .inr (1, [.ref o1, .int (nI (9 * m9_40))])), (o1, .inl (cI, 487, .inl (fun j => nI (wr3_40 j)))), (aw, .inr (2, [.ref w1])), (w1, .inl (cI, 204, .inl (fun j => nI (w3_40 j))))] H := hP
    have hD : va_D A [(ak, .inr (0, [.ref k1, .ref k2, .int (nI n)])), (k1, .inl (cI, 8000, .inl (fun j => nI (g j)))), (k2, .inl (cI, 40, .inl (fun j => nI (z j)))), (ax, .inr (3, [.ref ak, .ref ad, .ref ab, .ref ao, .ref aw])), (ao, .inr (1, [.ref o1, .int (nI (9 * m9_40))])), (o1, .inl (cI, 487, .inl (fun j => nI (wr3_40 j)))), (aw, .inr (2, [.ref w1])), (w1, .inl (cI, 204, .inl (fun j => nI (w3_40 j))))] := hD
    refine lv_aload_n hx hb dX3_print_43 rfl (lv_at hl 1 rfl) ?_
    refine va_get (D := (dC, dI)) (ci := 3) (v := .ref ao) (C := RX3) (T := TX3) (N := 5) hx hb hts hinX3 hown hK hP 3 rfl rfl 3 (by decide) (hts (.fieldLink RX3 28 "NumberContents" "written" "LNumberContents$Row;") (by decide +kernel)) (fun _ h9 => h9) rfl dX3_print_44 ?_
    refine lv_bipush (v := (nI 48)) hx hb dX3_print_47 (by decide) ?_
    have hPc := hP.sub (ws' := [(ao, .inr (1, [.ref o1, .int (nI (9 * m9_40))])), (o1, .inl (cI, 487, .inl (fun j => nI (wr3_40 j))))]) [4, 5] rfl
    have hKc := hK.sub (tys' := [(cI, .int)]) [0] rfl
    have hDc := hD.sub (ws' := [(ao, .inr (1, [.ref o1, .int (nI (9 * m9_40))])), (o1, .inl (cI, 487, .inl (fun j => nI (wr3_40 j))))]) [4, 5] (by decide) rfl
    have hFc := va_free (wc := [(ao, .inr (1, [.ref o1, .int (nI (9 * m9_40))])), (o1, .inl (cI, 487, .inl (fun j => nI (wr3_40 j))))]) hD hS hA [4, 5] rfl
    refine va_callv (va_runV (As := [.int (nI 48)]) (rest := []) ⟨hx, hb, hml, hown, hts⟩ (c_X1_dropFromEnd l dC dI cI ao o1 487 (9 * m9_40) (fun j => nI (wr3_40 j)) (nI 48) H.size (by have := h40.2.1; omega) (by omega)) (cwV 1 hts gX3_print_X1_dropFromEnd rfl rfl rfl (by decide +kernel) ⟨Nat.le_of_ble_eq_true rfl, Nat.le_of_ble_eq_true rfl⟩) ⟨fun a U g mk q => by obtain ⟨q0, q1, qP, qK, qD⟩ := q; exact ⟨q0, q1, qP, va_K.moved (u := U) (U := U.calling g mk a) (Vm.Alike.refl U.vm) qK, qD⟩, va_recv hKc hPc (ci := 1) (q0 := 0) rfl rfl, fun U hU hW => ⟨rfl, by rw [hU], by rw [hU]; exact hPc, va_K.moved hW.alike hKc, hDc.weaken (fun _ _ _ _ => trivial)⟩⟩ rfl rfl hl.1 rfl (lv_room (Nat.le_of_ble_eq_true rfl)) dX3_print_49 ⟨Nat.le_of_ble_eq_true rfl, Nat.le_of_ble_eq_true rfl⟩) hS (fun q _ h => hFc q h) hFc (fun uS tS H1 locs htS hvm h49 hB hzS hkS hS => ?_)
    obtain ⟨n2_49, rfl⟩ : ∃ z, z = uS := ⟨_, rfl⟩
    obtain ⟨hP1, hK1, hD1⟩ := hB
    rw [htS] at hP1
    have hK1 := va_K.moved hvm.symm hK1
    try dsimp only at h49
    obtain ⟨hP, hD⟩ := va_join (wr := [(ak, .inr (0, [.ref k1, .ref k2, .int (nI n)])), (k1, .inl (cI, 8000, .inl (fun j => nI (g j)))), (k2, .inl (cI, 40, .inl (fun j => nI (z j)))), (ax, .inr (3, [.ref ak, .ref ad, .ref ab, .ref ao, .ref aw])), (aw, .inr (2, [.ref w1])), (w1, .inl (cI, 204, .inl (fun j => nI (w3_40 j))))]) (w1 := [(ao, .inr (1, [.ref o1, .int (nI n2_49)])), (o1, .inl (cI, 487, .inl (fun j => nI (wr3_40 j))))]) hP hD [4, 5] [0, 1, 2, 3, 6, 7] rfl rfl (by decide) (by decide) hkS hFc hP1 hD1
    generalize H1 = H at hP hS ⊢
    have hP : va_P (dC, dI) vwCl [(ak, .inr (0, [.ref k1, .ref k2, .int (nI n)])), (k1, .inl (cI, 8000, .inl (fun j => nI (g j)))), (k2, .inl (cI, 40, .inl (fun j => nI (z j)))), (ax, .inr (3, [.ref ak, .ref ad, .ref ab, .ref ao, .ref aw])), (aw, .inr (2, [.ref w1])), (w1, .inl (cI, 204, .inl (fun j => nI (w3_40 j)))), (ao, .inr (1, [.ref o1, .int (nI n2_49)])), (o1, .inl (cI, 487, .inl (fun j => nI (wr3_40 j))))] H := hP
    have hD : va_D A [(ak, .inr (0, [.ref k1, .ref k2, .int (nI n)])), (k1, .inl (cI, 8000, .inl (fun j => nI (g j)))), (k2, .inl (cI, 40, .inl (fun j => nI (z j)))), (ax, .inr (3, [.ref ak, .ref ad, .ref ab, .ref ao, .ref aw])), (aw, .inr (2, [.ref w1])), (w1, .inl (cI, 204, .inl (fun j => nI (w3_40 j)))), (ao, .inr (1, [.ref o1, .int (nI n2_49)])), (o1, .inl (cI, 487, .inl (fun j => nI (wr3_40 j))))] := hD
    have hd52 := pr_d h40.2.2.2.1 h40.1 h40.2.1 h40.2.2.2.2.1 h40.2.2.2.2.2 h49
    rw [hN32.2] at hd52
    refine lv_iload_n hx hb dX3_print_52 rfl (lv_at hl 0 rfl) ?_
    refine lv_if_eq (tgt := 65) hx hb dX3_print_53 (by decide) (fun c53 => ?_) (fun c53 => ?_)
    · refine lv_aload_n hx hb dX3_print_65 rfl (lv_at hl 1 rfl) ?_
      refine va_get (D := (dC, dI)) (ci := 3) (v := .ref ao) (C := RX3) (T := TX3) (N := 5) hx hb hts hinX3 hown hK hP 3 rfl rfl 3 (by decide) (hts (.fieldLink RX3 28 "NumberContents" "written" "LNumberContents$Row;") (by decide +kernel)) (fun _ h9 => h9) rfl dX3_print_66 ?_
      have hPc := hP.sub (ws' := [(ao, .inr (1, [.ref o1, .int (nI n2_49)])), (o1, .inl (cI, 487, .inl (fun j => nI (wr3_40 j))))]) [6, 7] rfl
      have hKc := hK.sub (tys' := [(cI, .int)]) [0] rfl
      have hDc := hD.sub (ws' := [(ao, .inr (1, [.ref o1, .int (nI n2_49)])), (o1, .inl (cI, 487, .inl (fun j => nI (wr3_40 j))))]) [6, 7] (by decide) rfl
      have hFc := va_free (wc := [(ao, .inr (1, [.ref o1, .int (nI n2_49)])), (o1, .inl (cI, 487, .inl (fun j => nI (wr3_40 j))))]) hD hS hA [6, 7] rfl
      refine va_callv (va_runV (As := []) (rest := []) ⟨hx, hb, hml, hown, hts⟩ (c_X1_reverseg l dC dI cI ao o1 487 n2_49 wr3_40 H.size (by have := hd52.2.1; omega) (by omega)) (cwV 0 hts gX3_print_X1_reverse rfl rfl rfl (by decide +kernel) ⟨Nat.le_of_ble_eq_true rfl, Nat.le_of_ble_eq_true rfl⟩) ⟨fun a U g mk q => by obtain ⟨q0, q1, qP, qK, qD⟩ := q; exact ⟨q0, q1, qP, va_K.moved (u := U) (U := U.calling g mk a) (Vm.Alike.refl U.vm) qK, qD⟩, va_recv hKc hPc (ci := 1) (q0 := 0) rfl rfl, fun U hU hW => ⟨rfl, by rw [hU], by rw [hU]; exact hPc, va_K.moved hW.alike hKc, hDc.weaken (fun _ _ _ _ => trivial)⟩⟩ rfl rfl hl.1 rfl (lv_room (Nat.le_of_ble_eq_true rfl)) dX3_print_69 ⟨Nat.le_of_ble_eq_true rfl, Nat.le_of_ble_eq_true rfl⟩) hS (fun q _ h => hFc q h) hFc (fun uS tS H1 locs htS hvm h69 hB hzS hkS hS => ?_)
      obtain ⟨g2_69, rfl⟩ : ∃ z, z = uS := ⟨_, rfl⟩
      obtain ⟨hP1, hK1, hD1⟩ := hB
      rw [htS] at hP1
      have hK1 := va_K.moved hvm.symm hK1
      try dsimp only at h69
      obtain ⟨hP, hD⟩ := va_join (wr := [(ak, .inr (0, [.ref k1, .ref k2, .int (nI n)])), (k1, .inl (cI, 8000, .inl (fun j => nI (g j)))), (k2, .inl (cI, 40, .inl (fun j => nI (z j)))), (ax, .inr (3, [.ref ak, .ref ad, .ref ab, .ref ao, .ref aw])), (aw, .inr (2, [.ref w1])), (w1, .inl (cI, 204, .inl (fun j => nI (w3_40 j))))]) (w1 := [(ao, .inr (1, [.ref o1, .int (nI n2_49)])), (o1, .inl (cI, 487, .inl (fun j => nI (g2_69 j))))]) hP hD [6, 7] [0, 1, 2, 3, 4, 5] rfl rfl (by decide) (by decide) hkS hFc hP1 hD1
      generalize H1 = H at hP hS ⊢
      have hP : va_P (dC, dI) vwCl [(ak, .inr (0, [.ref k1, .ref k2, .int (nI n)])), (k1, .inl (cI, 8000, .inl (fun j => nI (g j)))), (k2, .inl (cI, 40, .inl (fun j => nI (z j)))), (ax, .inr (3, [.ref ak, .ref ad, .ref ab, .ref ao, .ref aw])), (aw, .inr (2, [.ref w1])), (w1, .inl (cI, 204, .inl (fun j => nI (w3_40 j)))), (ao, .inr (1, [.ref o1, .int (nI n2_49)])), (o1, .inl (cI, 487, .inl (fun j => nI (g2_69 j))))] H := hP
      have hD : va_D A [(ak, .inr (0, [.ref k1, .ref k2, .int (nI n)])), (k1, .inl (cI, 8000, .inl (fun j => nI (g j)))), (k2, .inl (cI, 40, .inl (fun j => nI (z j)))), (ax, .inr (3, [.ref ak, .ref ad, .ref ab, .ref ao, .ref aw])), (aw, .inr (2, [.ref w1])), (w1, .inl (cI, 204, .inl (fun j => nI (w3_40 j)))), (ao, .inr (1, [.ref o1, .int (nI n2_49)])), (o1, .inl (cI, 487, .inl (fun j => nI (g2_69 j))))] := hD
      refine lv_aload_n hx hb dX3_print_72 rfl (lv_at hl 1 rfl) ?_
      refine va_get (D := (dC, dI)) (ci := 3) (v := .ref ao) (C := RX3) (T := TX3) (N := 5) hx hb hts hinX3 hown hK hP 3 rfl rfl 3 (by decide) (hts (.fieldLink RX3 28 "NumberContents" "written" "LNumberContents$Row;") (by decide +kernel)) (fun _ h9 => h9) rfl dX3_print_73 ?_
      have hPc := hP.sub (ws' := [(ao, .inr (1, [.ref o1, .int (nI n2_49)])), (o1, .inl (cI, 487, .inl (fun j => nI (g2_69 j))))]) [6, 7] rfl
      have hKc := hK.sub (tys' := [(cI, .int)]) [0] rfl
      refine vp_callSi (W.runV (As := []) (rest := []) ⟨hx, hb, hml, hown, hts⟩ (c_X1_length l dC dI cI ao o1 487 n2_49 (fun j => nI (g2_69 j)) ) (cwV 0 hts gX3_print_X1_length rfl rfl rfl (by decide +kernel) ⟨Nat.le_of_ble_eq_true rfl, Nat.le_of_ble_eq_true rfl⟩) ⟨fun a U g mk q => by obtain ⟨q0, qP, qK⟩ := q; exact ⟨q0, qP, va_K.moved (u := U) (U := U.calling g mk a) (Vm.Alike.refl U.vm) qK⟩, va_recv hK hP (ci := 1) (q0 := 6) rfl rfl, fun U hU hW => ⟨rfl, by rw [hU]; exact hPc, va_K.moved hW.alike hKc⟩⟩ rfl rfl hl.1 rfl (lv_room (Nat.le_of_ble_eq_true rfl)) dX3_print_76 ⟨Nat.le_of_ble_eq_true rfl, Nat.le_of_ble_eq_true rfl⟩) (fun r76 h76 => ?_)
      have hP9 := hP.sub (ws' := [(ax, .inr (3, [.ref ak, .ref ad, .ref ab, .ref ao, .ref aw])), (ak, .inr (0, [.ref k1, .ref k2, .int (nI n)])), (k1, .inl (cI, 8000, .inl (fun j => nI (g j)))), (k2, .inl (cI, 40, .inl (fun j => nI (z j)))), (ao, .inr (1, [.ref o1, .int (nI n2_49)])), (o1, .inl (cI, 487, .inl (fun j => nI (g2_69 j)))), (aw, .inr (2, [.ref w1])), (w1, .inl (cI, 204, .inl (fun j => nI (w3_40 j))))]) [3, 0, 1, 2, 6, 7, 4, 5] rfl
      have hD9 := hD.sub (ws' := [(ax, .inr (3, [.ref ak, .ref ad, .ref ab, .ref ao, .ref aw])), (ak, .inr (0, [.ref k1, .ref k2, .int (nI n)])), (k1, .inl (cI, 8000, .inl (fun j => nI (g j)))), (k2, .inl (cI, 40, .inl (fun j => nI (z j)))), (ao, .inr (1, [.ref o1, .int (nI n2_49)])), (o1, .inl (cI, 487, .inl (fun j => nI (g2_69 j)))), (aw, .inr (2, [.ref w1])), (w1, .inl (cI, 204, .inl (fun j => nI (w3_40 j))))]) [3, 0, 1, 2, 6, 7, 4, 5] (by decide) rfl
      have hK9 := hK.sub (tys' := [(cI, .int)]) [0] rfl
      exact vx_ret (W.widen (k := 1) (n := 6) (by omega) (by omega) (W.iret (v := r76) hx hb hr (fun tS htS hW => ⟨⟨r76, (n2_49, g2_69, w3_40), rfl, (by first | exact absurd c20 c53 | exact absurd c53 c20 | exact ⟨h40.2.2.1, rv_lt h40.2.2.2.1 h69, a, rfl, ha, h76, pr_e0 (nv_pos (ite_r h10 c20)) hd52 h69⟩ | exact ⟨h40.2.2.1, rv_lt (up_lt h40.2.2.2.1 (by decide)) h69, a, rfl, ha, h76, pr_e1 (nv_neg hg (ite_s h10 c20)) hd52 h69⟩), by rw [htS]; exact hP9, va_K.moved hW.alike hK9, hD9⟩, hS.F htS⟩) hS.2.2 dX3_print_79))
    · refine lv_aload_n hx hb dX3_print_56 rfl (lv_at hl 1 rfl) ?_
      refine va_get (D := (dC, dI)) (ci := 3) (v := .ref ao) (C := RX3) (T := TX3) (N := 5) hx hb hts hinX3 hown hK hP 3 rfl rfl 3 (by decide) (hts (.fieldLink RX3 28 "NumberContents" "written" "LNumberContents$Row;") (by decide +kernel)) (fun _ h9 => h9) rfl dX3_print_57 ?_
      refine lv_bipush (v := (nI 45)) hx hb dX3_print_60 (by decide) ?_
      have hPc := hP.sub (ws' := [(ao, .inr (1, [.ref o1, .int (nI n2_49)])), (o1, .inl (cI, 487, .inl (fun j => nI (wr3_40 j))))]) [6, 7] rfl
      have hKc := hK.sub (tys' := [(cI, .int)]) [0] rfl
      have hDc := hD.sub (ws' := [(ao, .inr (1, [.ref o1, .int (nI n2_49)])), (o1, .inl (cI, 487, .inl (fun j => nI (wr3_40 j))))]) [6, 7] (by decide) rfl
      have hFc := va_free (wc := [(ao, .inr (1, [.ref o1, .int (nI n2_49)])), (o1, .inl (cI, 487, .inl (fun j => nI (wr3_40 j))))]) hD hS hA [6, 7] rfl
      refine va_callv (va_runV (As := [.int (nI 45)]) (rest := []) ⟨hx, hb, hml, hown, hts⟩ (c_X1_addg l dC dI cI ao o1 487 n2_49 wr3_40 45 H.size (by have := hd52.2.1; omega) (by omega)) (cwV 1 hts gX3_print_X1_add rfl rfl rfl (by decide +kernel) ⟨Nat.le_of_ble_eq_true rfl, Nat.le_of_ble_eq_true rfl⟩) ⟨fun a U g mk q => by obtain ⟨q0, q1, qP, qK, qD⟩ := q; exact ⟨q0, q1, qP, va_K.moved (u := U) (U := U.calling g mk a) (Vm.Alike.refl U.vm) qK, qD⟩, va_recv hKc hPc (ci := 1) (q0 := 0) rfl rfl, fun U hU hW => ⟨rfl, by rw [hU], by rw [hU]; exact hPc, va_K.moved hW.alike hKc, hDc.weaken (fun _ _ _ _ => trivial)⟩⟩ rfl rfl hl.1 rfl (lv_room (Nat.le_of_ble_eq_true rfl)) dX3_print_62 ⟨Nat.le_of_ble_eq_true rfl, Nat.le_of_ble_eq_true rfl⟩) hS (fun q _ h => hFc q h) hFc (fun uS tS H1 locs htS hvm h62 hB hzS hkS hS => ?_)
      obtain ⟨hP1, hK1, hD1⟩ := hB
      rw [htS] at hP1
      have hK1 := va_K.moved hvm.symm hK1
      try dsimp only at h62
      obtain ⟨hP, hD⟩ := va_join (wr := [(ak, .inr (0, [.ref k1, .ref k2, .int (nI n)])), (k1, .inl (cI, 8000, .inl (fun j => nI (g j)))), (k2, .inl (cI, 40, .inl (fun j => nI (z j)))), (ax, .inr (3, [.ref ak, .ref ad, .ref ab, .ref ao, .ref aw])), (aw, .inr (2, [.ref w1])), (w1, .inl (cI, 204, .inl (fun j => nI (w3_40 j))))]) (w1 := [(ao, .inr (1, [.ref o1, .int (nI (n2_49 + 1))])), (o1, .inl (cI, 487, .inl (fun j => nI (va_up wr3_40 n2_49 45 j))))]) hP hD [6, 7] [0, 1, 2, 3, 4, 5] rfl rfl (by decide) (by decide) hkS hFc hP1 hD1
      generalize H1 = H at hP hS ⊢
      have hP : va_P (dC, dI) vwCl [(ak, .inr (0, [.ref k1, .ref k2, .int (nI n)])), (k1, .inl (cI, 8000, .inl (fun j => nI (g j)))), (k2, .inl (cI, 40, .inl (fun j => nI (z j)))), (ax, .inr (3, [.ref ak, .ref ad, .ref ab, .ref ao, .ref aw])), (aw, .inr (2, [.ref w1])), (w1, .inl (cI, 204, .inl (fun j => nI (w3_40 j)))), (ao, .inr (1, [.ref o1, .int (nI (n2_49 + 1))])), (o1, .inl (cI, 487, .inl (fun j => nI (va_up wr3_40 n2_49 45 j))))] H := hP
      have hD : va_D A [(ak, .inr (0, [.ref k1, .ref k2, .int (nI n)])), (k1, .inl (cI, 8000, .inl (fun j => nI (g j)))), (k2, .inl (cI, 40, .inl (fun j => nI (z j)))), (ax, .inr (3, [.ref ak, .ref ad, .ref ab, .ref ao, .ref aw])), (aw, .inr (2, [.ref w1])), (w1, .inl (cI, 204, .inl (fun j => nI (w3_40 j)))), (ao, .inr (1, [.ref o1, .int (nI (n2_49 + 1))])), (o1, .inl (cI, 487, .inl (fun j => nI (va_up wr3_40 n2_49 45 j))))] := hD
      refine lv_aload_n hx hb dX3_print_65 rfl (lv_at hl 1 rfl) ?_
      refine va_get (D := (dC, dI)) (ci := 3) (v := .ref ao) (C := RX3) (T := TX3) (N := 5) hx hb hts hinX3 hown hK hP 3 rfl rfl 3 (by decide) (hts (.fieldLink RX3 28 "NumberContents" "written" "LNumberContents$Row;") (by decide +kernel)) (fun _ h9 => h9) rfl dX3_print_66 ?_
      have hPc := hP.sub (ws' := [(ao, .inr (1, [.ref o1, .int (nI (n2_49 + 1))])), (o1, .inl (cI, 487, .inl (fun j => nI ((va_up wr3_40 n2_49 45) j))))]) [6, 7] rfl
      have hKc := hK.sub (tys' := [(cI, .int)]) [0] rfl
      have hDc := hD.sub (ws' := [(ao, .inr (1, [.ref o1, .int (nI (n2_49 + 1))])), (o1, .inl (cI, 487, .inl (fun j => nI ((va_up wr3_40 n2_49 45) j))))]) [6, 7] (by decide) rfl
      have hFc := va_free (wc := [(ao, .inr (1, [.ref o1, .int (nI (n2_49 + 1))])), (o1, .inl (cI, 487, .inl (fun j => nI ((va_up wr3_40 n2_49 45) j))))]) hD hS hA [6, 7] rfl
      refine va_callv (va_runV (As := []) (rest := []) ⟨hx, hb, hml, hown, hts⟩ (c_X1_reverseg l dC dI cI ao o1 487 (n2_49 + 1) (va_up wr3_40 n2_49 45) H.size (by have := hd52.2.1; omega) (by omega)) (cwV 0 hts gX3_print_X1_reverse rfl rfl rfl (by decide +kernel) ⟨Nat.le_of_ble_eq_true rfl, Nat.le_of_ble_eq_true rfl⟩) ⟨fun a U g mk q => by obtain ⟨q0, q1, qP, qK, qD⟩ := q; exact ⟨q0, q1, qP, va_K.moved (u := U) (U := U.calling g mk a) (Vm.Alike.refl U.vm) qK, qD⟩, va_recv hKc hPc (ci := 1) (q0 := 0) rfl rfl, fun U hU hW => ⟨rfl, by rw [hU], by rw [hU]; exact hPc, va_K.moved hW.alike hKc, hDc.weaken (fun _ _ _ _ => trivial)⟩⟩ rfl rfl hl.1 rfl (lv_room (Nat.le_of_ble_eq_true rfl)) dX3_print_69 ⟨Nat.le_of_ble_eq_true rfl, Nat.le_of_ble_eq_true rfl⟩) hS (fun q _ h => hFc q h) hFc (fun uS tS H1 locs htS hvm h69 hB hzS hkS hS => ?_)
      obtain ⟨g2_69, rfl⟩ : ∃ z, z = uS := ⟨_, rfl⟩
      obtain ⟨hP1, hK1, hD1⟩ := hB
      rw [htS] at hP1
      have hK1 := va_K.moved hvm.symm hK1
      try dsimp only at h69
      obtain ⟨hP, hD⟩ := va_join (wr := [(ak, .inr (0, [.ref k1, .ref k2, .int (nI n)])), (k1, .inl (cI, 8000, .inl (fun j => nI (g j)))), (k2, .inl (cI, 40, .inl (fun j => nI (z j)))), (ax, .inr (3, [.ref ak, .ref ad, .ref ab, .ref ao, .ref aw])), (aw, .inr (2, [.ref w1])), (w1, .inl (cI, 204, .inl (fun j => nI (w3_40 j))))]) (w1 := [(ao, .inr (1, [.ref o1, .int (nI (n2_49 + 1))])), (o1, .inl (cI, 487, .inl (fun j => nI (g2_69 j))))]) hP hD [6, 7] [0, 1, 2, 3, 4, 5] rfl rfl (by decide) (by decide) hkS hFc hP1 hD1
      generalize H1 = H at hP hS ⊢
      have hP : va_P (dC, dI) vwCl [(ak, .inr (0, [.ref k1, .ref k2, .int (nI n)])), (k1, .inl (cI, 8000, .inl (fun j => nI (g j)))), (k2, .inl (cI, 40, .inl (fun j => nI (z j)))), (ax, .inr (3, [.ref ak, .ref ad, .ref ab, .ref ao, .ref aw])), (aw, .inr (2, [.ref w1])), (w1, .inl (cI, 204, .inl (fun j => nI (w3_40 j)))), (ao, .inr (1, [.ref o1, .int (nI (n2_49 + 1))])), (o1, .inl (cI, 487, .inl (fun j => nI (g2_69 j))))] H := hP
      have hD : va_D A [(ak, .inr (0, [.ref k1, .ref k2, .int (nI n)])), (k1, .inl (cI, 8000, .inl (fun j => nI (g j)))), (k2, .inl (cI, 40, .inl (fun j => nI (z j)))), (ax, .inr (3, [.ref ak, .ref ad, .ref ab, .ref ao, .ref aw])), (aw, .inr (2, [.ref w1])), (w1, .inl (cI, 204, .inl (fun j => nI (w3_40 j)))), (ao, .inr (1, [.ref o1, .int (nI (n2_49 + 1))])), (o1, .inl (cI, 487, .inl (fun j => nI (g2_69 j))))] := hD
      refine lv_aload_n hx hb dX3_print_72 rfl (lv_at hl 1 rfl) ?_
      refine va_get (D := (dC, dI)) (ci := 3) (v := .ref ao) (C := RX3) (T := TX3) (N := 5) hx hb hts hinX3 hown hK hP 3 rfl rfl 3 (by decide) (hts (.fieldLink RX3 28 "NumberContents" "written" "LNumberContents$Row;") (by decide +kernel)) (fun _ h9 => h9) rfl dX3_print_73 ?_
      have hPc := hP.sub (ws' := [(ao, .inr (1, [.ref o1, .int (nI (n2_49 + 1))])), (o1, .inl (cI, 487, .inl (fun j => nI (g2_69 j))))]) [6, 7] rfl
      have hKc := hK.sub (tys' := [(cI, .int)]) [0] rfl
      refine vp_callSi (W.runV (As := []) (rest := []) ⟨hx, hb, hml, hown, hts⟩ (c_X1_length l dC dI cI ao o1 487 (n2_49 + 1) (fun j => nI (g2_69 j)) ) (cwV 0 hts gX3_print_X1_length rfl rfl rfl (by decide +kernel) ⟨Nat.le_of_ble_eq_true rfl, Nat.le_of_ble_eq_true rfl⟩) ⟨fun a U g mk q => by obtain ⟨q0, qP, qK⟩ := q; exact ⟨q0, qP, va_K.moved (u := U) (U := U.calling g mk a) (Vm.Alike.refl U.vm) qK⟩, va_recv hK hP (ci := 1) (q0 := 6) rfl rfl, fun U hU hW => ⟨rfl, by rw [hU]; exact hPc, va_K.moved hW.alike hKc⟩⟩ rfl rfl hl.1 rfl (lv_room (Nat.le_of_ble_eq_true rfl)) dX3_print_76 ⟨Nat.le_of_ble_eq_true rfl, Nat.le_of_ble_eq_true rfl⟩) (fun r76 h76 => ?_)
      have hP9 := hP.sub (ws' := [(ax, .inr (3, [.ref ak, .ref ad, .ref ab, .ref ao, .ref aw])), (ak, .inr (0, [.ref k1, .ref k2, .int (nI n)])), (k1, .inl (cI, 8000, .inl (fun j => nI (g j)))), (k2, .inl (cI, 40, .inl (fun j => nI (z j)))), (ao, .inr (1, [.ref o1, .int (nI (n2_49 + 1))])), (o1, .inl (cI, 487, .inl (fun j => nI (g2_69 j)))), (aw, .inr (2, [.ref w1])), (w1, .inl (cI, 204, .inl (fun j => nI (w3_40 j))))]) [3, 0, 1, 2, 6, 7, 4, 5] rfl
      have hD9 := hD.sub (ws' := [(ax, .inr (3, [.ref ak, .ref ad, .ref ab, .ref ao, .ref aw])), (ak, .inr (0, [.ref k1, .ref k2, .int (nI n)])), (k1, .inl (cI, 8000, .inl (fun j => nI (g j)))), (k2, .inl (cI, 40, .inl (fun j => nI (z j)))), (ao, .inr (1, [.ref o1, .int (nI (n2_49 + 1))])), (o1, .inl (cI, 487, .inl (fun j => nI (g2_69 j)))), (aw, .inr (2, [.ref w1])), (w1, .inl (cI, 204, .inl (fun j => nI (w3_40 j))))]) [3, 0, 1, 2, 6, 7, 4, 5] (by decide) rfl
      have hK9 := hK.sub (tys' := [(cI, .int)]) [0] rfl
      exact vx_ret (W.widen (k := 1) (n := 6) (by omega) (by omega) (W.iret (v := r76) hx hb hr (fun tS htS hW => ⟨⟨r76, ((n2_49 + 1), g2_69, w3_40), rfl, (by first | exact absurd c20 c53 | exact absurd c53 c20 | exact ⟨h40.2.2.1, rv_lt h40.2.2.2.1 h69, a, rfl, ha, h76, pr_e0 (nv_pos (ite_r h10 c20)) hd52 h69⟩ | exact ⟨h40.2.2.1, rv_lt (up_lt h40.2.2.2.1 (by decide)) h69, a, rfl, ha, h76, pr_e1 (nv_neg hg (ite_s h10 c20)) hd52 h69⟩), by rw [htS]; exact hP9, va_K.moved hW.alike hK9, hD9⟩, hS.F htS⟩) hS.2.2 dX3_print_79))

def GP (N wn : Nat) (wr : Nat → Nat) : Prop := 1 ≤ wn ∧ wn ≤ 229 ∧ N < 128 ^ wn ∧ (wn = 1 ∨ 128 ^ (wn - 1) ≤ N) ∧ ∀ j, j < wn → wr j = N / 128 ^ (wn - 1 - j) % 128 + (if j = wn - 1 then 0 else 128)
theorem bv_split (w : Nat → Nat) (i d : Nat) : bv w (i + d) = bv w i + 256 ^ i * bv (fun j => w (i + j)) d := by
  induction d with
  | zero => show bv w i = bv w i + 256 ^ i * 0; omega
  | succ d ih =>
    rw [← Nat.add_assoc, bv_s, ih, bv_s, Nat.pow_add]
    generalize 256 ^ i = P
    generalize 256 ^ d = Q
    grind
theorem p128 (k : Nat) : 128 ^ k = 256 ^ (7 * k / 8) * 2 ^ (7 * k % 8) := by
  rw [show (128 : Nat) = 2 ^ 7 from by decide, show (256 : Nat) = 2 ^ 8 from by decide, ← Nat.pow_mul, ← Nat.pow_mul, ← Nat.pow_add]
  congr 1
  omega
theorem sb_bits {w : Nat → Nat} {k : Nat} (hw : ∀ j, w j < 256) (hk : k < 230) : (w (7 * k / 8) + w (7 * k / 8 + 1) * 2 ^ 8) / 2 ^ (7 * k % 8) % 2 ^ 7 = bv w 204 / 128 ^ k % 128 := by
  have hs : 7 * k % 8 < 8 := Nat.mod_lt _ (by decide)
  have hi : 7 * k / 8 + 2 ≤ 204 := by omega
  rw [p128]
  generalize 7 * k / 8 = i at *
  generalize 7 * k % 8 = s at *
  obtain ⟨d, hd⟩ : ∃ d, 204 = i + (d + 1 + 1) := ⟨204 - i - 2, by omega⟩
  rw [hd, bv_split, bv_cons, bv_cons, ← Nat.div_div_eq_div_mul]
  have hl := bv_lt hw i
  rw [Nat.add_mul_div_left _ _ (pw_pos i), Nat.div_eq_of_lt hl, Nat.zero_add]
  show _ = (w i + 256 * (w (i + 1) + 256 * bv (fun j => w (i + (j + 1 + 1))) d)) / 2 ^ s % 128
  generalize bv (fun j => w (i + (j + 1 + 1))) d = T
  generalize w i = a
  generalize w (i + 1) = b
  rcases (show s = 0 ∨ s = 1 ∨ s = 2 ∨ s = 3 ∨ s = 4 ∨ s = 5 ∨ s = 6 ∨ s = 7 by omega) with rfl | rfl | rfl | rfl | rfl | rfl | rfl | rfl <;> simp only [Nat.reducePow] <;> omega
theorem gp_d {N k : Nat} {wr : Nat → Nat} (hb : ∀ j, wr j < 256) (hN : N < 128 ^ 229) (hd : ∀ j, j < 229 → wr j = N / 128 ^ j % 128 + (if j = 0 then 0 else 128))
    (h : k ≤ 229 ∧ (1 ≤ 229 → 1 ≤ k) ∧ (∀ j, k ≤ j → j < 229 → (fun j => nI (wr j)) j = nI 128) ∧ (k ≤ 1 ∨ (fun j => nI (wr j)) (k - 1) ≠ nI 128)) :
    1 ≤ k ∧ k ≤ 229 ∧ N < 128 ^ k ∧ (k = 1 ∨ 128 ^ (k - 1) ≤ N) ∧ ∀ j, j < k → wr j = N / 128 ^ j % 128 + (if j = 0 then 0 else 128) := by
  obtain ⟨h1, h2, h3, h4⟩ := h
  have k1 := h2 (by omega)
  refine ⟨k1, h1, dz_lt (by decide) 229 h1 hN (fun j a b => ?_), ?_, fun j hj => hd j (by omega)⟩
  · have e := nI_inj (hb j) (by decide) (h3 j a b)
    have e2 := hd j b
    rw [if_neg (by omega)] at e2
    omega
  · rcases h4 with h4 | h4
    · exact Or.inl (by omega)
    · by_cases hk : k = 1
      · exact Or.inl hk
      · refine Or.inr (dz_ge (fun z => h4 ?_))
        show nI (wr (k - 1)) = nI 128
        rw [hd (k - 1) (by omega), z, if_neg (by omega)]
theorem gp_e {N k : Nat} {wr g2 : Nat → Nat} (h : 1 ≤ k ∧ k ≤ 229 ∧ N < 128 ^ k ∧ (k = 1 ∨ 128 ^ (k - 1) ≤ N) ∧ ∀ j, j < k → wr j = N / 128 ^ j % 128 + (if j = 0 then 0 else 128))
    (h2 : (∀ j, j < k → g2 j = wr (k - 1 - j)) ∧ (∀ j, k ≤ j → g2 j = wr j)) : GP N k g2 := by
  obtain ⟨a, b, c, d, e⟩ := h
  refine ⟨a, b, c, d, fun j hj => ?_⟩
  rw [h2.1 j hj, e _ (by omega)]
  by_cases hk : j = k - 1
  · rw [if_pos hk, if_pos (by omega)]
  · rw [if_neg hk, if_neg (by omega)]

theorem gl_step {N k x : Nat} {wr2 : Nat → Nat} (hd : ∀ j, j < k → wr2 j = N / 128 ^ j % 128 + (if j = 0 then 0 else 128)) (hx : x = N / 128 ^ k % 128 + (if k = 0 then 0 else 128)) :
    ∀ j, j < k + 1 → va_up wr2 k x j = N / 128 ^ j % 128 + (if j = 0 then 0 else 128) := by
  intro j hj
  by_cases e : j = k
  · subst e; rw [va_up_self, hx]
  · rw [va_up_ne _ _ e]; exact hd j (by omega)

set_option maxHeartbeats 4000000 in
set_option maxRecDepth 100000 in
theorem c_X3_groups (l : Launch) (hl9 : l.stackTraces = false) (dC : Nat → ClassId) (dI : Nat → Nat → Nat) (cI : ClassId) (ax ak ad ab ao aw : Nat) (k1 k2 n : Nat) (g z : Nat → Nat) (o1 wn : Nat) (wr : Nat → Nat) (w1 : Nat) (w : Nat → Nat) (a9 : Int32) (sz : Nat) (hI : XK n g z) (hwn : wn ≤ 487) (hwr : ∀ j, wr j < 256) (hw : ∀ j, w j < 256) : vx_Met l yX3_groups wsX3_groups ({ frames := 7, cells := 2, slots := 12, locals := 113 } : Room) (va_Pc [.ref ax, .int a9] (fun U => U.heap.size = sz ∧ va_P (dC, dI) vwCl [(ax, .inr (3, [.ref ak, .ref ad, .ref ab, .ref ao, .ref aw])), (ak, .inr (0, [.ref k1, .ref k2, .int (nI n)])), (k1, .inl (cI, 8000, .inl (fun j => nI (g j)))), (k2, .inl (cI, 40, .inl (fun j => nI (z j)))), (ao, .inr (1, [.ref o1, .int (nI wn)])), (o1, .inl (cI, 487, .inl (fun j => nI (wr j)))), (aw, .inr (2, [.ref w1])), (w1, .inl (cI, 204, .inl (fun j => nI (w j))))] U.heap ∧ va_K (dC, dI) vwCl [(cI, .int)] U ∧ va_D (fun _ => True) [(ax, .inr (3, [.ref ak, .ref ad, .ref ab, .ref ao, .ref aw])), (ak, .inr (0, [.ref k1, .ref k2, .int (nI n)])), (k1, .inl (cI, 8000, .inl (fun j => nI (g j)))), (k2, .inl (cI, 40, .inl (fun j => nI (z j)))), (ao, .inr (1, [.ref o1, .int (nI wn)])), (o1, .inl (cI, 487, .inl (fun j => nI (wr j)))), (aw, .inr (2, [.ref w1])), (w1, .inl (cI, 204, .inl (fun j => nI (w j))))] ∧ tz (va_A [(ax, .inr (3, [.ref ak, .ref ad, .ref ab, .ref ao, .ref aw])), (ak, .inr (0, [.ref k1, .ref k2, .int (nI n)])), (k1, .inl (cI, 8000, .inl (fun j => nI (g j)))), (k2, .inl (cI, 40, .inl (fun j => nI (z j)))), (ao, .inr (1, [.ref o1, .int (nI wn)])), (o1, .inl (cI, 487, .inl (fun j => nI (wr j)))), (aw, .inr (2, [.ref w1])), (w1, .inl (cI, 204, .inl (fun j => nI (w j))))] sz) U U.heap ∧ tw U)) (va_Qi (fun (r : Int32) (uS : Nat × (Nat → Nat) × (Nat → Nat)) => match uS with | (wn3, wr3, w3) => (∀ j, w3 j < 256) ∧ (∀ j, wr3 j < 256) ∧ ∃ aA, a9 = nI aA ∧ aA < n ∧ 0 ≤ nval g z aA ∧ r = nI wn3 ∧ GP (nval g z aA).natAbs wn3 wr3) (fun (uS : Nat × (Nat → Nat) × (Nat → Nat)) (tS : State) => match uS with | (wn3, wr3, w3) => va_P (dC, dI) vwCl [(ax, .inr (3, [.ref ak, .ref ad, .ref ab, .ref ao, .ref aw])), (ak, .inr (0, [.ref k1, .ref k2, .int (nI n)])), (k1, .inl (cI, 8000, .inl (fun j => nI (g j)))), (k2, .inl (cI, 40, .inl (fun j => nI (z j)))), (ao, .inr (1, [.ref o1, .int (nI wn3)])), (o1, .inl (cI, 487, .inl (fun j => nI (wr3 j)))), (aw, .inr (2, [.ref w1])), (w1, .inl (cI, 204, .inl (fun j => nI (w3 j))))] tS.heap ∧ va_K (dC, dI) vwCl [(cI, .int)] tS ∧ va_D (va_A [(ax, .inr (3, [.ref ak, .ref ad, .ref ab, .ref ao, .ref aw])), (ak, .inr (0, [.ref k1, .ref k2, .int (nI n)])), (k1, .inl (cI, 8000, .inl (fun j => nI (g j)))), (k2, .inl (cI, 40, .inl (fun j => nI (z j)))), (ao, .inr (1, [.ref o1, .int (nI wn)])), (o1, .inl (cI, 487, .inl (fun j => nI (wr j)))), (aw, .inr (2, [.ref w1])), (w1, .inl (cI, 204, .inl (fun j => nI (w j))))] sz) [(ax, .inr (3, [.ref ak, .ref ad, .ref ab, .ref ao, .ref aw])), (ak, .inr (0, [.ref k1, .ref k2, .int (nI n)])), (k1, .inl (cI, 8000, .inl (fun j => nI (g j)))), (k2, .inl (cI, 40, .inl (fun j => nI (z j)))), (ao, .inr (1, [.ref o1, .int (nI wn3)])), (o1, .inl (cI, 487, .inl (fun j => nI (wr3 j)))), (aw, .inr (2, [.ref w1])), (w1, .inl (cI, 204, .inl (fun j => nI (w3 j))))]) (va_A [(ax, .inr (3, [.ref ak, .ref ad, .ref ab, .ref ao, .ref aw])), (ak, .inr (0, [.ref k1, .ref k2, .int (nI n)])), (k1, .inl (cI, 8000, .inl (fun j => nI (g j)))), (k2, .inl (cI, 40, .inl (fun j => nI (z j)))), (ao, .inr (1, [.ref o1, .int (nI wn)])), (o1, .inl (cI, 487, .inl (fun j => nI (wr j)))), (aw, .inr (2, [.ref w1])), (w1, .inl (cI, 204, .inl (fun j => nI (w j))))] sz)) (vx_X (fun (_ : Unit) => True) (fun (E : String) (_ : Unit) (tS : State) => ((E = eIO ∧ ¬ vp_in a9 n) ∨ (E = eIA ∧ ∃ aA, a9 = nI aA ∧ aA < n ∧ nval g z aA < 0)) ∧ va_P (dC, dI) vwCl [(ax, .inr (3, [.ref ak, .ref ad, .ref ab, .ref ao, .ref aw])), (ak, .inr (0, [.ref k1, .ref k2, .int (nI n)])), (k1, .inl (cI, 8000, .inl (fun j => nI (g j)))), (k2, .inl (cI, 40, .inl (fun j => nI (z j)))), (ao, .inr (1, [.ref o1, .int (nI wn)])), (o1, .inl (cI, 487, .inl (fun j => nI (wr j)))), (aw, .inr (2, [.ref w1])), (w1, .inl (cI, 204, .inl (fun j => nI (w j))))] tS.heap ∧ va_K (dC, dI) vwCl [(cI, .int)] tS ∧ va_D (va_A [(ax, .inr (3, [.ref ak, .ref ad, .ref ab, .ref ao, .ref aw])), (ak, .inr (0, [.ref k1, .ref k2, .int (nI n)])), (k1, .inl (cI, 8000, .inl (fun j => nI (g j)))), (k2, .inl (cI, 40, .inl (fun j => nI (z j)))), (ao, .inr (1, [.ref o1, .int (nI wn)])), (o1, .inl (cI, 487, .inl (fun j => nI (wr j)))), (aw, .inr (2, [.ref w1])), (w1, .inl (cI, 204, .inl (fun j => nI (w j))))] sz) [(ax, .inr (3, [.ref ak, .ref ad, .ref ab, .ref ao, .ref aw])), (ak, .inr (0, [.ref k1, .ref k2, .int (nI n)])), (k1, .inl (cI, 8000, .inl (fun j => nI (g j)))), (k2, .inl (cI, 40, .inl (fun j => nI (z j)))), (ao, .inr (1, [.ref o1, .int (nI wn)])), (o1, .inl (cI, 487, .inl (fun j => nI (wr j)))), (aw, .inr (2, [.ref w1])), (w1, .inl (cI, 204, .inl (fun j => nI (w j))))]) (va_A [(ax, .inr (3, [.ref ak, .ref ad, .ref ab, .ref ao, .ref aw])), (ak, .inr (0, [.ref k1, .ref k2, .int (nI n)])), (k1, .inl (cI, 8000, .inl (fun j => nI (g j)))), (k2, .inl (cI, 40, .inl (fun j => nI (z j)))), (ao, .inr (1, [.ref o1, .int (nI wn)])), (o1, .inl (cI, 487, .inl (fun j => nI (wr j)))), (aw, .inr (2, [.ref w1])), (w1, .inl (cI, 204, .inl (fun j => nI (w j))))] sz)) 2 12 (va_A [(ax, .inr (3, [.ref ak, .ref ad, .ref ab, .ref ao, .ref aw])), (ak, .inr (0, [.ref k1, .ref k2, .int (nI n)])), (k1, .inl (cI, 8000, .inl (fun j => nI (g j)))), (k2, .inl (cI, 40, .inl (fun j => nI (z j)))), (ao, .inr (1, [.ref o1, .int (nI wn)])), (o1, .inl (cI, 487, .inl (fun j => nI (wr j)))), (aw, .inr (2, [.ref w1])), (w1, .inl (cI, 204, .inl (fun j => nI (w j))))] sz) := by
  refine vx_ofW (cc := cX3_groups) (maxL := 3) (ret := (some .int)) (by decide) rfl ?_
  intro p e s m args below meth c s₁ B hml hno hv
  obtain ⟨rfl, hsz, hP, hK, hD0, hZ, hT⟩ := hv
  have hx := B.exec
  have hb := B.bytes
  have hr := B.returns
  have hts := atoms_spec (ws := wsX3_groups) B.pre
  have hown : s.vm.findClass RX3 = some m.cls := findClass_of_methodNamed B.named
  have hlocks := B.notSynchronized
  subst hsz
  have hD := hD0.self (sz := s.heap.size)
  generalize hAe : va_A [(ax, .inr (3, [.ref ak, .ref ad, .ref ab, .ref ao, .ref aw])), (ak, .inr (0, [.ref k1, .ref k2, .int (nI n)])), (k1, .inl (cI, 8000, .inl (fun j => nI (g j)))), (k2, .inl (cI, 40, .inl (fun j => nI (z j)))), (ao, .inr (1, [.ref o1, .int (nI wn)])), (o1, .inl (cI, 487, .inl (fun j => nI (wr j)))), (aw, .inr (2, [.ref w1])), (w1, .inl (cI, 204, .inl (fun j => nI (w j))))] s.heap.size = A at hD hZ ⊢
  have hA : ∀ q : Nat, s.heap.size ≤ q → A q := fun q h => by rw [← hAe]; exact Or.inr h
  have hS : va_S A s.heap s.heap [] := va_S.rf
  have hinX0 : ∀ w ∈ wsX00, w ∈ wsX3_groups := by decide +kernel
  have hinX1 : ∀ w ∈ wsX10, w ∈ wsX3_groups := by decide +kernel
  have hinX2 : ∀ w ∈ wsX20, w ∈ wsX3_groups := by decide +kernel
  have hinX3 : ∀ w ∈ wsX30, w ∈ wsX3_groups := by decide +kernel
  have hl := lv_entry ([.ref ax, .int a9]) (n := 3) (Nat.le_of_ble_eq_true rfl)
  rw [lg_entry_eq]
  generalize (lg_sl ([.ref ax, .int a9]) ++ List.replicate (3 - (lg_sl ([.ref ax, .int a9])).length) Slot.unset).toArray = ls at hl ⊢
  have hl : lv_has ls 3 [(0, .ref ax), (1, .int a9)] := hl
  obtain ⟨hg, hn, hz, hq⟩ := id hI
  refine lv_aload_n hx hb dX3_groups_0 rfl (lv_at hl 0 rfl) ?_
  refine lv_iload_n hx hb dX3_groups_1 rfl (lv_at hl 1 rfl) ?_
  have hPc := hP.sub (ws' := [(ax, .inr (3, [.ref ak, .ref ad, .ref ab, .ref ao, .ref aw])), (ak, .inr (0, [.ref k1, .ref k2, .int (nI n)])), (k1, .inl (cI, 8000, .inl (fun j => nI (g j)))), (k2, .inl (cI, 40, .inl (fun j => nI (z j))))]) [0, 1, 2, 3] rfl
  have hKc := hK.sub (tys' := [(cI, .int)]) [0] rfl
  have hDc := hD.sub (ws' := [(ax, .inr (3, [.ref ak, .ref ad, .ref ab, .ref ao, .ref aw])), (ak, .inr (0, [.ref k1, .ref k2, .int (nI n)])), (k1, .inl (cI, 8000, .inl (fun j => nI (g j)))), (k2, .inl (cI, 40, .inl (fun j => nI (z j))))]) [0, 1, 2, 3] (by decide) rfl
  have hFc := va_free (wc := [(ax, .inr (3, [.ref ak, .ref ad, .ref ab, .ref ao, .ref aw])), (ak, .inr (0, [.ref k1, .ref k2, .int (nI n)])), (k1, .inl (cI, 8000, .inl (fun j => nI (g j)))), (k2, .inl (cI, 40, .inl (fun j => nI (z j))))]) hD hS hA [0, 1, 2, 3] rfl
  refine vx_callv (vx_runV (As := [.int a9]) (rest := []) ⟨hx, hb, hml, hown, hts⟩ (c_X3_needNumber l hl9 dC dI cI ax ak ad ab ao aw k1 k2 n g z a9 s.heap.size hn) (cwV 1 hts gX3_groups_X3_needNumber rfl rfl rfl (by decide +kernel) ⟨Nat.le_of_ble_eq_true rfl, Nat.le_of_ble_eq_true rfl⟩) ⟨fun a U g mk q => by obtain ⟨q0, q1, qP, qK, qD, qZ, qT⟩ := q; exact ⟨q0, q1, qP, va_K.moved (u := U) (U := U.calling g mk a) (Vm.Alike.refl U.vm) qK, qD, tz.moved (u := U) (U := U.calling g mk a) (Vm.Alike.refl U.vm) qZ, tw.same (u := U) (U := U.calling g mk a) rfl qT⟩, va_recv hKc hPc (ci := 3) (q0 := 0) rfl rfl, fun U hU hW => ⟨rfl, by rw [hU], by rw [hU]; exact hPc, va_K.moved hW.alike hKc, hDc.weaken (fun _ _ _ _ => trivial), hZ.call hS hU hW hFc, hT.warm hW⟩⟩ rfl rfl hl.1 rfl (lv_room (Nat.le_of_ble_eq_true rfl)) dX3_groups_2 ⟨Nat.le_of_ble_eq_true rfl, Nat.le_of_ble_eq_true rfl⟩) hS (fun q _ h => hFc q h) hFc (fun q _ h => hFc q h) (fun E ce q9 uX tX H1 locs htX hvmX _ hBX hzS hkS hS hce hcv hcl => ?_) (fun uS tS H1 locs htS hvm h2 hB hzS hkS hS => ?_)
  · obtain ⟨hX2, hP1, hK1, hD1⟩ := hBX
    rw [htX] at hP1
    obtain ⟨hP, hD⟩ := va_join (wr := [(ao, .inr (1, [.ref o1, .int (nI wn)])), (o1, .inl (cI, 487, .inl (fun j => nI (wr j)))), (aw, .inr (2, [.ref w1])), (w1, .inl (cI, 204, .inl (fun j => nI (w j))))]) (w1 := [(ax, .inr (3, [.ref ak, .ref ad, .ref ab, .ref ao, .ref aw])), (ak, .inr (0, [.ref k1, .ref k2, .int (nI n)])), (k1, .inl (cI, 8000, .inl (fun j => nI (g j)))), (k2, .inl (cI, 40, .inl (fun j => nI (z j))))]) hP hD [0, 1, 2, 3] [4, 5, 6, 7] rfl rfl (by decide) (by decide) hkS hFc hP1 hD1
    have hP : va_P (dC, dI) vwCl [(ao, .inr (1, [.ref o1, .int (nI wn)])), (o1, .inl (cI, 487, .inl (fun j => nI (wr j)))), (aw, .inr (2, [.ref w1])), (w1, .inl (cI, 204, .inl (fun j => nI (w j)))), (ax, .inr (3, [.ref ak, .ref ad, .ref ab, .ref ao, .ref aw])), (ak, .inr (0, [.ref k1, .ref k2, .int (nI n)])), (k1, .inl (cI, 8000, .inl (fun j => nI (g j)))), (k2, .inl (cI, 40, .inl (fun j => nI (z j))))] H1 := hP
    have hD : va_D A [(ao, .inr (1, [.ref o1, .int (nI wn)])), (o1, .inl (cI, 487, .inl (fun j => nI (wr j)))), (aw, .inr (2, [.ref w1])), (w1, .inl (cI, 204, .inl (fun j => nI (w j)))), (ax, .inr (3, [.ref ak, .ref ad, .ref ab, .ref ao, .ref aw])), (ak, .inr (0, [.ref k1, .ref k2, .int (nI n)])), (k1, .inl (cI, 8000, .inl (fun j => nI (g j)))), (k2, .inl (cI, 40, .inl (fun j => nI (z j))))] := hD
    have hP9 := hP.sub (ws' := [(ax, .inr (3, [.ref ak, .ref ad, .ref ab, .ref ao, .ref aw])), (ak, .inr (0, [.ref k1, .ref k2, .int (nI n)])), (k1, .inl (cI, 8000, .inl (fun j => nI (g j)))), (k2, .inl (cI, 40, .inl (fun j => nI (z j)))), (ao, .inr (1, [.ref o1, .int (nI wn)])), (o1, .inl (cI, 487, .inl (fun j => nI (wr j)))), (aw, .inr (2, [.ref w1])), (w1, .inl (cI, 204, .inl (fun j => nI (w j))))]) [4, 5, 6, 7, 0, 1, 2, 3] rfl
    have hD9 := hD.sub (ws' := [(ax, .inr (3, [.ref ak, .ref ad, .ref ab, .ref ao, .ref aw])), (ak, .inr (0, [.ref k1, .ref k2, .int (nI n)])), (k1, .inl (cI, 8000, .inl (fun j => nI (g j)))), (k2, .inl (cI, 40, .inl (fun j => nI (z j)))), (ao, .inr (1, [.ref o1, .int (nI wn)])), (o1, .inl (cI, 487, .inl (fun j => nI (wr j)))), (aw, .inr (2, [.ref w1])), (w1, .inl (cI, 204, .inl (fun j => nI (w j))))]) [4, 5, 6, 7, 0, 1, 2, 3] (by decide) rfl
    have hK9 := hK.sub (tys' := [(cI, .int)]) [0] rfl
    exact vx_out (E := E) (fun x h => (hno x h).elim) hlocks hce hcv hcl (fun tS htS haS => ⟨(), trivial, ⟨(Or.inl hX2), by rw [htS]; exact hP9, va_K.moved haS hK9, hD9⟩, hS.F htS⟩) hS.2.2 (by omega) (by omega)
  obtain ⟨hP1, hK1, hD1⟩ := hB
  rw [htS] at hP1
  have hK1 := va_K.moved hvm.symm hK1
  try dsimp only at h2
  obtain ⟨hP, hD⟩ := va_join (wr := [(ao, .inr (1, [.ref o1, .int (nI wn)])), (o1, .inl (cI, 487, .inl (fun j => nI (wr j)))), (aw, .inr (2, [.ref w1])), (w1, .inl (cI, 204, .inl (fun j => nI (w j))))]) (w1 := [(ax, .inr (3, [.ref ak, .ref ad, .ref ab, .ref ao, .ref aw])), (ak, .inr (0, [.ref k1, .ref k2, .int (nI n)])), (k1, .inl (cI, 8000, .inl (fun j => nI (g j)))), (k2, .inl (cI, 40, .inl (fun j => nI (z j))))]) hP hD [0, 1, 2, 3] [4, 5, 6, 7] rfl rfl (by decide) (by decide) hkS hFc hP1 hD1
  generalize H1 = H at hP hS ⊢
  have hP : va_P (dC, dI) vwCl [(ao, .inr (1, [.ref o1, .int (nI wn)])), (o1, .inl (cI, 487, .inl (fun j => nI (wr j)))), (aw, .inr (2, [.ref w1])), (w1, .inl (cI, 204, .inl (fun j => nI (w j)))), (ax, .inr (3, [.ref ak, .ref ad, .ref ab, .ref ao, .ref aw])), (ak, .inr (0, [.ref k1, .ref k2, .int (nI n)])), (k1, .inl (cI, 8000, .inl (fun j => nI (g j)))), (k2, .inl (cI, 40, .inl (fun j => nI (z j))))] H := hP
  have hD : va_D A [(ao, .inr (1, [.ref o1, .int (nI wn)])), (o1, .inl (cI, 487, .inl (fun j => nI (wr j)))), (aw, .inr (2, [.ref w1])), (w1, .inl (cI, 204, .inl (fun j => nI (w j)))), (ax, .inr (3, [.ref ak, .ref ad, .ref ab, .ref ao, .ref aw])), (ak, .inr (0, [.ref k1, .ref k2, .int (nI n)])), (k1, .inl (cI, 8000, .inl (fun j => nI (g j)))), (k2, .inl (cI, 40, .inl (fun j => nI (z j))))] := hD
  refine W.widen (k := 1) (n := 6) (by omega) (by omega) ?_
  obtain ⟨a, ha, rfl⟩ := vp_in_of h2 (by omega)
  refine lv_aload_n hx hb dX3_groups_5 rfl (lv_at hl 0 rfl) ?_
  refine va_get (D := (dC, dI)) (ci := 3) (v := .ref ak) (C := RX3) (T := TX3) (N := 5) hx hb hts hinX3 hown hK hP 4 rfl rfl 0 (by decide) (hts (.fieldLink RX3 12 "NumberContents" "kept" "LNumberContents$Numbers;") (by decide +kernel)) (fun _ h9 => h9) rfl dX3_groups_6 ?_
  refine lv_iload_n hx hb dX3_groups_9 rfl (lv_at hl 1 rfl) ?_
  have hPc := hP.sub (ws' := [(ak, .inr (0, [.ref k1, .ref k2, .int (nI n)])), (k1, .inl (cI, 8000, .inl (fun j => nI (g j)))), (k2, .inl (cI, 40, .inl (fun j => nI (z j))))]) [5, 6, 7] rfl
  have hKc := hK.sub (tys' := [(cI, .int)]) [0] rfl
  refine vp_callSi (W.runV (As := [.int (nI a)]) (rest := []) ⟨hx, hb, hml, hown, hts⟩ (c_X0_isMinus l dC dI cI ak k1 k2 n g z a hg hn hz ha) (cwV 1 hts gX3_groups_X0_isMinus rfl rfl rfl (by decide +kernel) ⟨Nat.le_of_ble_eq_true rfl, Nat.le_of_ble_eq_true rfl⟩) ⟨fun a U g mk q => by obtain ⟨q0, qP, qK⟩ := q; exact ⟨q0, qP, va_K.moved (u := U) (U := U.calling g mk a) (Vm.Alike.refl U.vm) qK⟩, va_recv hK hP (ci := 0) (q0 := 5) rfl rfl, fun U hU hW => ⟨rfl, by rw [hU]; exact hPc, va_K.moved hW.alike hKc⟩⟩ rfl rfl hl.1 rfl (lv_room (Nat.le_of_ble_eq_true rfl)) dX3_groups_10 ⟨Nat.le_of_ble_eq_true rfl, Nat.le_of_ble_eq_true rfl⟩) (fun r10 h10 => ?_)
  refine lv_if_eq (tgt := 26) hx hb dX3_groups_13 (by decide) (fun c13 => ?_) (fun c13 => ?_)
  · refine lv_aload_n hx hb dX3_groups_26 rfl (lv_at hl 0 rfl) ?_
    refine lv_iload_n hx hb dX3_groups_27 rfl (lv_at hl 1 rfl) ?_
    have hPc := hP.sub (ws' := [(ax, .inr (3, [.ref ak, .ref ad, .ref ab, .ref ao, .ref aw])), (ak, .inr (0, [.ref k1, .ref k2, .int (nI n)])), (k1, .inl (cI, 8000, .inl (fun j => nI (g j)))), (k2, .inl (cI, 40, .inl (fun j => nI (z j)))), (aw, .inr (2, [.ref w1])), (w1, .inl (cI, 204, .inl (fun j => nI (w j))))]) [4, 5, 6, 7, 2, 3] rfl
    have hKc := hK.sub (tys' := [(cI, .int)]) [0] rfl
    have hDc := hD.sub (ws' := [(ax, .inr (3, [.ref ak, .ref ad, .ref ab, .ref ao, .ref aw])), (ak, .inr (0, [.ref k1, .ref k2, .int (nI n)])), (k1, .inl (cI, 8000, .inl (fun j => nI (g j)))), (k2, .inl (cI, 40, .inl (fun j => nI (z j)))), (aw, .inr (2, [.ref w1])), (w1, .inl (cI, 204, .inl (fun j => nI (w j))))]) [4, 5, 6, 7, 2, 3] (by decide) rfl
    have hFc := va_free (wc := [(ax, .inr (3, [.ref ak, .ref ad, .ref ab, .ref ao, .ref aw])), (ak, .inr (0, [.ref k1, .ref k2, .int (nI n)])), (k1, .inl (cI, 8000, .inl (fun j => nI (g j)))), (k2, .inl (cI, 40, .inl (fun j => nI (z j)))), (aw, .inr (2, [.ref w1])), (w1, .inl (cI, 204, .inl (fun j => nI (w j))))]) hD hS hA [4, 5, 6, 7, 2, 3] rfl
    refine va_callv (va_runV (As := [.int (nI a)]) (rest := []) ⟨hx, hb, hml, hown, hts⟩ (c_X3_loadNumber l dC dI cI ax ak ad ab ao aw k1 k2 n g z w1 w a H.size hg hn hz hw ha) (cwV 1 hts gX3_groups_X3_loadNumber rfl rfl rfl (by decide +kernel) ⟨Nat.le_of_ble_eq_true rfl, Nat.le_of_ble_eq_true rfl⟩) ⟨fun a U g mk q => by obtain ⟨q0, q1, qP, qK, qD⟩ := q; exact ⟨q0, q1, qP, va_K.moved (u := U) (U := U.calling g mk a) (Vm.Alike.refl U.vm) qK, qD⟩, va_recv hKc hPc (ci := 3) (q0 := 0) rfl rfl, fun U hU hW => ⟨rfl, by rw [hU], by rw [hU]; exact hPc, va_K.moved hW.alike hKc, hDc.weaken (fun _ _ _ _ => trivial)⟩⟩ rfl rfl hl.1 rfl (lv_room (Nat.le_of_ble_eq_true rfl)) dX3_groups_28 ⟨Nat.le_of_ble_eq_true rfl, Nat.le_of_ble_eq_true rfl⟩) hS (fun q _ h => hFc q h) hFc (fun uS tS H1 locs htS hvm h28 hB hzS hkS hS => ?_)
    obtain ⟨w4_28, rfl⟩ : ∃ z, z = uS := ⟨_, rfl⟩
    obtain ⟨hP1, hK1, hD1⟩ := hB
    rw [htS] at hP1
    have hK1 := va_K.moved hvm.symm hK1
    try dsimp only at h28
    obtain ⟨hP, hD⟩ := va_join (wr := [(ao, .inr (1, [.ref o1, .int (nI wn)])), (o1, .inl (cI, 487, .inl (fun j => nI (wr j))))]) (w1 := [(ax, .inr (3, [.ref ak, .ref ad, .ref ab, .ref ao, .ref aw])), (ak, .inr (0, [.ref k1, .ref k2, .int (nI n)])), (k1, .inl (cI, 8000, .inl (fun j => nI (g j)))), (k2, .inl (cI, 40, .inl (fun j => nI (z j)))), (aw, .inr (2, [.ref w1])), (w1, .inl (cI, 204, .inl (fun j => nI (w4_28 j))))]) hP hD [4, 5, 6, 7, 2, 3] [0, 1] rfl rfl (by decide) (by decide) hkS hFc hP1 hD1
    generalize H1 = H at hP hS ⊢
    have hP : va_P (dC, dI) vwCl [(ao, .inr (1, [.ref o1, .int (nI wn)])), (o1, .inl (cI, 487, .inl (fun j => nI (wr j)))), (ax, .inr (3, [.ref ak, .ref ad, .ref ab, .ref ao, .ref aw])), (ak, .inr (0, [.ref k1, .ref k2, .int (nI n)])), (k1, .inl (cI, 8000, .inl (fun j => nI (g j)))), (k2, .inl (cI, 40, .inl (fun j => nI (z j)))), (aw, .inr (2, [.ref w1])), (w1, .inl (cI, 204, .inl (fun j => nI (w4_28 j))))] H := hP
    have hD : va_D A [(ao, .inr (1, [.ref o1, .int (nI wn)])), (o1, .inl (cI, 487, .inl (fun j => nI (wr j)))), (ax, .inr (3, [.ref ak, .ref ad, .ref ab, .ref ao, .ref aw])), (ak, .inr (0, [.ref k1, .ref k2, .int (nI n)])), (k1, .inl (cI, 8000, .inl (fun j => nI (g j)))), (k2, .inl (cI, 40, .inl (fun j => nI (z j)))), (aw, .inr (2, [.ref w1])), (w1, .inl (cI, 204, .inl (fun j => nI (w4_28 j))))] := hD
    have hN31 := pr_v h28.1 h28.2 (nv_pos (ite_r h10 c13))
    refine lv_aload_n hx hb dX3_groups_31 rfl (lv_at hl 0 rfl) ?_
    refine va_get (D := (dC, dI)) (ci := 3) (v := .ref ao) (C := RX3) (T := TX3) (N := 5) hx hb hts hinX3 hown hK hP 2 rfl rfl 3 (by decide) (hts (.fieldLink RX3 28 "NumberContents" "written" "LNumberContents$Row;") (by decide +kernel)) (fun _ h9 => h9) rfl dX3_groups_32 ?_
    have hPc := hP.sub (ws' := [(ao, .inr (1, [.ref o1, .int (nI wn)])), (o1, .inl (cI, 487, .inl (fun j => nI (wr j))))]) [0, 1] rfl
    have hKc := hK.sub (tys' := [(cI, .int)]) [0] rfl
    have hDc := hD.sub (ws' := [(ao, .inr (1, [.ref o1, .int (nI wn)])), (o1, .inl (cI, 487, .inl (fun j => nI (wr j))))]) [0, 1] (by decide) rfl
    have hFc := va_free (wc := [(ao, .inr (1, [.ref o1, .int (nI wn)])), (o1, .inl (cI, 487, .inl (fun j => nI (wr j))))]) hD hS hA [0, 1] rfl
    refine va_callv (va_runV (As := []) (rest := []) ⟨hx, hb, hml, hown, hts⟩ (c_X1_empty l dC dI cI ao o1 487 wn (fun j => nI (wr j)) H.size ) (cwV 0 hts gX3_groups_X1_empty rfl rfl rfl (by decide +kernel) ⟨Nat.le_of_ble_eq_true rfl, Nat.le_of_ble_eq_true rfl⟩) ⟨fun a U g mk q => by obtain ⟨q0, q1, qP, qK, qD⟩ := q; exact ⟨q0, q1, qP, va_K.moved (u := U) (U := U.calling g mk a) (Vm.Alike.refl U.vm) qK, qD⟩, va_recv hKc hPc (ci := 1) (q0 := 0) rfl rfl, fun U hU hW => ⟨rfl, by rw [hU], by rw [hU]; exact hPc, va_K.moved hW.alike hKc, hDc.weaken (fun _ _ _ _ => trivial)⟩⟩ rfl rfl hl.1 rfl (lv_room (Nat.le_of_ble_eq_true rfl)) dX3_groups_35 ⟨Nat.le_of_ble_eq_true rfl, Nat.le_of_ble_eq_true rfl⟩) hS (fun q _ h => hFc q h) hFc (fun uS tS H1 locs htS hvm h35 hB hzS hkS hS => ?_)
    obtain ⟨hP1, hK1, hD1⟩ := hB
    rw [htS] at hP1
    have hK1 := va_K.moved hvm.symm hK1
    try dsimp only at h35
    obtain ⟨hP, hD⟩ := va_join (wr := [(ax, .inr (3, [.ref ak, .ref ad, .ref ab, .ref ao, .ref aw])), (ak, .inr (0, [.ref k1, .ref k2, .int (nI n)])), (k1, .inl (cI, 8000, .inl (fun j => nI (g j)))), (k2, .inl (cI, 40, .inl (fun j => nI (z j)))), (aw, .inr (2, [.ref w1])), (w1, .inl (cI, 204, .inl (fun j => nI (w4_28 j))))]) (w1 := [(ao, .inr (1, [.ref o1, .int (nI 0)])), (o1, .inl (cI, 487, .inl (fun j => nI (wr j))))]) hP hD [0, 1] [2, 3, 4, 5, 6, 7] rfl rfl (by decide) (by decide) hkS hFc hP1 hD1
    generalize H1 = H at hP hS ⊢
    have hP : va_P (dC, dI) vwCl [(ax, .inr (3, [.ref ak, .ref ad, .ref ab, .ref ao, .ref aw])), (ak, .inr (0, [.ref k1, .ref k2, .int (nI n)])), (k1, .inl (cI, 8000, .inl (fun j => nI (g j)))), (k2, .inl (cI, 40, .inl (fun j => nI (z j)))), (aw, .inr (2, [.ref w1])), (w1, .inl (cI, 204, .inl (fun j => nI (w4_28 j)))), (ao, .inr (1, [.ref o1, .int (nI 0)])), (o1, .inl (cI, 487, .inl (fun j => nI (wr j))))] H := hP
    have hD : va_D A [(ax, .inr (3, [.ref ak, .ref ad, .ref ab, .ref ao, .ref aw])), (ak, .inr (0, [.ref k1, .ref k2, .int (nI n)])), (k1, .inl (cI, 8000, .inl (fun j => nI (g j)))), (k2, .inl (cI, 40, .inl (fun j => nI (z j)))), (aw, .inr (2, [.ref w1])), (w1, .inl (cI, 204, .inl (fun j => nI (w4_28 j)))), (ao, .inr (1, [.ref o1, .int (nI 0)])), (o1, .inl (cI, 487, .inl (fun j => nI (wr j))))] := hD
    refine lv_iconst (v := (nI 0)) hx hb dX3_groups_38 (by decide) ?_
    refine lv_istore_n (lv' := [(2, .int (nI 0)), (0, .ref ax), (1, .int (nI a))]) hx hb dX3_groups_39 rfl hl (by decide) rfl (fun ls hl => ?_)
    have LP40 : ∀ (n9 : Nat) (k : Nat) (wr2 : Nat → Nat) (hm : (229 - k) < n9) (hk : k ≤ 229) (hb2 : ∀ j, wr2 j < 256) (hd : ∀ j, j < k → wr2 j = bv w4_28 204 / 128 ^ j % 128 + (if j = 0 then 0 else 128)) (H : Heap) (locs : List Loc) (ls : Array Slot) (hP : va_P (dC, dI) vwCl [(ax, .inr (3, [.ref ak, .ref ad, .ref ab, .ref ao, .ref aw])), (ak, .inr (0, [.ref k1, .ref k2, .int (nI n)])), (k1, .inl (cI, 8000, .inl (fun j => nI (g j)))), (k2, .inl (cI, 40, .inl (fun j => nI (z j)))), (ao, .inr (1, [.ref o1, .int (nI k)])), (o1, .inl (cI, 487, .inl (fun j => nI (wr2 j)))), (aw, .inr (2, [.ref w1])), (w1, .inl (cI, 204, .inl (fun j => nI (w4_28 j))))] H) (hD : va_D A [(ax, .inr (3, [.ref ak, .ref ad, .ref ab, .ref ao, .ref aw])), (ak, .inr (0, [.ref k1, .ref k2, .int (nI n)])), (k1, .inl (cI, 8000, .inl (fun j => nI (g j)))), (k2, .inl (cI, 40, .inl (fun j => nI (z j)))), (ao, .inr (1, [.ref o1, .int (nI k)])), (o1, .inl (cI, 487, .inl (fun j => nI (wr2 j)))), (aw, .inr (2, [.ref w1])), (w1, .inl (cI, 204, .inl (fun j => nI (w4_28 j))))]) (hS : va_S A s.heap H locs) (hl : lv_has ls 3 [(0, .ref ax), (1, .int (nI a)), (2, .int (nI k))]), W p l e (headSpec wsX3_groups ({ frames := 7, cells := 2, slots := 12, locals := 113 } : Room)).room s m ([.ref ax, .int (nI a)]).toArray below meth c H locs 1 6 (vx_MQ below (va_Qi (fun (r : Int32) (uS : Nat × (Nat → Nat) × (Nat → Nat)) => match uS with | (wn3, wr3, w3) => (∀ j, w3 j < 256) ∧ (∀ j, wr3 j < 256) ∧ ∃ aA, (nI a) = nI aA ∧ aA < n ∧ 0 ≤ nval g z aA ∧ r = nI wn3 ∧ GP (nval g z aA).natAbs wn3 wr3) (fun (uS : Nat × (Nat → Nat) × (Nat → Nat)) (tS : State) => match uS with | (wn3, wr3, w3) => va_P (dC, dI) vwCl [(ax, .inr (3, [.ref ak, .ref ad, .ref ab, .ref ao, .ref aw])), (ak, .inr (0, [.ref k1, .ref k2, .int (nI n)])), (k1, .inl (cI, 8000, .inl (fun j => nI (g j)))), (k2, .inl (cI, 40, .inl (fun j => nI (z j)))), (ao, .inr (1, [.ref o1, .int (nI wn3)])), (o1, .inl (cI, 487, .inl (fun j => nI (wr3 j)))), (aw, .inr (2, [.ref w1])), (w1, .inl (cI, 204, .inl (fun j => nI (w3 j))))] tS.heap ∧ va_K (dC, dI) vwCl [(cI, .int)] tS ∧ va_D A [(ax, .inr (3, [.ref ak, .ref ad, .ref ab, .ref ao, .ref aw])), (ak, .inr (0, [.ref k1, .ref k2, .int (nI n)])), (k1, .inl (cI, 8000, .inl (fun j => nI (g j)))), (k2, .inl (cI, 40, .inl (fun j => nI (z j)))), (ao, .inr (1, [.ref o1, .int (nI wn3)])), (o1, .inl (cI, 487, .inl (fun j => nI (wr3 j)))), (aw, .inr (2, [.ref w1])), (w1, .inl (cI, 204, .inl (fun j => nI (w3 j))))]) A) (vx_X (fun (_ : Unit) => True) (fun (E : String) (_ : Unit) (tS : State) => ((E = eIO ∧ ¬ vp_in (nI a) n) ∨ (E = eIA ∧ ∃ aA, (nI a) = nI aA ∧ aA < n ∧ nval g z aA < 0)) ∧ va_P (dC, dI) vwCl [(ax, .inr (3, [.ref ak, .ref ad, .ref ab, .ref ao, .ref aw])), (ak, .inr (0, [.ref k1, .ref k2, .int (nI n)])), (k1, .inl (cI, 8000, .inl (fun j => nI (g j)))), (k2, .inl (cI, 40, .inl (fun j => nI (z j)))), (ao, .inr (1, [.ref o1, .int (nI wn)])), (o1, .inl (cI, 487, .inl (fun j => nI (wr j)))), (aw, .inr (2, [.ref w1])), (w1, .inl (cI, 204, .inl (fun j => nI (w j))))] tS.heap ∧ va_K (dC, dI) vwCl [(cI, .int)] tS ∧ va_D A [(ax, .inr (3, [.ref ak, .ref ad, .ref ab, .ref ao, .ref aw])), (ak, .inr (0, [.ref k1, .ref k2, .int (nI n)])), (k1, .inl (cI, 8000, .inl (fun j => nI (g j)))), (k2, .inl (cI, 40, .inl (fun j => nI (z j)))), (ao, .inr (1, [.ref o1, .int (nI wn)])), (o1, .inl (cI, 487, .inl (fun j => nI (wr j)))), (aw, .inr (2, [.ref w1])), (w1, .inl (cI, 204, .inl (fun j => nI (w j))))]) A) ([.ref ax, .int (nI a)]).toArray s 2 12 A) (F0 m 40 ls []) := by
      intro n9
      induction n9 with
      | zero => intro k wr2 hm; exact absurd hm (Nat.not_lt_zero _)
      | succ n9 ih =>
        intro k wr2 hm hk hb2 hd H locs ls hP hD hS hl
        have ih40 := ih
        refine lv_iload_n hx hb dX3_groups_40 rfl (lv_at hl 2 rfl) ?_
        refine lv_sipush (v := (nI 229)) hx hb dX3_groups_41 (by decide) ?_
        refine lv_icmp_ge (tgt := 80) hx hb dX3_groups_44 (by decide) (fun c44 => ?_) (fun c44 => ?_)
        · obtain rfl : k = 229 := Nat.le_antisymm hk ((nI_leI (by omega) (by omega)).mp c44)
          refine lv_aload_n hx hb dX3_groups_80 rfl (lv_at hl 0 rfl) ?_
          refine va_get (D := (dC, dI)) (ci := 3) (v := .ref ao) (C := RX3) (T := TX3) (N := 5) hx hb hts hinX3 hown hK hP 0 rfl rfl 3 (by decide) (hts (.fieldLink RX3 28 "NumberContents" "written" "LNumberContents$Row;") (by decide +kernel)) (fun _ h9 => h9) rfl dX3_groups_81 ?_
          refine lv_sipush (v := (nI 128)) hx hb dX3_groups_84 (by decide) ?_
          have hPc := hP.sub (ws' := [(ao, .inr (1, [.ref o1, .int (nI 229)])), (o1, .inl (cI, 487, .inl (fun j => nI (wr2 j))))]) [4, 5] rfl
          have hKc := hK.sub (tys' := [(cI, .int)]) [0] rfl
          have hDc := hD.sub (ws' := [(ao, .inr (1, [.ref o1, .int (nI 229)])), (o1, .inl (cI, 487, .inl (fun j => nI (wr2 j))))]) [4, 5] (by decide) rfl
          have hFc := va_free (wc := [(ao, .inr (1, [.ref o1, .int (nI 229)])), (o1, .inl (cI, 487, .inl (fun j => nI (wr2 j))))]) hD hS hA [4, 5] rfl
          refine va_callv (va_runV (As := [.int (nI 128)]) (rest := []) ⟨hx, hb, hml, hown, hts⟩ (c_X1_dropFromEnd l dC dI cI ao o1 487 229 (fun j => nI (wr2 j)) (nI 128) H.size (by omega) (by omega)) (cwV 1 hts gX3_groups_X1_dropFromEnd rfl rfl rfl (by decide +kernel) ⟨Nat.le_of_ble_eq_true rfl, Nat.le_of_ble_eq_true rfl⟩) ⟨fun a U g mk q => by obtain ⟨q0, q1, qP, qK, qD⟩ := q; exact ⟨q0, q1, qP, va_K.moved (u := U) (U := U.calling g mk a) (Vm.Alike.refl U.vm) qK, qD⟩, va_recv hKc hPc (ci := 1) (q0 := 0) rfl rfl, fun U hU hW => ⟨rfl, by rw [hU], by rw [hU]; exact hPc, va_K.moved hW.alike hKc, hDc.weaken (fun _ _ _ _ => trivial)⟩⟩ rfl rfl hl.1 rfl (lv_room (Nat.le_of_ble_eq_true rfl)) dX3_groups_87 ⟨Nat.le_of_ble_eq_true rfl, Nat.le_of_ble_eq_true rfl⟩) hS (fun q _ h => hFc q h) hFc (fun uS tS H1 locs htS hvm h87 hB hzS hkS hS => ?_)
          obtain ⟨n2_87, rfl⟩ : ∃ z, z = uS := ⟨_, rfl⟩
          obtain ⟨hP1, hK1, hD1⟩ := hB
          rw [htS] at hP1
          have hK1 := va_K.moved hvm.symm hK1
          try dsimp only at h87
          obtain ⟨hP, hD⟩ := va_join (wr := [(ax, .inr (3, [.ref ak, .ref ad, .ref ab, .ref ao, .ref aw])), (ak, .inr (0, [.ref k1, .ref k2, .int (nI n)])), (k1, .inl (cI, 8000, .inl (fun j => nI (g j)))), (k2, .inl (cI, 40, .inl (fun j => nI (z j)))), (aw, .inr (2, [.ref w1])), (w1, .inl (cI, 204, .inl (fun j => nI (w4_28 j))))]) (w1 := [(ao, .inr (1, [.ref o1, .int (nI n2_87)])), (o1, .inl (cI, 487, .inl (fun j => nI (wr2 j))))]) hP hD [4, 5] [0, 1, 2, 3, 6, 7] rfl rfl (by decide) (by decide) hkS hFc hP1 hD1
          generalize H1 = H at hP hS ⊢
          have hP : va_P (dC, dI) vwCl [(ax, .inr (3, [.ref ak, .ref ad, .ref ab, .ref ao, .ref aw])), (ak, .inr (0, [.ref k1, .ref k2, .int (nI n)])), (k1, .inl (cI, 8000, .inl (fun j => nI (g j)))), (k2, .inl (cI, 40, .inl (fun j => nI (z j)))), (aw, .inr (2, [.ref w1])), (w1, .inl (cI, 204, .inl (fun j => nI (w4_28 j)))), (ao, .inr (1, [.ref o1, .int (nI n2_87)])), (o1, .inl (cI, 487, .inl (fun j => nI (wr2 j))))] H := hP
          have hD : va_D A [(ax, .inr (3, [.ref ak, .ref ad, .ref ab, .ref ao, .ref aw])), (ak, .inr (0, [.ref k1, .ref k2, .int (nI n)])), (k1, .inl (cI, 8000, .inl (fun j => nI (g j)))), (k2, .inl (cI, 40, .inl (fun j => nI (z j)))), (aw, .inr (2, [.ref w1])), (w1, .inl (cI, 204, .inl (fun j => nI (w4_28 j)))), (ao, .inr (1, [.ref o1, .int (nI n2_87)])), (o1, .inl (cI, 487, .inl (fun j => nI (wr2 j))))] := hD
          rw [hN31] at hd
          have hd90 := gp_d hb2 (na_lt (nval_fit hg (hz a ha))).2 hd h87
          refine lv_aload_n hx hb dX3_groups_90 rfl (lv_at hl 0 rfl) ?_
          refine va_get (D := (dC, dI)) (ci := 3) (v := .ref ao) (C := RX3) (T := TX3) (N := 5) hx hb hts hinX3 hown hK hP 0 rfl rfl 3 (by decide) (hts (.fieldLink RX3 28 "NumberContents" "written" "LNumberContents$Row;") (by decide +kernel)) (fun _ h9 => h9) rfl dX3_groups_91 ?_
          have hPc := hP.sub (ws' := [(ao, .inr (1, [.ref o1, .int (nI n2_87)])), (o1, .inl (cI, 487, .inl (fun j => nI (wr2 j))))]) [6, 7] rfl
          have hKc := hK.sub (tys' := [(cI, .int)]) [0] rfl
          have hDc := hD.sub (ws' := [(ao, .inr (1, [.ref o1, .int (nI n2_87)])), (o1, .inl (cI, 487, .inl (fun j => nI (wr2 j))))]) [6, 7] (by decide) rfl
          have hFc := va_free (wc := [(ao, .inr (1, [.ref o1, .int (nI n2_87)])), (o1, .inl (cI, 487, .inl (fun j => nI (wr2 j))))]) hD hS hA [6, 7] rfl
          refine va_callv (va_runV (As := []) (rest := []) ⟨hx, hb, hml, hown, hts⟩ (c_X1_reverseg l dC dI cI ao o1 487 n2_87 wr2 H.size (by have := h87.1; omega) (by omega)) (cwV 0 hts gX3_groups_X1_reverse rfl rfl rfl (by decide +kernel) ⟨Nat.le_of_ble_eq_true rfl, Nat.le_of_ble_eq_true rfl⟩) ⟨fun a U g mk q => by obtain ⟨q0, q1, qP, qK, qD⟩ := q; exact ⟨q0, q1, qP, va_K.moved (u := U) (U := U.calling g mk a) (Vm.Alike.refl U.vm) qK, qD⟩, va_recv hKc hPc (ci := 1) (q0 := 0) rfl rfl, fun U hU hW => ⟨rfl, by rw [hU], by rw [hU]; exact hPc, va_K.moved hW.alike hKc, hDc.weaken (fun _ _ _ _ => trivial)⟩⟩ rfl rfl hl.1 rfl (lv_room (Nat.le_of_ble_eq_true rfl)) dX3_groups_94 ⟨Nat.le_of_ble_eq_true rfl, Nat.le_of_ble_eq_true rfl⟩) hS (fun q _ h => hFc q h) hFc (fun uS tS H1 locs htS hvm h94 hB hzS hkS hS => ?_)
          obtain ⟨g2_94, rfl⟩ : ∃ z, z = uS := ⟨_, rfl⟩
          obtain ⟨hP1, hK1, hD1⟩ := hB
          rw [htS] at hP1
          have hK1 := va_K.moved hvm.symm hK1
          try dsimp only at h94
          obtain ⟨hP, hD⟩ := va_join (wr := [(ax, .inr (3, [.ref ak, .ref ad, .ref ab, .ref ao, .ref aw])), (ak, .inr (0, [.ref k1, .ref k2, .int (nI n)])), (k1, .inl (cI, 8000, .inl (fun j => nI (g j)))), (k2, .inl (cI, 40, .inl (fun j => nI (z j)))), (aw, .inr (2, [.ref w1])), (w1, .inl (cI, 204, .inl (fun j => nI (w4_28 j))))]) (w1 := [(ao, .inr (1, [.ref o1, .int (nI n2_87)])), (o1, .inl (cI, 487, .inl (fun j => nI (g2_94 j))))]) hP hD [6, 7] [0, 1, 2, 3, 4, 5] rfl rfl (by decide) (by decide) hkS hFc hP1 hD1
          generalize H1 = H at hP hS ⊢
          have hP : va_P (dC, dI) vwCl [(ax, .inr (3, [.ref ak, .ref ad, .ref ab, .ref ao, .ref aw])), (ak, .inr (0, [.ref k1, .ref k2, .int (nI n)])), (k1, .inl (cI, 8000, .inl (fun j => nI (g j)))), (k2, .inl (cI, 40, .inl (fun j => nI (z j)))), (aw, .inr (2, [.ref w1])), (w1, .inl (cI, 204, .inl (fun j => nI (w4_28 j)))), (ao, .inr (1, [.ref o1, .int (nI n2_87)])), (o1, .inl (cI, 487, .inl (fun j => nI (g2_94 j))))] H := hP
          have hD : va_D A [(ax, .inr (3, [.ref ak, .ref ad, .ref ab, .ref ao, .ref aw])), (ak, .inr (0, [.ref k1, .ref k2, .int (nI n)])), (k1, .inl (cI, 8000, .inl (fun j => nI (g j)))), (k2, .inl (cI, 40, .inl (fun j => nI (z j)))), (aw, .inr (2, [.ref w1])), (w1, .inl (cI, 204, .inl (fun j => nI (w4_28 j)))), (ao, .inr (1, [.ref o1, .int (nI n2_87)])), (o1, .inl (cI, 487, .inl (fun j => nI (g2_94 j))))] := hD
          refine lv_aload_n hx hb dX3_groups_97 rfl (lv_at hl 0 rfl) ?_
          refine va_get (D := (dC, dI)) (ci := 3) (v := .ref ao) (C := RX3) (T := TX3) (N := 5) hx hb hts hinX3 hown hK hP 0 rfl rfl 3 (by decide) (hts (.fieldLink RX3 28 "NumberContents" "written" "LNumberContents$Row;") (by decide +kernel)) (fun _ h9 => h9) rfl dX3_groups_98 ?_
          have hPc := hP.sub (ws' := [(ao, .inr (1, [.ref o1, .int (nI n2_87)])), (o1, .inl (cI, 487, .inl (fun j => nI (g2_94 j))))]) [6, 7] rfl
          have hKc := hK.sub (tys' := [(cI, .int)]) [0] rfl
          refine vp_callSi (W.runV (As := []) (rest := []) ⟨hx, hb, hml, hown, hts⟩ (c_X1_length l dC dI cI ao o1 487 n2_87 (fun j => nI (g2_94 j)) ) (cwV 0 hts gX3_groups_X1_length rfl rfl rfl (by decide +kernel) ⟨Nat.le_of_ble_eq_true rfl, Nat.le_of_ble_eq_true rfl⟩) ⟨fun a U g mk q => by obtain ⟨q0, qP, qK⟩ := q; exact ⟨q0, qP, va_K.moved (u := U) (U := U.calling g mk a) (Vm.Alike.refl U.vm) qK⟩, va_recv hK hP (ci := 1) (q0 := 6) rfl rfl, fun U hU hW => ⟨rfl, by rw [hU]; exact hPc, va_K.moved hW.alike hKc⟩⟩ rfl rfl hl.1 rfl (lv_room (Nat.le_of_ble_eq_true rfl)) dX3_groups_101 ⟨Nat.le_of_ble_eq_true rfl, Nat.le_of_ble_eq_true rfl⟩) (fun r101 h101 => ?_)
          have hP9 := hP.sub (ws' := [(ax, .inr (3, [.ref ak, .ref ad, .ref ab, .ref ao, .ref aw])), (ak, .inr (0, [.ref k1, .ref k2, .int (nI n)])), (k1, .inl (cI, 8000, .inl (fun j => nI (g j)))), (k2, .inl (cI, 40, .inl (fun j => nI (z j)))), (ao, .inr (1, [.ref o1, .int (nI n2_87)])), (o1, .inl (cI, 487, .inl (fun j => nI (g2_94 j)))), (aw, .inr (2, [.ref w1])), (w1, .inl (cI, 204, .inl (fun j => nI (w4_28 j))))]) [0, 1, 2, 3, 6, 7, 4, 5] rfl
          have hD9 := hD.sub (ws' := [(ax, .inr (3, [.ref ak, .ref ad, .ref ab, .ref ao, .ref aw])), (ak, .inr (0, [.ref k1, .ref k2, .int (nI n)])), (k1, .inl (cI, 8000, .inl (fun j => nI (g j)))), (k2, .inl (cI, 40, .inl (fun j => nI (z j)))), (ao, .inr (1, [.ref o1, .int (nI n2_87)])), (o1, .inl (cI, 487, .inl (fun j => nI (g2_94 j)))), (aw, .inr (2, [.ref w1])), (w1, .inl (cI, 204, .inl (fun j => nI (w4_28 j))))]) [0, 1, 2, 3, 6, 7, 4, 5] (by decide) rfl
          have hK9 := hK.sub (tys' := [(cI, .int)]) [0] rfl
          exact vx_ret (W.widen (k := 2) (n := 12) (by omega) (by omega) (W.iret (v := r101) hx hb hr (fun tS htS hW => ⟨⟨r101, (n2_87, g2_94, w4_28), rfl, ⟨h28.1, rv_lt hb2 h94, a, rfl, ha, nv_pos (ite_r h10 c13), h101, gp_e hd90 h94⟩, by rw [htS]; exact hP9, va_K.moved hW.alike hK9, hD9⟩, hS.F htS⟩) hS.2.2 dX3_groups_104))
        · have hlt : k < 229 := Nat.lt_of_not_le (fun h => c44 (nI_le h (by omega)))
          refine lv_aload_n hx hb dX3_groups_47 rfl (lv_at hl 0 rfl) ?_
          refine va_get (D := (dC, dI)) (ci := 3) (v := .ref ao) (C := RX3) (T := TX3) (N := 5) hx hb hts hinX3 hown hK hP 0 rfl rfl 3 (by decide) (hts (.fieldLink RX3 28 "NumberContents" "written" "LNumberContents$Row;") (by decide +kernel)) (fun _ h9 => h9) rfl dX3_groups_48 ?_
          refine lv_aload_n hx hb dX3_groups_51 rfl (lv_at hl 0 rfl) ?_
          refine va_get (D := (dC, dI)) (ci := 3) (v := .ref aw) (C := RX3) (T := TX3) (N := 5) hx hb hts hinX3 hown hK hP 0 rfl rfl 4 (by decide) (hts (.fieldLink RX3 34 "NumberContents" "wide" "LNumberContents$Wide;") (by decide +kernel)) (fun _ h9 => h9) rfl dX3_groups_52 ?_
          refine lv_iload_n hx hb dX3_groups_55 rfl (lv_at hl 2 rfl) ?_
          have hPc := hP.sub (ws' := [(aw, .inr (2, [.ref w1])), (w1, .inl (cI, 204, .inl (fun j => nI (w4_28 j))))]) [6, 7] rfl
          have hKc := hK.sub (tys' := [(cI, .int)]) [0] rfl
          refine vp_callSi (W.runV (As := [.int (nI k)]) (rest := [.ref ao]) ⟨hx, hb, hml, hown, hts⟩ (c_X2_sevenBits l dC dI cI aw w1 w4_28 k h28.1 (by omega)) (cwV 1 hts gX3_groups_X2_sevenBits rfl rfl rfl (by decide +kernel) ⟨Nat.le_of_ble_eq_true rfl, Nat.le_of_ble_eq_true rfl⟩) ⟨fun a U g mk q => by obtain ⟨q0, qP, qK⟩ := q; exact ⟨q0, qP, va_K.moved (u := U) (U := U.calling g mk a) (Vm.Alike.refl U.vm) qK⟩, va_recv hK hP (ci := 2) (q0 := 6) rfl rfl, fun U hU hW => ⟨rfl, by rw [hU]; exact hPc, va_K.moved hW.alike hKc⟩⟩ rfl rfl hl.1 rfl (lv_room (Nat.le_of_ble_eq_true rfl)) dX3_groups_56 ⟨Nat.le_of_ble_eq_true rfl, Nat.le_of_ble_eq_true rfl⟩) (fun r56 h56 => ?_)
          obtain rfl : r56 = nI (bv w4_28 204 / 128 ^ k % 128) := h56.trans (by rw [sb_bits h28.1 (by omega)])
          refine lv_iload_n hx hb dX3_groups_59 rfl (lv_at hl 2 rfl) ?_
          refine lv_if_ne (tgt := 67) hx hb dX3_groups_60 (by decide) (fun c60 => ?_) (fun c60 => ?_)
          · refine lv_sipush (v := (nI 128)) hx hb dX3_groups_67 (by decide) ?_
            refine lv_iadd hx hb dX3_groups_70 ?_
            refine lv_topi (fun x70 e70 => ?_)
            obtain rfl : x70 = nI ((bv w4_28 204 / 128 ^ k % 128) + 128) := e70.trans (nI_add _ _)
            have hPc := hP.sub (ws' := [(ao, .inr (1, [.ref o1, .int (nI k)])), (o1, .inl (cI, 487, .inl (fun j => nI (wr2 j))))]) [4, 5] rfl
            have hKc := hK.sub (tys' := [(cI, .int)]) [0] rfl
            have hDc := hD.sub (ws' := [(ao, .inr (1, [.ref o1, .int (nI k)])), (o1, .inl (cI, 487, .inl (fun j => nI (wr2 j))))]) [4, 5] (by decide) rfl
            have hFc := va_free (wc := [(ao, .inr (1, [.ref o1, .int (nI k)])), (o1, .inl (cI, 487, .inl (fun j => nI (wr2 j))))]) hD hS hA [4, 5] rfl
            refine va_callv (va_runV (As := [.int (nI ((bv w4_28 204 / 128 ^ k % 128) + 128))]) (rest := []) ⟨hx, hb, hml, hown, hts⟩ (c_X1_addg l dC dI cI ao o1 487 k wr2 ((bv w4_28 204 / 128 ^ k % 128) + 128) H.size (by omega) (by omega)) (cwV 1 hts gX3_groups_X1_add rfl rfl rfl (by decide +kernel) ⟨Nat.le_of_ble_eq_true rfl, Nat.le_of_ble_eq_true rfl⟩) ⟨fun a U g mk q => by obtain ⟨q0, q1, qP, qK, qD⟩ := q; exact ⟨q0, q1, qP, va_K.moved (u := U) (U := U.calling g mk a) (Vm.Alike.refl U.vm) qK, qD⟩, va_recv hKc hPc (ci := 1) (q0 := 0) rfl rfl, fun U hU hW => ⟨rfl, by rw [hU], by rw [hU]; exact hPc, va_K.moved hW.alike hKc, hDc.weaken (fun _ _ _ _ => trivial)⟩⟩ rfl rfl hl.1 rfl (lv_room (Nat.le_of_ble_eq_true rfl)) dX3_groups_71 ⟨Nat.le_of_ble_eq_true rfl, Nat.le_of_ble_eq_true rfl⟩) hS (fun q _ h => hFc q h) hFc (fun uS tS H1 locs htS hvm h71 hB hzS hkS hS => ?_)
            obtain ⟨hP1, hK1, hD1⟩ := hB
            rw [htS] at hP1
            have hK1 := va_K.moved hvm.symm hK1
            try dsimp only at h71
            obtain ⟨hP, hD⟩ := va_join (wr := [(ax, .inr (3, [.ref ak, .ref ad, .ref ab, .ref ao, .ref aw])), (ak, .inr (0, [.ref k1, .ref k2, .int (nI n)])), (k1, .inl (cI, 8000, .inl (fun j => nI (g j)))), (k2, .inl (cI, 40, .inl (fun j => nI (z j)))), (aw, .inr (2, [.ref w1])), (w1, .inl (cI, 204, .inl (fun j => nI (w4_28 j))))]) (w1 := [(ao, .inr (1, [.ref o1, .int (nI (k + 1))])), (o1, .inl (cI, 487, .inl (fun j => nI (va_up wr2 k ((bv w4_28 204 / 128 ^ k % 128) + 128) j))))]) hP hD [4, 5] [0, 1, 2, 3, 6, 7] rfl rfl (by decide) (by decide) hkS hFc hP1 hD1
            generalize H1 = H at hP hS ⊢
            have hP : va_P (dC, dI) vwCl [(ax, .inr (3, [.ref ak, .ref ad, .ref ab, .ref ao, .ref aw])), (ak, .inr (0, [.ref k1, .ref k2, .int (nI n)])), (k1, .inl (cI, 8000, .inl (fun j => nI (g j)))), (k2, .inl (cI, 40, .inl (fun j => nI (z j)))), (aw, .inr (2, [.ref w1])), (w1, .inl (cI, 204, .inl (fun j => nI (w4_28 j)))), (ao, .inr (1, [.ref o1, .int (nI (k + 1))])), (o1, .inl (cI, 487, .inl (fun j => nI (va_up wr2 k ((bv w4_28 204 / 128 ^ k % 128) + 128) j))))] H := hP
            have hD : va_D A [(ax, .inr (3, [.ref ak, .ref ad, .ref ab, .ref ao, .ref aw])), (ak, .inr (0, [.ref k1, .ref k2, .int (nI n)])), (k1, .inl (cI, 8000, .inl (fun j => nI (g j)))), (k2, .inl (cI, 40, .inl (fun j => nI (z j)))), (aw, .inr (2, [.ref w1])), (w1, .inl (cI, 204, .inl (fun j => nI (w4_28 j)))), (ao, .inr (1, [.ref o1, .int (nI (k + 1))])), (o1, .inl (cI, 487, .inl (fun j => nI (va_up wr2 k ((bv w4_28 204 / 128 ^ k % 128) + 128) j))))] := hD
            obtain ⟨x74, e74⟩ : ∃ zz9 : Int32, zz9 = (nI k) + 1 := ⟨_, rfl⟩
            refine lv_iinc (v := x74) (lv' := [(2, .int x74), (0, .ref ax), (1, .int (nI a))]) hx hb dX3_groups_74 hl (k := 2) rfl (by rw [e74]; rfl) (by decide) rfl (fun ls hl => ?_)
            obtain rfl : x74 = nI (k + 1) := e74.trans (nI_1 k)
            refine lv_goto (tgt := 40) hx hb dX3_groups_77 (by decide) ?_
            exact ih40 (k + 1) (va_up wr2 k ((bv w4_28 204 / 128 ^ k % 128) + 128)) (by omega) (by omega) (up_lt hb2 (by have := Nat.mod_lt (bv w4_28 204 / 128 ^ k) (show 0 < 128 by decide); omega)) (gl_step hd (by rw [if_neg (fun y => c60 (by rw [y]; rfl))])) _ _ _ (hP.sub [0, 1, 2, 3, 6, 7, 4, 5] rfl) (hD.sub [0, 1, 2, 3, 6, 7, 4, 5] (by decide) rfl) hS (lv_sub hl [1, 2, 0] rfl)
          · refine lv_iconst (v := (nI 0)) hx hb dX3_groups_63 (by decide) ?_
            refine lv_goto (tgt := 70) hx hb dX3_groups_64 (by decide) ?_
            refine lv_iadd hx hb dX3_groups_70 ?_
            refine lv_topi (fun x70 e70 => ?_)
            obtain rfl : x70 = nI ((bv w4_28 204 / 128 ^ k % 128) + 0) := e70.trans (nI_add _ _)
            have hPc := hP.sub (ws' := [(ao, .inr (1, [.ref o1, .int (nI k)])), (o1, .inl (cI, 487, .inl (fun j => nI (wr2 j))))]) [4, 5] rfl
            have hKc := hK.sub (tys' := [(cI, .int)]) [0] rfl
            have hDc := hD.sub (ws' := [(ao, .inr (1, [.ref o1, .int (nI k)])), (o1, .inl (cI, 487, .inl (fun j => nI (wr2 j))))]) [4, 5] (by decide) rfl
            have hFc := va_free (wc := [(ao, .inr (1, [.ref o1, .int (nI k)])), (o1, .inl (cI, 487, .inl (fun j => nI (wr2 j))))]) hD hS hA [4, 5] rfl
            refine va_callv (va_runV (As := [.int (nI ((bv w4_28 204 / 128 ^ k % 128) + 0))]) (rest := []) ⟨hx, hb, hml, hown, hts⟩ (c_X1_addg l dC dI cI ao o1 487 k wr2 ((bv w4_28 204 / 128 ^ k % 128) + 0) H.size (by omega) (by omega)) (cwV 1 hts gX3_groups_X1_add rfl rfl rfl (by decide +kernel) ⟨Nat.le_of_ble_eq_true rfl, Nat.le_of_ble_eq_true rfl⟩) ⟨fun a U g mk q => by obtain ⟨q0, q1, qP, qK, qD⟩ := q; exact ⟨q0, q1, qP, va_K.moved (u := U) (U := U.calling g mk a) (Vm.Alike.refl U.vm) qK, qD⟩, va_recv hKc hPc (ci := 1) (q0 := 0) rfl rfl, fun U hU hW => ⟨rfl, by rw [hU], by rw [hU]; exact hPc, va_K.moved hW.alike hKc, hDc.weaken (fun _ _ _ _ => trivial)⟩⟩ rfl rfl hl.1 rfl (lv_room (Nat.le_of_ble_eq_true rfl)) dX3_groups_71 ⟨Nat.le_of_ble_eq_true rfl, Nat.le_of_ble_eq_true rfl⟩) hS (fun q _ h => hFc q h) hFc (fun uS tS H1 locs htS hvm h71 hB hzS hkS hS => ?_)
            obtain ⟨hP1, hK1, hD1⟩ := hB
            rw [htS] at hP1
            have hK1 := va_K.moved hvm.symm hK1
            try dsimp only at h71
            obtain ⟨hP, hD⟩ := va_join (wr := [(ax, .inr (3, [.ref ak, .ref ad, .ref ab, .ref ao, .ref aw])), (ak, .inr (0, [.ref k1, .ref k2, .int (nI n)])), (k1, .inl (cI, 8000, .inl (fun j => nI (g j)))), (k2, .inl (cI, 40, .inl (fun j => nI (z j)))), (aw, .inr (2, [.ref w1])), (w1, .inl (cI, 204, .inl (fun j => nI (w4_28 j))))]) (w1 := [(ao, .inr (1, [.ref o1, .int (nI (k + 1))])), (o1, .inl (cI, 487, .inl (fun j => nI (va_up wr2 k ((bv w4_28 204 / 128 ^ k % 128) + 0) j))))]) hP hD [4, 5] [0, 1, 2, 3, 6, 7] rfl rfl (by decide) (by decide) hkS hFc hP1 hD1
            generalize H1 = H at hP hS ⊢
            have hP : va_P (dC, dI) vwCl [(ax, .inr (3, [.ref ak, .ref ad, .ref ab, .ref ao, .ref aw])), (ak, .inr (0, [.ref k1, .ref k2, .int (nI n)])), (k1, .inl (cI, 8000, .inl (fun j => nI (g j)))), (k2, .inl (cI, 40, .inl (fun j => nI (z j)))), (aw, .inr (2, [.ref w1])), (w1, .inl (cI, 204, .inl (fun j => nI (w4_28 j)))), (ao, .inr (1, [.ref o1, .int (nI (k + 1))])), (o1, .inl (cI, 487, .inl (fun j => nI (va_up wr2 k ((bv w4_28 204 / 128 ^ k % 128) + 0) j))))] H := hP
            have hD : va_D A [(ax, .inr (3, [.ref ak, .ref ad, .ref ab, .ref ao, .ref aw])), (ak, .inr (0, [.ref k1, .ref k2, .int (nI n)])), (k1, .inl (cI, 8000, .inl (fun j => nI (g j)))), (k2, .inl (cI, 40, .inl (fun j => nI (z j)))), (aw, .inr (2, [.ref w1])), (w1, .inl (cI, 204, .inl (fun j => nI (w4_28 j)))), (ao, .inr (1, [.ref o1, .int (nI (k + 1))])), (o1, .inl (cI, 487, .inl (fun j => nI (va_up wr2 k ((bv w4_28 204 / 128 ^ k % 128) + 0) j))))] := hD
            obtain ⟨x74, e74⟩ : ∃ zz9 : Int32, zz9 = (nI k) + 1 := ⟨_, rfl⟩
            refine lv_iinc (v := x74) (lv' := [(2, .int x74), (0, .ref ax), (1, .int (nI a))]) hx hb dX3_groups_74 hl (k := 2) rfl (by rw [e74]; rfl) (by decide) rfl (fun ls hl => ?_)
            obtain rfl : x74 = nI (k + 1) := e74.trans (nI_1 k)
            refine lv_goto (tgt := 40) hx hb dX3_groups_77 (by decide) ?_
            exact ih40 (k + 1) (va_up wr2 k ((bv w4_28 204 / 128 ^ k % 128) + 0)) (by omega) (by omega) (up_lt hb2 (by have := Nat.mod_lt (bv w4_28 204 / 128 ^ k) (show 0 < 128 by decide); omega)) (gl_step hd (by rw [if_pos ((nI_eq (b := 0) (by omega) (by omega)).mp c60)])) _ _ _ (hP.sub [0, 1, 2, 3, 6, 7, 4, 5] rfl) (hD.sub [0, 1, 2, 3, 6, 7, 4, 5] (by decide) rfl) hS (lv_sub hl [1, 2, 0] rfl)
    exact LP40 _ 0 wr (Nat.lt_succ_self _) (by omega) hwr (fun j h => absurd h (by omega)) _ _ _ (hP.sub [0, 1, 2, 3, 6, 7, 4, 5] rfl) (hD.sub [0, 1, 2, 3, 6, 7, 4, 5] (by decide) rfl) hS (lv_sub hl [1, 2, 0] rfl)
  · have hat : ∀ w ∈ vx_atS RX3 46 eIA eNs, w.before _ s = true := vx_hat (B := twL) (fun w hw => hts w ((by decide +kernel : ∀ w ∈ (vx_atS RX3 46 eIA eNs).filter goodWord, w ∈ wsX3_groups) w hw)) (by decide +kernel) (fun w hw => hT.use hw)
    obtain ⟨sa, hsa⟩ := hT.2 (137, "no groups of a number below 0") (by decide +kernel)
    have hP9 := hP.sub (ws' := [(ax, .inr (3, [.ref ak, .ref ad, .ref ab, .ref ao, .ref aw])), (ak, .inr (0, [.ref k1, .ref k2, .int (nI n)])), (k1, .inl (cI, 8000, .inl (fun j => nI (g j)))), (k2, .inl (cI, 40, .inl (fun j => nI (z j)))), (ao, .inr (1, [.ref o1, .int (nI wn)])), (o1, .inl (cI, 487, .inl (fun j => nI (wr j)))), (aw, .inr (2, [.ref w1])), (w1, .inl (cI, 204, .inl (fun j => nI (w j))))]) [4, 5, 6, 7, 0, 1, 2, 3] rfl
    have hD9 := hD.sub (ws' := [(ax, .inr (3, [.ref ak, .ref ad, .ref ab, .ref ao, .ref aw])), (ak, .inr (0, [.ref k1, .ref k2, .int (nI n)])), (k1, .inl (cI, 8000, .inl (fun j => nI (g j)))), (k2, .inl (cI, 40, .inl (fun j => nI (z j)))), (ao, .inr (1, [.ref o1, .int (nI wn)])), (o1, .inl (cI, 487, .inl (fun j => nI (wr j)))), (aw, .inr (2, [.ref w1])), (w1, .inl (cI, 204, .inl (fun j => nI (w j))))]) [4, 5, 6, 7, 0, 1, 2, 3] (by decide) rfl
    have hK9 := hK.sub (tys' := [(cI, .int)]) [0] rfl
    exact vx_throwS (mc := 2) (ms := 12) hx hb hl9 hown (by decide +kernel) (by decide +kernel) (hts (.classLink RX3 42 "java/lang/IllegalArgumentException") (by decide +kernel)) (hts (.initialized "java/lang/IllegalArgumentException") (by decide +kernel)) hsa hat (by decide +kernel) hZ.1 hZ.2 hS (hl.1.trans hml.symm) dX3_groups_16 dX3_groups_19 dX3_groups_20 dX3_groups_22 dX3_groups_25 (fun x h => (hno x h).elim) (Nat.le_of_ble_eq_true rfl) (Nat.le_of_ble_eq_true rfl) (Nat.le_of_ble_eq_true rfl) (Nat.le_of_ble_eq_true rfl) hlocks (fun tS haS hzT hkT => ⟨(), trivial, ⟨(Or.inr ⟨rfl, a, rfl, ha, nv_neg hg (ite_s h10 c13)⟩), th_P hP9 hkT, va_K.moved haS hK9, hD9⟩, th_F hS hzT hkT⟩) hS.2.2 (by omega) (by omega)

def hn7 (wr : Nat → Nat) : Nat → Nat
  | 0 => 0
  | k + 1 => hn7 wr k * 128 + wr k % 128
def bs7 (f : Nat → Nat) : Nat → Nat
  | 0 => 0
  | k + 1 => bs7 f k + f k * 128 ^ k
theorem bs7_cons (f : Nat → Nat) (n : Nat) : bs7 f (n + 1) = f 0 + 128 * bs7 (fun j => f (j + 1)) n := by
  induction n with
  | zero => show 0 + f 0 * 128 ^ 0 = f 0 + 128 * 0; omega
  | succ n ih =>
    show bs7 f (n + 1) + f (n + 1) * 128 ^ (n + 1) = f 0 + 128 * (bs7 (fun j => f (j + 1)) n + f (n + 1) * 128 ^ n)
    rw [ih, Nat.pow_succ]
    generalize 128 ^ n = P
    grind
theorem bs7_congr {f f2 : Nat → Nat} {n : Nat} (h : ∀ i, i < n → f i = f2 i) : bs7 f n = bs7 f2 n := by
  induction n with
  | zero => rfl
  | succ n ih =>
    show bs7 f n + f n * 128 ^ n = bs7 f2 n + f2 n * 128 ^ n
    rw [ih (fun i hi => h i (by omega)), h n (by omega)]
theorem hn7_bs (wr : Nat → Nat) (m : Nat) : hn7 wr m = bs7 (fun i => wr (m - 1 - i) % 128) m := by
  induction m with
  | zero => rfl
  | succ m ih =>
    show hn7 wr m * 128 + wr m % 128 = _
    rw [bs7_cons, ih]
    have e : bs7 (fun j => wr (m + 1 - 1 - (j + 1)) % 128) m = bs7 (fun i => wr (m - 1 - i) % 128) m := bs7_congr (fun i hi => by rw [show m + 1 - 1 - (i + 1) = m - 1 - i from by omega])
    rw [e]
    show _ = wr (m + 1 - 1 - 0) % 128 + _
    rw [show m + 1 - 1 - 0 = m from by omega]
    omega
theorem hn7_lt (wr : Nat → Nat) (m : Nat) : hn7 wr m < 128 ^ m := by
  induction m with
  | zero => exact Nat.zero_lt_one
  | succ m ih =>
    show hn7 wr m * 128 + wr m % 128 < 128 ^ (m + 1)
    have := Nat.mod_lt (wr m) (show 0 < 128 by decide)
    rw [Nat.pow_succ]
    omega
theorem bv_up {w : Nat → Nat} {k v : Nat} : ∀ n, k < n → bv (va_up w k v) n + w k * 256 ^ k = bv w n + v * 256 ^ k := by
  intro n
  induction n with
  | zero => intro h; omega
  | succ n ih =>
    intro h
    rw [bv_s, bv_s]
    by_cases e : k = n
    · subst e
      rw [va_up_self, bv_congr (g2 := w) (fun i hi => va_up_ne _ _ (by omega))]
      omega
    · have := ih (by omega)
      rw [va_up_ne _ _ (show n ≠ k by omega)]
      omega
theorem bk_val {w : Nat → Nat} {k b : Nat} (hk : k < 230) (hz : w (7 * k / 8 + 1) = 0) :
    bv (va_up (va_up w (7 * k / 8) (w (7 * k / 8) + b * 2 ^ (7 * k % 8) % 2 ^ 8)) (7 * k / 8 + 1) (b * 2 ^ (7 * k % 8) / 2 ^ 8)) 204 = bv w 204 + b * 128 ^ k := by
  rw [p128]
  have hi : 7 * k / 8 + 2 ≤ 204 := by omega
  generalize 7 * k / 8 = i at *
  generalize 2 ^ (7 * k % 8) = S at *
  have h1 := bv_up (w := va_up w i (w i + b * S % 2 ^ 8)) (k := i + 1) (v := b * S / 2 ^ 8) 204 (by omega)
  have h2 := bv_up (w := w) (k := i) (v := w i + b * S % 2 ^ 8) 204 (by omega)
  rw [va_up_ne _ _ (show i + 1 ≠ i by omega), hz, pw_s] at h1
  have h3 := Nat.div_add_mod (b * S) (2 ^ 8)
  rw [show b * (256 ^ i * S) = (b * S) * 256 ^ i from by grind]
  generalize 256 ^ i = P at *
  generalize b * S = V at *
  have h4 : V / 2 ^ 8 * (256 * P) = (2 ^ 8 * (V / 2 ^ 8)) * P := by grind
  have h5 : V * P = (2 ^ 8 * (V / 2 ^ 8)) * P + V % 2 ^ 8 * P := by rw [← Nat.add_mul, h3]
  rw [Nat.add_mul] at h2
  omega
theorem bk_lo {w : Nat → Nat} {k b : Nat} (hb : b < 128) (hlo : w (7 * k / 8) < 2 ^ (7 * k % 8)) (hz : ∀ j, 7 * k / 8 < j → j < 204 → w j = 0) :
    (va_up (va_up w (7 * k / 8) (w (7 * k / 8) + b * 2 ^ (7 * k % 8) % 2 ^ 8)) (7 * k / 8 + 1) (b * 2 ^ (7 * k % 8) / 2 ^ 8)) (7 * (k + 1) / 8) < 2 ^ (7 * (k + 1) % 8) ∧
    ∀ j, 7 * (k + 1) / 8 < j → j < 204 → (va_up (va_up w (7 * k / 8) (w (7 * k / 8) + b * 2 ^ (7 * k % 8) % 2 ^ 8)) (7 * k / 8 + 1) (b * 2 ^ (7 * k % 8) / 2 ^ 8)) j = 0 := by
  have hs : 7 * k % 8 < 8 := Nat.mod_lt _ (by decide)
  by_cases h0 : 7 * k % 8 = 0
  · have e1 : 7 * (k + 1) / 8 = 7 * k / 8 := by omega
    have e2 : 7 * (k + 1) % 8 = 7 := by omega
    rw [h0] at hlo
    rw [e1, e2, h0]
    refine ⟨?_, fun j a c => ?_⟩
    · rw [va_up_ne _ _ (by omega), va_up_self]; simp only [Nat.reducePow] at *; omega
    · by_cases e : j = 7 * k / 8 + 1
      · subst e; rw [va_up_self]; simp only [Nat.reducePow]; omega
      · rw [va_up_ne _ _ e, va_up_ne _ _ (by omega)]; exact hz j a c
  · have e1 : 7 * (k + 1) / 8 = 7 * k / 8 + 1 := by omega
    have e2 : 7 * (k + 1) % 8 = 7 * k % 8 - 1 := by omega
    rw [e1, e2]
    refine ⟨?_, fun j a c => ?_⟩
    · rw [va_up_self]
      generalize 7 * k % 8 = s at *
      rcases (show s = 1 ∨ s = 2 ∨ s = 3 ∨ s = 4 ∨ s = 5 ∨ s = 6 ∨ s = 7 by omega) with rfl | rfl | rfl | rfl | rfl | rfl | rfl <;> simp only [Nat.reducePow, Nat.reduceSub] <;> omega
    · rw [va_up_ne _ _ (by omega), va_up_ne _ _ (by omega)]; exact hz j (by omega) c
theorem bk_b8 {w : Nat → Nat} {k b : Nat} (hw : ∀ j, w j < 256) (hb : b < 128) (hlo : w (7 * k / 8) < 2 ^ (7 * k % 8)) : w (7 * k / 8) + b * 2 ^ (7 * k % 8) % 2 ^ 8 < 256 := by
  have hs : 7 * k % 8 < 8 := Nat.mod_lt _ (by decide)
  generalize 7 * k % 8 = s at *
  rcases (show s = 0 ∨ s = 1 ∨ s = 2 ∨ s = 3 ∨ s = 4 ∨ s = 5 ∨ s = 6 ∨ s = 7 by omega) with rfl | rfl | rfl | rfl | rfl | rfl | rfl | rfl <;> simp only [Nat.reducePow] at * <;> omega
theorem bk_sv {w : Nat → Nat} {v n : Nat} (hw : ∀ j, w j < 256) (h : bv w 204 = v) (hv : v < 128 ^ n) (hn : n ≤ 229) : sv w 204 = v := by
  have h1 : 128 ^ n ≤ 128 ^ 229 := Nat.pow_le_pow_right (by decide) hn
  have h2 : 128 ^ 229 < 128 * 256 ^ 203 := by decide +kernel
  have h3 := pw_pos 203
  unfold sv
  by_cases c : 128 ≤ w (204 - 1)
  · exfalso
    have e : bv w 204 = bv w 203 + w 203 * 256 ^ 203 := bv_s w 203
    have m : 128 * 256 ^ 203 ≤ w 203 * 256 ^ 203 := Nat.mul_le_mul_right _ c
    have ge : 128 * 256 ^ 203 ≤ v := by rw [← h, e]; exact Nat.le_trans m (Nat.le_add_left _ _)
    exact Nat.lt_irrefl _ (Nat.lt_of_lt_of_le (Nat.lt_of_lt_of_le hv h1) (Nat.le_trans (Nat.le_of_lt h2) ge))
  · rw [if_neg c, h]

set_option maxHeartbeats 4000000 in
set_option maxRecDepth 100000 in
theorem c_X3_back (l : Launch) (hl9 : l.stackTraces = false) (dC : Nat → ClassId) (dI : Nat → Nat → Nat) (cI : ClassId) (ax ak ad ab ao aw : Nat) (k1 k2 n : Nat) (g z : Nat → Nat) (o1 wn : Nat) (wr : Nat → Nat) (w1 : Nat) (w : Nat → Nat) (sz : Nat) (hI : XK n g z) (hwn : wn ≤ 487) (hwr : ∀ j, wr j < 256) (hw : ∀ j, w j < 256) : vx_Met l yX3_back wsX3_back ({ frames := 7, cells := 1, slots := 6, locals := 109 } : Room) (va_Pc [.ref ax] (fun U => U.heap.size = sz ∧ va_P (dC, dI) vwCl [(ax, .inr (3, [.ref ak, .ref ad, .ref ab, .ref ao, .ref aw])), (ak, .inr (0, [.ref k1, .ref k2, .int (nI n)])), (k1, .inl (cI, 8000, .inl (fun j => nI (g j)))), (k2, .inl (cI, 40, .inl (fun j => nI (z j)))), (ao, .inr (1, [.ref o1, .int (nI wn)])), (o1, .inl (cI, 487, .inl (fun j => nI (wr j)))), (aw, .inr (2, [.ref w1])), (w1, .inl (cI, 204, .inl (fun j => nI (w j))))] U.heap ∧ va_K (dC, dI) vwCl [(cI, .int)] U ∧ va_D (fun _ => True) [(ax, .inr (3, [.ref ak, .ref ad, .ref ab, .ref ao, .ref aw])), (ak, .inr (0, [.ref k1, .ref k2, .int (nI n)])), (k1, .inl (cI, 8000, .inl (fun j => nI (g j)))), (k2, .inl (cI, 40, .inl (fun j => nI (z j)))), (ao, .inr (1, [.ref o1, .int (nI wn)])), (o1, .inl (cI, 487, .inl (fun j => nI (wr j)))), (aw, .inr (2, [.ref w1])), (w1, .inl (cI, 204, .inl (fun j => nI (w j))))] ∧ tz (va_A [(ax, .inr (3, [.ref ak, .ref ad, .ref ab, .ref ao, .ref aw])), (ak, .inr (0, [.ref k1, .ref k2, .int (nI n)])), (k1, .inl (cI, 8000, .inl (fun j => nI (g j)))), (k2, .inl (cI, 40, .inl (fun j => nI (z j)))), (ao, .inr (1, [.ref o1, .int (nI wn)])), (o1, .inl (cI, 487, .inl (fun j => nI (wr j)))), (aw, .inr (2, [.ref w1])), (w1, .inl (cI, 204, .inl (fun j => nI (w j))))] sz) U U.heap ∧ tw U)) (va_Qi (fun (r : Int32) (uS : (Nat → Nat) × (Nat → Nat) × (Nat → Nat)) => match uS with | (g3, z3, w3) => (∀ j, w3 j < 256) ∧ (wn ≤ 229 ∧ GR wn wr) ∧ KEPT n g z g3 z3 (hn7 wr wn) r) (fun (uS : (Nat → Nat) × (Nat → Nat) × (Nat → Nat)) (tS : State) => match uS with | (g3, z3, w3) => va_P (dC, dI) vwCl [(ax, .inr (3, [.ref ak, .ref ad, .ref ab, .ref ao, .ref aw])), (ak, .inr (0, [.ref k1, .ref k2, .int (nI (n + 1))])), (k1, .inl (cI, 8000, .inl (fun j => nI (g3 j)))), (k2, .inl (cI, 40, .inl (fun j => nI (z3 j)))), (ao, .inr (1, [.ref o1, .int (nI wn)])), (o1, .inl (cI, 487, .inl (fun j => nI (wr j)))), (aw, .inr (2, [.ref w1])), (w1, .inl (cI, 204, .inl (fun j => nI (w3 j))))] tS.heap ∧ va_K (dC, dI) vwCl [(cI, .int)] tS ∧ va_D (va_A [(ax, .inr (3, [.ref ak, .ref ad, .ref ab, .ref ao, .ref aw])), (ak, .inr (0, [.ref k1, .ref k2, .int (nI n)])), (k1, .inl (cI, 8000, .inl (fun j => nI (g j)))), (k2, .inl (cI, 40, .inl (fun j => nI (z j)))), (ao, .inr (1, [.ref o1, .int (nI wn)])), (o1, .inl (cI, 487, .inl (fun j => nI (wr j)))), (aw, .inr (2, [.ref w1])), (w1, .inl (cI, 204, .inl (fun j => nI (w j))))] sz) [(ax, .inr (3, [.ref ak, .ref ad, .ref ab, .ref ao, .ref aw])), (ak, .inr (0, [.ref k1, .ref k2, .int (nI (n + 1))])), (k1, .inl (cI, 8000, .inl (fun j => nI (g3 j)))), (k2, .inl (cI, 40, .inl (fun j => nI (z3 j)))), (ao, .inr (1, [.ref o1, .int (nI wn)])), (o1, .inl (cI, 487, .inl (fun j => nI (wr j)))), (aw, .inr (2, [.ref w1])), (w1, .inl (cI, 204, .inl (fun j => nI (w3 j))))]) (va_A [(ax, .inr (3, [.ref ak, .ref ad, .ref ab, .ref ao, .ref aw])), (ak, .inr (0, [.ref k1, .ref k2, .int (nI n)])), (k1, .inl (cI, 8000, .inl (fun j => nI (g j)))), (k2, .inl (cI, 40, .inl (fun j => nI (z j)))), (ao, .inr (1, [.ref o1, .int (nI wn)])), (o1, .inl (cI, 487, .inl (fun j => nI (wr j)))), (aw, .inr (2, [.ref w1])), (w1, .inl (cI, 204, .inl (fun j => nI (w j))))] sz)) (vx_X (fun (_ : Nat → Nat) => True) (fun (E : String) (wX : Nat → Nat) (tS : State) => ((∀ j, wX j < 256) ∧ ((E = eIA ∧ ¬ (wn ≤ 229 ∧ GR wn wr)) ∨ (E = eUO ∧ (wn ≤ 229 ∧ GR wn wr) ∧ NOKEEP n (hn7 wr wn)))) ∧ va_P (dC, dI) vwCl [(ax, .inr (3, [.ref ak, .ref ad, .ref ab, .ref ao, .ref aw])), (ak, .inr (0, [.ref k1, .ref k2, .int (nI n)])), (k1, .inl (cI, 8000, .inl (fun j => nI (g j)))), (k2, .inl (cI, 40, .inl (fun j => nI (z j)))), (ao, .inr (1, [.ref o1, .int (nI wn)])), (o1, .inl (cI, 487, .inl (fun j => nI (wr j)))), (aw, .inr (2, [.ref w1])), (w1, .inl (cI, 204, .inl (fun j => nI (wX j))))] tS.heap ∧ va_K (dC, dI) vwCl [(cI, .int)] tS ∧ va_D (va_A [(ax, .inr (3, [.ref ak, .ref ad, .ref ab, .ref ao, .ref aw])), (ak, .inr (0, [.ref k1, .ref k2, .int (nI n)])), (k1, .inl (cI, 8000, .inl (fun j => nI (g j)))), (k2, .inl (cI, 40, .inl (fun j => nI (z j)))), (ao, .inr (1, [.ref o1, .int (nI wn)])), (o1, .inl (cI, 487, .inl (fun j => nI (wr j)))), (aw, .inr (2, [.ref w1])), (w1, .inl (cI, 204, .inl (fun j => nI (w j))))] sz) [(ax, .inr (3, [.ref ak, .ref ad, .ref ab, .ref ao, .ref aw])), (ak, .inr (0, [.ref k1, .ref k2, .int (nI n)])), (k1, .inl (cI, 8000, .inl (fun j => nI (g j)))), (k2, .inl (cI, 40, .inl (fun j => nI (z j)))), (ao, .inr (1, [.ref o1, .int (nI wn)])), (o1, .inl (cI, 487, .inl (fun j => nI (wr j)))), (aw, .inr (2, [.ref w1])), (w1, .inl (cI, 204, .inl (fun j => nI (wX j))))]) (va_A [(ax, .inr (3, [.ref ak, .ref ad, .ref ab, .ref ao, .ref aw])), (ak, .inr (0, [.ref k1, .ref k2, .int (nI n)])), (k1, .inl (cI, 8000, .inl (fun j => nI (g j)))), (k2, .inl (cI, 40, .inl (fun j => nI (z j)))), (ao, .inr (1, [.ref o1, .int (nI wn)])), (o1, .inl (cI, 487, .inl (fun j => nI (wr j)))), (aw, .inr (2, [.ref w1])), (w1, .inl (cI, 204, .inl (fun j => nI (w j))))] sz)) 1 6 (va_A [(ax, .inr (3, [.ref ak, .ref ad, .ref ab, .ref ao, .ref aw])), (ak, .inr (0, [.ref k1, .ref k2, .int (nI n)])), (k1, .inl (cI, 8000, .inl (fun j => nI (g j)))), (k2, .inl (cI, 40, .inl (fun j => nI (z j)))), (ao, .inr (1, [.ref o1, .int (nI wn)])), (o1, .inl (cI, 487, .inl (fun j => nI (wr j)))), (aw, .inr (2, [.ref w1])), (w1, .inl (cI, 204, .inl (fun j => nI (w j))))] sz) := by
  refine vx_ofW (cc := cX3_back) (maxL := 3) (ret := (some .int)) (by decide) rfl ?_
  intro p e s m args below meth c s₁ B hml hno hv
  obtain ⟨rfl, hsz, hP, hK, hD0, hZ, hT⟩ := hv
  have hx := B.exec
  have hb := B.bytes
  have hr := B.returns
  have hts := atoms_spec (ws := wsX3_back) B.pre
  have hown : s.vm.findClass RX3 = some m.cls := findClass_of_methodNamed B.named
  have hlocks := B.notSynchronized
  subst hsz
  have hD := hD0.self (sz := s.heap.size)
  generalize hAe : va_A [(ax, .inr (3, [.ref ak, .ref ad, .ref ab, .ref ao, .ref aw])), (ak, .inr (0, [.ref k1, .ref k2, .int (nI n)])), (k1, .inl (cI, 8000, .inl (fun j => nI (g j)))), (k2, .inl (cI, 40, .inl (fun j => nI (z j)))), (ao, .inr (1, [.ref o1, .int (nI wn)])), (o1, .inl (cI, 487, .inl (fun j => nI (wr j)))), (aw, .inr (2, [.ref w1])), (w1, .inl (cI, 204, .inl (fun j => nI (w j))))] s.heap.size = A at hD hZ ⊢
  have hA : ∀ q : Nat, s.heap.size ≤ q → A q := fun q h => by rw [← hAe]; exact Or.inr h
  have hS : va_S A s.heap s.heap [] := va_S.rf
  have hinX0 : ∀ w ∈ wsX00, w ∈ wsX3_back := by decide +kernel
  have hinX1 : ∀ w ∈ wsX10, w ∈ wsX3_back := by decide +kernel
  have hinX2 : ∀ w ∈ wsX20, w ∈ wsX3_back := by decide +kernel
  have hinX3 : ∀ w ∈ wsX30, w ∈ wsX3_back := by decide +kernel
  have hl := lv_entry ([.ref ax]) (n := 3) (Nat.le_of_ble_eq_true rfl)
  rw [lg_entry_eq]
  generalize (lg_sl ([.ref ax]) ++ List.replicate (3 - (lg_sl ([.ref ax])).length) Slot.unset).toArray = ls at hl ⊢
  have hl : lv_has ls 3 [(0, .ref ax)] := hl
  obtain ⟨hg, hn, hz, hq⟩ := id hI
  refine lv_aload_n hx hb dX3_back_0 rfl (lv_at hl 0 rfl) ?_
  have hPc := hP.sub (ws' := [(ax, .inr (3, [.ref ak, .ref ad, .ref ab, .ref ao, .ref aw])), (ao, .inr (1, [.ref o1, .int (nI wn)])), (o1, .inl (cI, 487, .inl (fun j => nI (wr j))))]) [0, 4, 5] rfl
  have hKc := hK.sub (tys' := [(cI, .int)]) [0] rfl
  refine vp_callSi (W.runV (As := []) (rest := []) ⟨hx, hb, hml, hown, hts⟩ (c_X3_isWrittenInGroups l dC dI cI ax ak ad ab ao aw o1 wn wr hwn hwr) (cwV 0 hts gX3_back_X3_isWrittenInGroups rfl rfl rfl (by decide +kernel) ⟨Nat.le_of_ble_eq_true rfl, Nat.le_of_ble_eq_true rfl⟩) ⟨fun a U g mk q => by obtain ⟨q0, qP, qK⟩ := q; exact ⟨q0, qP, va_K.moved (u := U) (U := U.calling g mk a) (Vm.Alike.refl U.vm) qK⟩, va_recv hK hP (ci := 3) (q0 := 0) rfl rfl, fun U hU hW => ⟨rfl, by rw [hU]; exact hPc, va_K.moved hW.alike hKc⟩⟩ rfl rfl hl.1 rfl (lv_room (Nat.le_of_ble_eq_true rfl)) dX3_back_1 ⟨Nat.le_of_ble_eq_true rfl, Nat.le_of_ble_eq_true rfl⟩) (fun r1 h1 => ?_)
  refine lv_if_ne (tgt := 17) hx hb dX3_back_4 (by decide) (fun c4 => ?_) (fun c4 => ?_)
  · have hgr := ite_s h1 c4
    refine lv_aload_n hx hb dX3_back_17 rfl (lv_at hl 0 rfl) ?_
    refine va_get (D := (dC, dI)) (ci := 3) (v := .ref aw) (C := RX3) (T := TX3) (N := 5) hx hb hts hinX3 hown hK hP 0 rfl rfl 4 (by decide) (hts (.fieldLink RX3 34 "NumberContents" "wide" "LNumberContents$Wide;") (by decide +kernel)) (fun _ h9 => h9) rfl dX3_back_18 ?_
    refine lv_iconst (v := (nI 0)) hx hb dX3_back_21 (by decide) ?_
    have hPc := hP.sub (ws' := [(aw, .inr (2, [.ref w1])), (w1, .inl (cI, 204, .inl (fun j => nI (w j))))]) [6, 7] rfl
    have hKc := hK.sub (tys' := [(cI, .int)]) [0] rfl
    have hDc := hD.sub (ws' := [(aw, .inr (2, [.ref w1])), (w1, .inl (cI, 204, .inl (fun j => nI (w j))))]) [6, 7] (by decide) rfl
    have hFc := va_free (wc := [(aw, .inr (2, [.ref w1])), (w1, .inl (cI, 204, .inl (fun j => nI (w j))))]) hD hS hA [6, 7] rfl
    refine va_callv (va_runV (As := [.int (nI 0)]) (rest := []) ⟨hx, hb, hml, hown, hts⟩ (c_X2_fill l dC dI cI aw w1 w 0 s.heap.size ) (cwV 1 hts gX3_back_X2_fill rfl rfl rfl (by decide +kernel) ⟨Nat.le_of_ble_eq_true rfl, Nat.le_of_ble_eq_true rfl⟩) ⟨fun a U g mk q => by obtain ⟨q0, q1, qP, qK, qD⟩ := q; exact ⟨q0, q1, qP, va_K.moved (u := U) (U := U.calling g mk a) (Vm.Alike.refl U.vm) qK, qD⟩, va_recv hKc hPc (ci := 2) (q0 := 0) rfl rfl, fun U hU hW => ⟨rfl, by rw [hU], by rw [hU]; exact hPc, va_K.moved hW.alike hKc, hDc.weaken (fun _ _ _ _ => trivial)⟩⟩ rfl rfl hl.1 rfl (lv_room (Nat.le_of_ble_eq_true rfl)) dX3_back_22 ⟨Nat.le_of_ble_eq_true rfl, Nat.le_of_ble_eq_true rfl⟩) hS (fun q _ h => hFc q h) hFc (fun uS tS H1 locs htS hvm h22 hB hzS hkS hS => ?_)
    obtain ⟨g3_22, rfl⟩ : ∃ z, z = uS := ⟨_, rfl⟩
    obtain ⟨hP1, hK1, hD1⟩ := hB
    rw [htS] at hP1
    have hK1 := va_K.moved hvm.symm hK1
    try dsimp only at h22
    obtain ⟨hP, hD⟩ := va_join (wr := [(ax, .inr (3, [.ref ak, .ref ad, .ref ab, .ref ao, .ref aw])), (ak, .inr (0, [.ref k1, .ref k2, .int (nI n)])), (k1, .inl (cI, 8000, .inl (fun j => nI (g j)))), (k2, .inl (cI, 40, .inl (fun j => nI (z j)))), (ao, .inr (1, [.ref o1, .int (nI wn)])), (o1, .inl (cI, 487, .inl (fun j => nI (wr j))))]) (w1 := [(aw, .inr (2, [.ref w1])), (w1, .inl (cI, 204, .inl (fun j => nI (g3_22 j))))]) hP hD [6, 7] [0, 1, 2, 3, 4, 5] rfl rfl (by decide) (by decide) hkS hFc hP1 hD1
    generalize H1 = H at hP hS ⊢
    have hP : va_P (dC, dI) vwCl [(ax, .inr (3, [.ref ak, .ref ad, .ref ab, .ref ao, .ref aw])), (ak, .inr (0, [.ref k1, .ref k2, .int (nI n)])), (k1, .inl (cI, 8000, .inl (fun j => nI (g j)))), (k2, .inl (cI, 40, .inl (fun j => nI (z j)))), (ao, .inr (1, [.ref o1, .int (nI wn)])), (o1, .inl (cI, 487, .inl (fun j => nI (wr j)))), (aw, .inr (2, [.ref w1])), (w1, .inl (cI, 204, .inl (fun j => nI (g3_22 j))))] H := hP
    have hD : va_D A [(ax, .inr (3, [.ref ak, .ref ad, .ref ab, .ref ao, .ref aw])), (ak, .inr (0, [.ref k1, .ref k2, .int (nI n)])), (k1, .inl (cI, 8000, .inl (fun j => nI (g j)))), (k2, .inl (cI, 40, .inl (fun j => nI (z j)))), (ao, .inr (1, [.ref o1, .int (nI wn)])), (o1, .inl (cI, 487, .inl (fun j => nI (wr j)))), (aw, .inr (2, [.ref w1])), (w1, .inl (cI, 204, .inl (fun j => nI (g3_22 j))))] := hD
    refine lv_aload_n hx hb dX3_back_25 rfl (lv_at hl 0 rfl) ?_
    refine va_get (D := (dC, dI)) (ci := 3) (v := .ref ao) (C := RX3) (T := TX3) (N := 5) hx hb hts hinX3 hown hK hP 0 rfl rfl 3 (by decide) (hts (.fieldLink RX3 28 "NumberContents" "written" "LNumberContents$Row;") (by decide +kernel)) (fun _ h9 => h9) rfl dX3_back_26 ?_
    have hPc := hP.sub (ws' := [(ao, .inr (1, [.ref o1, .int (nI wn)])), (o1, .inl (cI, 487, .inl (fun j => nI (wr j))))]) [4, 5] rfl
    have hKc := hK.sub (tys' := [(cI, .int)]) [0] rfl
    refine vp_callSi (W.runV (As := []) (rest := []) ⟨hx, hb, hml, hown, hts⟩ (c_X1_length l dC dI cI ao o1 487 wn (fun j => nI (wr j)) ) (cwV 0 hts gX3_back_X1_length rfl rfl rfl (by decide +kernel) ⟨Nat.le_of_ble_eq_true rfl, Nat.le_of_ble_eq_true rfl⟩) ⟨fun a U g mk q => by obtain ⟨q0, qP, qK⟩ := q; exact ⟨q0, qP, va_K.moved (u := U) (U := U.calling g mk a) (Vm.Alike.refl U.vm) qK⟩, va_recv hK hP (ci := 1) (q0 := 4) rfl rfl, fun U hU hW => ⟨rfl, by rw [hU]; exact hPc, va_K.moved hW.alike hKc⟩⟩ rfl rfl hl.1 rfl (lv_room (Nat.le_of_ble_eq_true rfl)) dX3_back_29 ⟨Nat.le_of_ble_eq_true rfl, Nat.le_of_ble_eq_true rfl⟩) (fun r29 h29 => ?_)
    obtain rfl : r29 = nI wn := h29
    refine lv_istore_n (lv' := [(1, .int (nI wn)), (0, .ref ax)]) hx hb dX3_back_32 rfl hl (by decide) rfl (fun ls hl => ?_)
    refine lv_iconst (v := (nI 0)) hx hb dX3_back_33 (by decide) ?_
    refine lv_istore_n (lv' := [(2, .int (nI 0)), (1, .int (nI wn)), (0, .ref ax)]) hx hb dX3_back_34 rfl hl (by decide) rfl (fun ls hl => ?_)
    have LP35 : ∀ (n9 : Nat) (k : Nat) (w2 : Nat → Nat) (hm : (wn - k) < n9) (hk : k ≤ wn) (hw2 : ∀ j, w2 j < 256) (hlo : w2 (7 * k / 8) < 2 ^ (7 * k % 8)) (hz2 : ∀ j, 7 * k / 8 < j → j < 204 → w2 j = 0) (hv : bv w2 204 = bs7 (fun i => wr (wn - 1 - i) % 128) k) (H : Heap) (locs : List Loc) (ls : Array Slot) (hP : va_P (dC, dI) vwCl [(ax, .inr (3, [.ref ak, .ref ad, .ref ab, .ref ao, .ref aw])), (ak, .inr (0, [.ref k1, .ref k2, .int (nI n)])), (k1, .inl (cI, 8000, .inl (fun j => nI (g j)))), (k2, .inl (cI, 40, .inl (fun j => nI (z j)))), (ao, .inr (1, [.ref o1, .int (nI wn)])), (o1, .inl (cI, 487, .inl (fun j => nI (wr j)))), (aw, .inr (2, [.ref w1])), (w1, .inl (cI, 204, .inl (fun j => nI (w2 j))))] H) (hD : va_D A [(ax, .inr (3, [.ref ak, .ref ad, .ref ab, .ref ao, .ref aw])), (ak, .inr (0, [.ref k1, .ref k2, .int (nI n)])), (k1, .inl (cI, 8000, .inl (fun j => nI (g j)))), (k2, .inl (cI, 40, .inl (fun j => nI (z j)))), (ao, .inr (1, [.ref o1, .int (nI wn)])), (o1, .inl (cI, 487, .inl (fun j => nI (wr j)))), (aw, .inr (2, [.ref w1])), (w1, .inl (cI, 204, .inl (fun j => nI (w2 j))))]) (hS : va_S A s.heap H locs) (hl : lv_has ls 3 [(0, .ref ax), (1, .int (nI wn)), (2, .int (nI k))]), W p l e (headSpec wsX3_back ({ frames := 7, cells := 1, slots := 6, locals := 109 } : Room)).room s m ([.ref ax]).toArray below meth c H locs 0 0 (vx_MQ below (va_Qi (fun (r : Int32) (uS : (Nat → Nat) × (Nat → Nat) × (Nat → Nat)) => match uS with | (g3, z3, w3) => (∀ j, w3 j < 256) ∧ (wn ≤ 229 ∧ GR wn wr) ∧ KEPT n g z g3 z3 (hn7 wr wn) r) (fun (uS : (Nat → Nat) × (Nat → Nat) × (Nat → Nat)) (tS : State) => match uS with | (g3, z3, w3) => va_P (dC, dI) vwCl [(ax, .inr (3, [.ref ak, .ref ad, .ref ab, .ref ao, .ref aw])), (ak, .inr (0, [.ref k1, .ref k2, .int (nI (n + 1))])), (k1, .inl (cI, 8000, .inl (fun j => nI (g3 j)))), (k2, .inl (cI, 40, .inl (fun j => nI (z3 j)))), (ao, .inr (1, [.ref o1, .int (nI wn)])), (o1, .inl (cI, 487, .inl (fun j => nI (wr j)))), (aw, .inr (2, [.ref w1])), (w1, .inl (cI, 204, .inl (fun j => nI (w3 j))))] tS.heap ∧ va_K (dC, dI) vwCl [(cI, .int)] tS ∧ va_D A [(ax, .inr (3, [.ref ak, .ref ad, .ref ab, .ref ao, .ref aw])), (ak, .inr (0, [.ref k1, .ref k2, .int (nI (n + 1))])), (k1, .inl (cI, 8000, .inl (fun j => nI (g3 j)))), (k2, .inl (cI, 40, .inl (fun j => nI (z3 j)))), (ao, .inr (1, [.ref o1, .int (nI wn)])), (o1, .inl (cI, 487, .inl (fun j => nI (wr j)))), (aw, .inr (2, [.ref w1])), (w1, .inl (cI, 204, .inl (fun j => nI (w3 j))))]) A) (vx_X (fun (_ : Nat → Nat) => True) (fun (E : String) (wX : Nat → Nat) (tS : State) => ((∀ j, wX j < 256) ∧ ((E = eIA ∧ ¬ (wn ≤ 229 ∧ GR wn wr)) ∨ (E = eUO ∧ (wn ≤ 229 ∧ GR wn wr) ∧ NOKEEP n (hn7 wr wn)))) ∧ va_P (dC, dI) vwCl [(ax, .inr (3, [.ref ak, .ref ad, .ref ab, .ref ao, .ref aw])), (ak, .inr (0, [.ref k1, .ref k2, .int (nI n)])), (k1, .inl (cI, 8000, .inl (fun j => nI (g j)))), (k2, .inl (cI, 40, .inl (fun j => nI (z j)))), (ao, .inr (1, [.ref o1, .int (nI wn)])), (o1, .inl (cI, 487, .inl (fun j => nI (wr j)))), (aw, .inr (2, [.ref w1])), (w1, .inl (cI, 204, .inl (fun j => nI (wX j))))] tS.heap ∧ va_K (dC, dI) vwCl [(cI, .int)] tS ∧ va_D A [(ax, .inr (3, [.ref ak, .ref ad, .ref ab, .ref ao, .ref aw])), (ak, .inr (0, [.ref k1, .ref k2, .int (nI n)])), (k1, .inl (cI, 8000, .inl (fun j => nI (g j)))), (k2, .inl (cI, 40, .inl (fun j => nI (z j)))), (ao, .inr (1, [.ref o1, .int (nI wn)])), (o1, .inl (cI, 487, .inl (fun j => nI (wr j)))), (aw, .inr (2, [.ref w1])), (w1, .inl (cI, 204, .inl (fun j => nI (wX j))))]) A) ([.ref ax]).toArray s 1 6 A) (F0 m 35 ls []) := by
      intro n9
      induction n9 with
      | zero => intro k w2 hm; exact absurd hm (Nat.not_lt_zero _)
      | succ n9 ih =>
        intro k w2 hm hk hw2 hlo hz2 hv H locs ls hP hD hS hl
        have ih35 := ih
        refine lv_iload_n hx hb dX3_back_35 rfl (lv_at hl 2 rfl) ?_
        refine lv_iload_n hx hb dX3_back_36 rfl (lv_at hl 1 rfl) ?_
        refine lv_icmp_ge (tgt := 69) hx hb dX3_back_37 (by decide) (fun c37 => ?_) (fun c37 => ?_)
        · obtain rfl : wn = k := (Nat.le_antisymm hk ((nI_leI (by omega) (by omega)).mp c37)).symm
          have hZ69 : sv w2 204 = (hn7 wr wn : Int) := bk_sv hw2 (hv.trans (hn7_bs wr wn).symm) (hn7_lt wr wn) hgr.1
          refine lv_aload_n hx hb dX3_back_69 rfl (lv_at hl 0 rfl) ?_
          have hPc := hP.sub (ws' := [(ax, .inr (3, [.ref ak, .ref ad, .ref ab, .ref ao, .ref aw])), (ak, .inr (0, [.ref k1, .ref k2, .int (nI n)])), (k1, .inl (cI, 8000, .inl (fun j => nI (g j)))), (k2, .inl (cI, 40, .inl (fun j => nI (z j)))), (aw, .inr (2, [.ref w1])), (w1, .inl (cI, 204, .inl (fun j => nI (w2 j))))]) [0, 1, 2, 3, 6, 7] rfl
          have hKc := hK.sub (tys' := [(cI, .int)]) [0] rfl
          have hDc := hD.sub (ws' := [(ax, .inr (3, [.ref ak, .ref ad, .ref ab, .ref ao, .ref aw])), (ak, .inr (0, [.ref k1, .ref k2, .int (nI n)])), (k1, .inl (cI, 8000, .inl (fun j => nI (g j)))), (k2, .inl (cI, 40, .inl (fun j => nI (z j)))), (aw, .inr (2, [.ref w1])), (w1, .inl (cI, 204, .inl (fun j => nI (w2 j))))]) [0, 1, 2, 3, 6, 7] (by decide) rfl
          have hFc := va_free (wc := [(ax, .inr (3, [.ref ak, .ref ad, .ref ab, .ref ao, .ref aw])), (ak, .inr (0, [.ref k1, .ref k2, .int (nI n)])), (k1, .inl (cI, 8000, .inl (fun j => nI (g j)))), (k2, .inl (cI, 40, .inl (fun j => nI (z j)))), (aw, .inr (2, [.ref w1])), (w1, .inl (cI, 204, .inl (fun j => nI (w2 j))))]) hD hS hA [0, 1, 2, 3, 6, 7] rfl
          refine vx_calli (vx_runV (As := []) (rest := []) ⟨hx, hb, hml, hown, hts⟩ (c_X3_keepWide l hl9 dC dI cI ax ak ad ab ao aw k1 k2 n g z w1 w2 H.size hI hw2) (cwV 0 hts gX3_back_X3_keepWide rfl rfl rfl (by decide +kernel) ⟨Nat.le_of_ble_eq_true rfl, Nat.le_of_ble_eq_true rfl⟩) ⟨fun a U g mk q => by obtain ⟨q0, q1, qP, qK, qD, qZ, qT⟩ := q; exact ⟨q0, q1, qP, va_K.moved (u := U) (U := U.calling g mk a) (Vm.Alike.refl U.vm) qK, qD, tz.moved (u := U) (U := U.calling g mk a) (Vm.Alike.refl U.vm) qZ, tw.same (u := U) (U := U.calling g mk a) rfl qT⟩, va_recv hKc hPc (ci := 3) (q0 := 0) rfl rfl, fun U hU hW => ⟨rfl, by rw [hU], by rw [hU]; exact hPc, va_K.moved hW.alike hKc, hDc.weaken (fun _ _ _ _ => trivial), hZ.call hS hU hW hFc, hT.warm hW⟩⟩ rfl rfl hl.1 rfl (lv_room (Nat.le_of_ble_eq_true rfl)) dX3_back_70 ⟨Nat.le_of_ble_eq_true rfl, Nat.le_of_ble_eq_true rfl⟩) hS (fun q _ h => hFc q h) hFc (fun q _ h => hFc q h) (fun E ce q9 uX tX H1 locs htX hvmX _ hBX hzS hkS hS hce hcv hcl => ?_) (fun r70 uS tS H1 locs htS hvm h70 hB hzS hkS hS => ?_)
          · obtain ⟨hX70, hP1, hK1, hD1⟩ := hBX
            rw [htX] at hP1
            obtain ⟨hP, hD⟩ := va_join (wr := [(ao, .inr (1, [.ref o1, .int (nI wn)])), (o1, .inl (cI, 487, .inl (fun j => nI (wr j))))]) (w1 := [(ax, .inr (3, [.ref ak, .ref ad, .ref ab, .ref ao, .ref aw])), (ak, .inr (0, [.ref k1, .ref k2, .int (nI n)])), (k1, .inl (cI, 8000, .inl (fun j => nI (g j)))), (k2, .inl (cI, 40, .inl (fun j => nI (z j)))), (aw, .inr (2, [.ref w1])), (w1, .inl (cI, 204, .inl (fun j => nI (w2 j))))]) hP hD [0, 1, 2, 3, 6, 7] [4, 5] rfl rfl (by decide) (by decide) hkS hFc hP1 hD1
            have hP : va_P (dC, dI) vwCl [(ao, .inr (1, [.ref o1, .int (nI wn)])), (o1, .inl (cI, 487, .inl (fun j => nI (wr j)))), (ax, .inr (3, [.ref ak, .ref ad, .ref ab, .ref ao, .ref aw])), (ak, .inr (0, [.ref k1, .ref k2, .int (nI n)])), (k1, .inl (cI, 8000, .inl (fun j => nI (g j)))), (k2, .inl (cI, 40, .inl (fun j => nI (z j)))), (aw, .inr (2, [.ref w1])), (w1, .inl (cI, 204, .inl (fun j => nI (w2 j))))] H1 := hP
            have hD : va_D A [(ao, .inr (1, [.ref o1, .int (nI wn)])), (o1, .inl (cI, 487, .inl (fun j => nI (wr j)))), (ax, .inr (3, [.ref ak, .ref ad, .ref ab, .ref ao, .ref aw])), (ak, .inr (0, [.ref k1, .ref k2, .int (nI n)])), (k1, .inl (cI, 8000, .inl (fun j => nI (g j)))), (k2, .inl (cI, 40, .inl (fun j => nI (z j)))), (aw, .inr (2, [.ref w1])), (w1, .inl (cI, 204, .inl (fun j => nI (w2 j))))] := hD
            have hP9 := hP.sub (ws' := [(ax, .inr (3, [.ref ak, .ref ad, .ref ab, .ref ao, .ref aw])), (ak, .inr (0, [.ref k1, .ref k2, .int (nI n)])), (k1, .inl (cI, 8000, .inl (fun j => nI (g j)))), (k2, .inl (cI, 40, .inl (fun j => nI (z j)))), (ao, .inr (1, [.ref o1, .int (nI wn)])), (o1, .inl (cI, 487, .inl (fun j => nI (wr j)))), (aw, .inr (2, [.ref w1])), (w1, .inl (cI, 204, .inl (fun j => nI (w2 j))))]) [2, 3, 4, 5, 0, 1, 6, 7] rfl
            have hD9 := hD.sub (ws' := [(ax, .inr (3, [.ref ak, .ref ad, .ref ab, .ref ao, .ref aw])), (ak, .inr (0, [.ref k1, .ref k2, .int (nI n)])), (k1, .inl (cI, 8000, .inl (fun j => nI (g j)))), (k2, .inl (cI, 40, .inl (fun j => nI (z j)))), (ao, .inr (1, [.ref o1, .int (nI wn)])), (o1, .inl (cI, 487, .inl (fun j => nI (wr j)))), (aw, .inr (2, [.ref w1])), (w1, .inl (cI, 204, .inl (fun j => nI (w2 j))))]) [2, 3, 4, 5, 0, 1, 6, 7] (by decide) rfl
            have hK9 := hK.sub (tys' := [(cI, .int)]) [0] rfl
            exact vx_out (E := E) (fun x h => (hno x h).elim) hlocks hce hcv hcl (fun tS htS haS => ⟨w2, trivial, ⟨⟨hw2, Or.inr ⟨hX70.1, hgr, hZ69 ▸ hX70.2⟩⟩, by rw [htS]; exact hP9, va_K.moved haS hK9, hD9⟩, hS.F htS⟩) hS.2.2 (by omega) (by omega)
          obtain ⟨g3_70, z3_70⟩ := uS
          obtain ⟨hP1, hK1, hD1⟩ := hB
          rw [htS] at hP1
          have hK1 := va_K.moved hvm.symm hK1
          try dsimp only at h70
          obtain ⟨hP, hD⟩ := va_join (wr := [(ao, .inr (1, [.ref o1, .int (nI wn)])), (o1, .inl (cI, 487, .inl (fun j => nI (wr j))))]) (w1 := [(ax, .inr (3, [.ref ak, .ref ad, .ref ab, .ref ao, .ref aw])), (ak, .inr (0, [.ref k1, .ref k2, .int (nI (n + 1))])), (k1, .inl (cI, 8000, .inl (fun j => nI (g3_70 j)))), (k2, .inl (cI, 40, .inl (fun j => nI (z3_70 j)))), (aw, .inr (2, [.ref w1])), (w1, .inl (cI, 204, .inl (fun j => nI (w2 j))))]) hP hD [0, 1, 2, 3, 6, 7] [4, 5] rfl rfl (by decide) (by decide) hkS hFc hP1 hD1
          generalize H1 = H at hP hS ⊢
          have hP : va_P (dC, dI) vwCl [(ao, .inr (1, [.ref o1, .int (nI wn)])), (o1, .inl (cI, 487, .inl (fun j => nI (wr j)))), (ax, .inr (3, [.ref ak, .ref ad, .ref ab, .ref ao, .ref aw])), (ak, .inr (0, [.ref k1, .ref k2, .int (nI (n + 1))])), (k1, .inl (cI, 8000, .inl (fun j => nI (g3_70 j)))), (k2, .inl (cI, 40, .inl (fun j => nI (z3_70 j)))), (aw, .inr (2, [.ref w1])), (w1, .inl (cI, 204, .inl (fun j => nI (w2 j))))] H := hP
          have hD : va_D A [(ao, .inr (1, [.ref o1, .int (nI wn)])), (o1, .inl (cI, 487, .inl (fun j => nI (wr j)))), (ax, .inr (3, [.ref ak, .ref ad, .ref ab, .ref ao, .ref aw])), (ak, .inr (0, [.ref k1, .ref k2, .int (nI (n + 1))])), (k1, .inl (cI, 8000, .inl (fun j => nI (g3_70 j)))), (k2, .inl (cI, 40, .inl (fun j => nI (z3_70 j)))), (aw, .inr (2, [.ref w1])), (w1, .inl (cI, 204, .inl (fun j => nI (w2 j))))] := hD
          refine W.widen (k := 1) (n := 6) (by omega) (by omega) ?_
          rw [hZ69] at h70
          have hP9 := hP.sub (ws' := [(ax, .inr (3, [.ref ak, .ref ad, .ref ab, .ref ao, .ref aw])), (ak, .inr (0, [.ref k1, .ref k2, .int (nI (n + 1))])), (k1, .inl (cI, 8000, .inl (fun j => nI (g3_70 j)))), (k2, .inl (cI, 40, .inl (fun j => nI (z3_70 j)))), (ao, .inr (1, [.ref o1, .int (nI wn)])), (o1, .inl (cI, 487, .inl (fun j => nI (wr j)))), (aw, .inr (2, [.ref w1])), (w1, .inl (cI, 204, .inl (fun j => nI (w2 j))))]) [2, 3, 4, 5, 0, 1, 6, 7] rfl
          have hD9 := hD.sub (ws' := [(ax, .inr (3, [.ref ak, .ref ad, .ref ab, .ref ao, .ref aw])), (ak, .inr (0, [.ref k1, .ref k2, .int (nI (n + 1))])), (k1, .inl (cI, 8000, .inl (fun j => nI (g3_70 j)))), (k2, .inl (cI, 40, .inl (fun j => nI (z3_70 j)))), (ao, .inr (1, [.ref o1, .int (nI wn)])), (o1, .inl (cI, 487, .inl (fun j => nI (wr j)))), (aw, .inr (2, [.ref w1])), (w1, .inl (cI, 204, .inl (fun j => nI (w2 j))))]) [2, 3, 4, 5, 0, 1, 6, 7] (by decide) rfl
          have hK9 := hK.sub (tys' := [(cI, .int)]) [0] rfl
          exact vx_ret (W.widen (k := 1) (n := 6) (by omega) (by omega) (W.iret (v := r70) hx hb hr (fun tS htS hW => ⟨⟨r70, (g3_70, z3_70, w2), rfl, ⟨hw2, hgr, h70⟩, by rw [htS]; exact hP9, va_K.moved hW.alike hK9, hD9⟩, hS.F htS⟩) hS.2.2 dX3_back_73))
        · have hlt : k < wn := Nat.lt_of_not_le (fun h => c37 (nI_le h (by omega)))
          have hw229 := hgr.1
          refine lv_aload_n hx hb dX3_back_40 rfl (lv_at hl 0 rfl) ?_
          refine va_get (D := (dC, dI)) (ci := 3) (v := .ref aw) (C := RX3) (T := TX3) (N := 5) hx hb hts hinX3 hown hK hP 0 rfl rfl 4 (by decide) (hts (.fieldLink RX3 34 "NumberContents" "wide" "LNumberContents$Wide;") (by decide +kernel)) (fun _ h9 => h9) rfl dX3_back_41 ?_
          refine lv_iload_n hx hb dX3_back_44 rfl (lv_at hl 2 rfl) ?_
          refine lv_aload_n hx hb dX3_back_45 rfl (lv_at hl 0 rfl) ?_
          refine va_get (D := (dC, dI)) (ci := 3) (v := .ref ao) (C := RX3) (T := TX3) (N := 5) hx hb hts hinX3 hown hK hP 0 rfl rfl 3 (by decide) (hts (.fieldLink RX3 28 "NumberContents" "written" "LNumberContents$Row;") (by decide +kernel)) (fun _ h9 => h9) rfl dX3_back_46 ?_
          refine lv_iload_n hx hb dX3_back_49 rfl (lv_at hl 1 rfl) ?_
          refine lv_iconst (v := 1) hx hb dX3_back_50 (by decide) ?_
          refine lv_isub hx hb dX3_back_51 ?_
          refine lv_topi (fun x51 e51 => ?_)
          obtain rfl : x51 = nI (wn - 1) := e51.trans (nI_m1 (by omega))
          refine lv_iload_n hx hb dX3_back_52 rfl (lv_at hl 2 rfl) ?_
          refine lv_isub hx hb dX3_back_53 ?_
          refine lv_topi (fun x53 e53 => ?_)
          obtain rfl : x53 = nI (wn - 1 - k) := e53.trans (pk_sub (by omega))
          have hPc := hP.sub (ws' := [(ao, .inr (1, [.ref o1, .int (nI wn)])), (o1, .inl (cI, 487, .inl (fun j => nI (wr j))))]) [4, 5] rfl
          have hKc := hK.sub (tys' := [(cI, .int)]) [0] rfl
          refine vp_callSi (W.runV (As := [.int (nI (wn - 1 - k))]) (rest := [.int (nI k), .ref aw]) ⟨hx, hb, hml, hown, hts⟩ (c_X1_itemAt l dC dI cI ao o1 487 wn (fun j => nI (wr j)) (nI (wn - 1 - k)) hwn (by omega)) (cwV 1 hts gX3_back_X1_itemAt rfl rfl rfl (by decide +kernel) ⟨Nat.le_of_ble_eq_true rfl, Nat.le_of_ble_eq_true rfl⟩) ⟨fun a U g mk q => by obtain ⟨q0, qP, qK⟩ := q; exact ⟨q0, qP, va_K.moved (u := U) (U := U.calling g mk a) (Vm.Alike.refl U.vm) qK⟩, va_recv hK hP (ci := 1) (q0 := 4) rfl rfl, fun U hU hW => ⟨rfl, by rw [hU]; exact hPc, va_K.moved hW.alike hKc⟩⟩ rfl rfl hl.1 rfl (lv_room (Nat.le_of_ble_eq_true rfl)) dX3_back_54 ⟨Nat.le_of_ble_eq_true rfl, Nat.le_of_ble_eq_true rfl⟩) (fun r54 h54 => ?_)
          obtain rfl : r54 = nI (wr (wn - 1 - k)) := it_at (by omega) (by omega) h54
          refine lv_bipush (v := 127) hx hb dX3_back_57 (by decide) ?_
          refine lv_iand hx hb dX3_back_59 ?_
          refine lv_topi (fun x59 e59 => ?_)
          obtain rfl : x59 = nI (wr (wn - 1 - k) % 2 ^ 7) := e59.trans (pk_andN (by have := hwr (wn - 1 - k); omega) 7 (by decide))
          have hPc := hP.sub (ws' := [(aw, .inr (2, [.ref w1])), (w1, .inl (cI, 204, .inl (fun j => nI (w2 j))))]) [6, 7] rfl
          have hKc := hK.sub (tys' := [(cI, .int)]) [0] rfl
          have hDc := hD.sub (ws' := [(aw, .inr (2, [.ref w1])), (w1, .inl (cI, 204, .inl (fun j => nI (w2 j))))]) [6, 7] (by decide) rfl
          have hFc := va_free (wc := [(aw, .inr (2, [.ref w1])), (w1, .inl (cI, 204, .inl (fun j => nI (w2 j))))]) hD hS hA [6, 7] rfl
          refine va_callv (va_runV (As := [.int (nI k), .int (nI (wr (wn - 1 - k) % 2 ^ 7))]) (rest := []) ⟨hx, hb, hml, hown, hts⟩ (c_X2_setSevenBits l dC dI cI aw w1 w2 k (wr (wn - 1 - k) % 2 ^ 7) H.size hw2 (by omega) (Nat.mod_lt _ (by decide)) hlo (hz2 _ (by omega) (by omega))) (cwV 2 hts gX3_back_X2_setSevenBits rfl rfl rfl (by decide +kernel) ⟨Nat.le_of_ble_eq_true rfl, Nat.le_of_ble_eq_true rfl⟩) ⟨fun a U g mk q => by obtain ⟨q0, q1, qP, qK, qD⟩ := q; exact ⟨q0, q1, qP, va_K.moved (u := U) (U := U.calling g mk a) (Vm.Alike.refl U.vm) qK, qD⟩, va_recv hKc hPc (ci := 2) (q0 := 0) rfl rfl, fun U hU hW => ⟨rfl, by rw [hU], by rw [hU]; exact hPc, va_K.moved hW.alike hKc, hDc.weaken (fun _ _ _ _ => trivial)⟩⟩ rfl rfl hl.1 rfl (lv_room (Nat.le_of_ble_eq_true rfl)) dX3_back_60 ⟨Nat.le_of_ble_eq_true rfl, Nat.le_of_ble_eq_true rfl⟩) hS (fun q _ h => hFc q h) hFc (fun uS tS H1 locs htS hvm h60 hB hzS hkS hS => ?_)
          obtain ⟨hP1, hK1, hD1⟩ := hB
          rw [htS] at hP1
          have hK1 := va_K.moved hvm.symm hK1
          try dsimp only at h60
          obtain ⟨hP, hD⟩ := va_join (wr := [(ax, .inr (3, [.ref ak, .ref ad, .ref ab, .ref ao, .ref aw])), (ak, .inr (0, [.ref k1, .ref k2, .int (nI n)])), (k1, .inl (cI, 8000, .inl (fun j => nI (g j)))), (k2, .inl (cI, 40, .inl (fun j => nI (z j)))), (ao, .inr (1, [.ref o1, .int (nI wn)])), (o1, .inl (cI, 487, .inl (fun j => nI (wr j))))]) (w1 := [(aw, .inr (2, [.ref w1])), (w1, .inl (cI, 204, .inl (fun j => nI (va_up (va_up w2 (7 * k / 8) (w2 (7 * k / 8) + (wr (wn - 1 - k) % 2 ^ 7) * 2 ^ (7 * k % 8) % 2 ^ 8)) (7 * k / 8 + 1) ((wr (wn - 1 - k) % 2 ^ 7) * 2 ^ (7 * k % 8) / 2 ^ 8) j))))]) hP hD [6, 7] [0, 1, 2, 3, 4, 5] rfl rfl (by decide) (by decide) hkS hFc hP1 hD1
          generalize H1 = H at hP hS ⊢
          have hP : va_P (dC, dI) vwCl [(ax, .inr (3, [.ref ak, .ref ad, .ref ab, .ref ao, .ref aw])), (ak, .inr (0, [.ref k1, .ref k2, .int (nI n)])), (k1, .inl (cI, 8000, .inl (fun j => nI (g j)))), (k2, .inl (cI, 40, .inl (fun j => nI (z j)))), (ao, .inr (1, [.ref o1, .int (nI wn)])), (o1, .inl (cI, 487, .inl (fun j => nI (wr j)))), (aw, .inr (2, [.ref w1])), (w1, .inl (cI, 204, .inl (fun j => nI (va_up (va_up w2 (7 * k / 8) (w2 (7 * k / 8) + (wr (wn - 1 - k) % 2 ^ 7) * 2 ^ (7 * k % 8) % 2 ^ 8)) (7 * k / 8 + 1) ((wr (wn - 1 - k) % 2 ^ 7) * 2 ^ (7 * k % 8) / 2 ^ 8) j))))] H := hP
          have hD : va_D A [(ax, .inr (3, [.ref ak, .ref ad, .ref ab, .ref ao, .ref aw])), (ak, .inr (0, [.ref k1, .ref k2, .int (nI n)])), (k1, .inl (cI, 8000, .inl (fun j => nI (g j)))), (k2, .inl (cI, 40, .inl (fun j => nI (z j)))), (ao, .inr (1, [.ref o1, .int (nI wn)])), (o1, .inl (cI, 487, .inl (fun j => nI (wr j)))), (aw, .inr (2, [.ref w1])), (w1, .inl (cI, 204, .inl (fun j => nI (va_up (va_up w2 (7 * k / 8) (w2 (7 * k / 8) + (wr (wn - 1 - k) % 2 ^ 7) * 2 ^ (7 * k % 8) % 2 ^ 8)) (7 * k / 8 + 1) ((wr (wn - 1 - k) % 2 ^ 7) * 2 ^ (7 * k % 8) / 2 ^ 8) j))))] := hD
          obtain ⟨x63, e63⟩ : ∃ zz9 : Int32, zz9 = (nI k) + 1 := ⟨_, rfl⟩
          refine lv_iinc (v := x63) (lv' := [(2, .int x63), (0, .ref ax), (1, .int (nI wn))]) hx hb dX3_back_63 hl (k := 2) rfl (by rw [e63]; rfl) (by decide) rfl (fun ls hl => ?_)
          obtain rfl : x63 = nI (k + 1) := e63.trans (nI_1 k)
          refine lv_goto (tgt := 35) hx hb dX3_back_66 (by decide) ?_
          have hb7 : wr (wn - 1 - k) % 2 ^ 7 < 128 := Nat.mod_lt _ (by decide)
          have hnx := bk_lo hb7 hlo hz2
          exact ih35 (k + 1) (va_up (va_up w2 (7 * k / 8) (w2 (7 * k / 8) + (wr (wn - 1 - k) % 2 ^ 7) * 2 ^ (7 * k % 8) % 2 ^ 8)) (7 * k / 8 + 1) ((wr (wn - 1 - k) % 2 ^ 7) * 2 ^ (7 * k % 8) / 2 ^ 8)) (by omega) (by omega) (up_lt (up_lt hw2 (bk_b8 hw2 hb7 hlo)) (by have := sb_lt hb7 (show 7 * k % 8 < 8 by omega); omega)) hnx.1 hnx.2 ((bk_val (by omega) (hz2 _ (by omega) (by omega))).trans (by rw [hv]; rfl)) _ _ _ (hP.sub [0, 1, 2, 3, 4, 5, 6, 7] rfl) (hD.sub [0, 1, 2, 3, 4, 5, 6, 7] (by decide) rfl) hS (lv_sub hl [1, 2, 0] rfl)
    exact LP35 _ 0 g3_22 (Nat.lt_succ_self _) (by omega) (fill_lt h22 hw (by decide)) (by rw [h22.1 _ (by decide)]; decide) (fun j _ h => h22.1 j h) (bv_zero h22.1) _ _ _ (hP.sub [0, 1, 2, 3, 4, 5, 6, 7] rfl) (hD.sub [0, 1, 2, 3, 4, 5, 6, 7] (by decide) rfl) hS (lv_sub hl [2, 1, 0] rfl)
  · have hat : ∀ w ∈ vx_atS RX3 46 eIA eNs, w.before _ s = true := vx_hat (B := twL) (fun w hw => hts w ((by decide +kernel : ∀ w ∈ (vx_atS RX3 46 eIA eNs).filter goodWord, w ∈ wsX3_back) w hw)) (by decide +kernel) (fun w hw => hT.use hw)
    obtain ⟨sa, hsa⟩ := hT.2 (154, "not the groups of one number") (by decide +kernel)
    have hP9 := hP.sub (ws' := [(ax, .inr (3, [.ref ak, .ref ad, .ref ab, .ref ao, .ref aw])), (ak, .inr (0, [.ref k1, .ref k2, .int (nI n)])), (k1, .inl (cI, 8000, .inl (fun j => nI (g j)))), (k2, .inl (cI, 40, .inl (fun j => nI (z j)))), (ao, .inr (1, [.ref o1, .int (nI wn)])), (o1, .inl (cI, 487, .inl (fun j => nI (wr j)))), (aw, .inr (2, [.ref w1])), (w1, .inl (cI, 204, .inl (fun j => nI (w j))))]) [0, 1, 2, 3, 4, 5, 6, 7] rfl
    have hD9 := hD.sub (ws' := [(ax, .inr (3, [.ref ak, .ref ad, .ref ab, .ref ao, .ref aw])), (ak, .inr (0, [.ref k1, .ref k2, .int (nI n)])), (k1, .inl (cI, 8000, .inl (fun j => nI (g j)))), (k2, .inl (cI, 40, .inl (fun j => nI (z j)))), (ao, .inr (1, [.ref o1, .int (nI wn)])), (o1, .inl (cI, 487, .inl (fun j => nI (wr j)))), (aw, .inr (2, [.ref w1])), (w1, .inl (cI, 204, .inl (fun j => nI (w j))))]) [0, 1, 2, 3, 4, 5, 6, 7] (by decide) rfl
    have hK9 := hK.sub (tys' := [(cI, .int)]) [0] rfl
    exact vx_throwS (mc := 1) (ms := 6) hx hb hl9 hown (by decide +kernel) (by decide +kernel) (hts (.classLink RX3 42 "java/lang/IllegalArgumentException") (by decide +kernel)) (hts (.initialized "java/lang/IllegalArgumentException") (by decide +kernel)) hsa hat (by decide +kernel) hZ.1 hZ.2 hS (hl.1.trans hml.symm) dX3_back_7 dX3_back_10 dX3_back_11 dX3_back_13 dX3_back_16 (fun x h => (hno x h).elim) (Nat.le_of_ble_eq_true rfl) (Nat.le_of_ble_eq_true rfl) (Nat.le_of_ble_eq_true rfl) (Nat.le_of_ble_eq_true rfl) hlocks (fun tS haS hzT hkT => ⟨w, trivial, ⟨⟨hw, Or.inl ⟨rfl, ite_r h1 c4⟩⟩, th_P hP9 hkT, va_K.moved haS hK9, hD9⟩, th_F hS hzT hkT⟩) hS.2.2 (by omega) (by omega)

