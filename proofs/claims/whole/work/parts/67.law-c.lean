theorem LI.S {dC : Nat → ClassId} {dI : Nat → Nat → Nat} {cI cB cL : ClassId} {ax ak ad ab ao aw k1 k2 d1 b1 o1 w1 mx m5 m6 m7 m8 m9 m10 m11 ol : Nat} {A : Nat → Prop} {s : State} {H : Heap} {locs : List Loc} (h : LI dC dI cI cB cL ax ak ad ab ao aw k1 k2 d1 b1 o1 w1 mx m5 m6 m7 m8 m9 m10 m11 ol A s H locs) : va_S A s.heap H locs := by
  obtain ⟨_, _, _, _, _, _, _, _, _, _, _, _, _, _, _, _, _, _, _, hP, hD, hS, _⟩ := h
  exact hS
theorem lw_more {L i : Nat} {x : Int32} (hL : L ≤ 2048) (hi : i ≤ 512) (e : x = nI L - nI 4) (h : ¬ x < nI (4 * i)) : 4 * i + 4 ≤ L := by
  rw [e, Int32.lt_iff_toInt_lt, pk_sub_toInt (by omega) (by omega), nI_toInt (by omega)] at h
  omega

set_option maxHeartbeats 4000000 in
set_option maxRecDepth 100000 in
theorem law_loop {p : Program} {e : Env} {s : State} {m : MethodId} {below : List Frame} {meth : Method} {c : Code} (l : Launch) (hl9 : l.stackTraces = false) {b L : Nat} {xs : Nat → Int32} (dC : Nat → ClassId) (dI : Nat → Nat → Nat) (cI cB cL : ClassId) (ax ak ad ab ao aw k1 k2 d1 b1 o1 w1 mx m5 m6 m7 m8 m9 m10 m11 ol : Nat) {A : Nat → Prop} {Q : State → Prop} (hL : L ≤ 2048)
    (hx : p.tables.exec = Jvm.exec) (hb : c.code = cL_law) (hml : c.maxLocals = 7) (hown : s.vm.findClass RL = some m.cls) (hts : ∀ w ∈ wsL_law, w.before #[Value.ref b] s = true) (hX : va_X b L xs s s.heap) (hbl : b < s.heap.size) (hbA : ¬ A b) (hA : ∀ q : Nat, s.heap.size ≤ q → A q) (hK : va_K (dC, dI) vwCl [(cI, .int), (cB, .byte), (cL, .long)] s) (hZ : tz A s s.heap) (hT : tw s) (hN : tn s) (kend : ∀ (H : Heap) (locs : List Loc) (ls : Array Slot), va_S A s.heap H locs → W p l e room_1 s m #[Value.ref b] below meth c H locs 601024 7293034 Q (F0 m 1048 ls [])) :
    ∀ (n9 i kc ns : Nat) (hm : 513 - i < n9) (hi0 : i ≤ 512) (hkc9 : kc + 3 * (513 - i) ≤ 601024) (hns9 : ns + 18 * (513 - i) ≤ 7293034) (H : Heap) (locs : List Loc) (ls : Array Slot) (hI : LI dC dI cI cB cL ax ak ad ab ao aw k1 k2 d1 b1 o1 w1 mx m5 m6 m7 m8 m9 m10 m11 ol A s H locs) (hl : lv_has ls 7 [(4, .int (nI (4 * i))), (3, .ref ol), (2, .ref mx), (1, .ref ax), (0, .ref b)]), W p l e room_1 s m #[Value.ref b] below meth c H locs kc ns Q (F0 m 23 ls []) := by
  intro n9
  induction n9 with
  | zero => intro i kc ns hm; exact absurd hm (Nat.not_lt_zero _)
  | succ n9 ih =>
    intro i kc ns hm hi0 hkc9 hns9 H locs ls hI hl
    have hkc : kc + 3 ≤ 601024 := by omega
    have hns : ns + 18 ≤ 7293034 := by omega
    have hS := hI.S
    have kk : i ≤ 511 → ∀ (H : Heap) (locs : List Loc) (ls : Array Slot), LI dC dI cI cB cL ax ak ad ab ao aw k1 k2 d1 b1 o1 w1 mx m5 m6 m7 m8 m9 m10 m11 ol A s H locs → lv_has ls 7 [(4, .int (nI (4 * i))), (3, .ref ol), (2, .ref mx), (1, .ref ax), (0, .ref b)] → W p l e room_1 s m #[Value.ref b] below meth c H locs (kc + 3) (ns + 18) Q (F0 m 1042 ls []) := by
      intro hi5 H locs ls hI hl
      obtain ⟨x1042, e1042⟩ : ∃ zz9 : Int32, zz9 = nI (4 * i) + 4 := ⟨_, rfl⟩
      refine lv_iinc (v := x1042) (lv' := [(4, .int x1042), (3, .ref ol), (2, .ref mx), (1, .ref ax), (0, .ref b)]) hx hb dL_law_1042 hl (k := 0) rfl (by rw [e1042]; rfl) (by decide) rfl (fun ls hl => ?_)
      obtain rfl : x1042 = nI (4 * (i + 1)) := e1042.trans (nI_add (4 * i) 4)
      refine lv_goto (tgt := 23) hx hb dL_law_1045 (by decide) ?_
      exact ih (i + 1) (kc + 3) (ns + 18) (by omega) (by omega) (by omega) (by omega) H locs ls hI hl
    refine lv_iload hx hb dL_law_23 (lv_at hl 0 rfl) ?_
    refine lv_aload_n hx hb dL_law_25 rfl (lv_at hl 4 rfl) ?_
    refine va_slen hx hb hX hbl hbA hS dL_law_26 ?_
    refine lv_iconst (v := (nI 4)) hx hb dL_law_27 (by decide) ?_
    refine lv_isub hx hb dL_law_28 ?_
    refine lv_topi (fun x28 e28 => ?_)
    refine lv_icmp_gt (tgt := 1048) hx hb dL_law_29 (by decide) (fun c29 => ?_) (fun c29 => ?_)
    · refine W.widen (k := 601024) (n := 7293034) (by omega) (by omega) ?_
      exact kend _ _ _ hS
    · have hi := lw_more hL hi0 e28 c29
      have kk := kk (by omega)
      refine lv_aload_n hx hb dL_law_32 rfl (lv_at hl 4 rfl) ?_
      refine lv_iload hx hb dL_law_33 (lv_at hl 0 rfl) ?_
      refine va_sld hx hb hX hbl hbA hS (vp_in_nI (by omega) (by omega)) dL_law_35 ?_
      refine lv_topi (fun x35 e35 => ?_)
      obtain rfl : x35 = xs (4 * i) := e35.trans (by rw [nI_clamp (by omega)])
      refine lv_bipush (v := 15) hx hb dL_law_36 (by decide) ?_
      refine lv_iand hx hb dL_law_38 ?_
      refine lv_topi (fun x38 e38 => ?_)
      by_cases s39_0 : x38 = 0
      · refine lv_tableIn (tgt := 116) hx hb dL_law_39 (by rw [s39_0]; decide) (by rw [s39_0]; decide) (by rw [s39_0]; rfl) (by decide) ?_
        exact lo_digits l hl9 dC dI cI cB cL ax ak ad ab ao aw k1 k2 d1 b1 o1 w1 mx m5 m6 m7 m8 m9 m10 m11 ol i kc ns hL hi hkc hns hx hb hml hown hts hX hbl hbA hA hK hZ hT hN H locs ls hI (lv_sub hl [0, 1, 2, 3, 4] rfl) kk
      by_cases s39_1 : x38 = 1
      · refine lv_tableIn (tgt := 184) hx hb dL_law_39 (by rw [s39_1]; decide) (by rw [s39_1]; decide) (by rw [s39_1]; rfl) (by decide) ?_
        exact lo_number l hl9 dC dI cI cB cL ax ak ad ab ao aw k1 k2 d1 b1 o1 w1 mx m5 m6 m7 m8 m9 m10 m11 ol i kc ns hL hi hkc hns hx hb hml hown hts hX hbl hbA hA hK hZ hT hN H locs ls hI (lv_sub hl [0, 1, 2, 3, 4] rfl) kk
      by_cases s39_2 : x38 = 2
      · refine lv_tableIn (tgt := 256) hx hb dL_law_39 (by rw [s39_2]; decide) (by rw [s39_2]; decide) (by rw [s39_2]; rfl) (by decide) ?_
        exact lo_bytes l hl9 dC dI cI cB cL ax ak ad ab ao aw k1 k2 d1 b1 o1 w1 mx m5 m6 m7 m8 m9 m10 m11 ol i kc ns hL hi hkc hns hx hb hml hown hts hX hbl hbA hA hK hZ hT hN H locs ls hI (lv_sub hl [0, 1, 2, 3, 4] rfl) kk
      by_cases s39_3 : x38 = 3
      · refine lv_tableIn (tgt := 324) hx hb dL_law_39 (by rw [s39_3]; decide) (by rw [s39_3]; decide) (by rw [s39_3]; rfl) (by decide) ?_
        exact lo_contents l hl9 dC dI cI cB cL ax ak ad ab ao aw k1 k2 d1 b1 o1 w1 mx m5 m6 m7 m8 m9 m10 m11 ol i kc ns hL hi hkc hns hx hb hml hown hts hX hbl hbA hA hK hZ hT hN H locs ls hI (lv_sub hl [0, 1, 2, 3, 4] rfl) kk
      by_cases s39_4 : x38 = 4
      · refine lv_tableIn (tgt := 368) hx hb dL_law_39 (by rw [s39_4]; decide) (by rw [s39_4]; decide) (by rw [s39_4]; rfl) (by decide) ?_
        exact lo_sum l hl9 dC dI cI cB cL ax ak ad ab ao aw k1 k2 d1 b1 o1 w1 mx m5 m6 m7 m8 m9 m10 m11 ol i kc ns hL hi hkc hns hx hb hml hown hts hX hbl hbA hA hK hZ hT hN H locs ls hI (lv_sub hl [0, 1, 2, 3, 4] rfl) kk
      by_cases s39_5 : x38 = 5
      · refine lv_tableIn (tgt := 464) hx hb dL_law_39 (by rw [s39_5]; decide) (by rw [s39_5]; decide) (by rw [s39_5]; rfl) (by decide) ?_
        exact lo_grow l hl9 dC dI cI cB cL ax ak ad ab ao aw k1 k2 d1 b1 o1 w1 mx m5 m6 m7 m8 m9 m10 m11 ol i kc ns hL hi hkc hns hx hb hml hown hts hX hbl hbA hA hK hZ hT hN H locs ls hI (lv_sub hl [0, 1, 2, 3, 4] rfl) kk
      by_cases s39_6 : x38 = 6
      · refine lv_tableIn (tgt := 544) hx hb dL_law_39 (by rw [s39_6]; decide) (by rw [s39_6]; decide) (by rw [s39_6]; rfl) (by decide) ?_
        exact lo_size l hl9 dC dI cI cB cL ax ak ad ab ao aw k1 k2 d1 b1 o1 w1 mx m5 m6 m7 m8 m9 m10 m11 ol i kc ns hL hi hkc hns hx hb hml hown hts hX hbl hbA hA hK hZ hT hN H locs ls hI (lv_sub hl [0, 1, 2, 3, 4] rfl) kk
      by_cases s39_7 : x38 = 7
      · refine lv_tableIn (tgt := 600) hx hb dL_law_39 (by rw [s39_7]; decide) (by rw [s39_7]; decide) (by rw [s39_7]; rfl) (by decide) ?_
        exact lo_byteAt l hl9 dC dI cI cB cL ax ak ad ab ao aw k1 k2 d1 b1 o1 w1 mx m5 m6 m7 m8 m9 m10 m11 ol i kc ns hL hi hkc hns hx hb hml hown hts hX hbl hbA hA hK hZ hT hN H locs ls hI (lv_sub hl [0, 1, 2, 3, 4] rfl) kk
      by_cases s39_8 : x38 = 8
      · refine lv_tableIn (tgt := 668) hx hb dL_law_39 (by rw [s39_8]; decide) (by rw [s39_8]; decide) (by rw [s39_8]; rfl) (by decide) ?_
        exact lo_compare l hl9 dC dI cI cB cL ax ak ad ab ao aw k1 k2 d1 b1 o1 w1 mx m5 m6 m7 m8 m9 m10 m11 ol i kc ns hL hi hkc hns hx hb hml hown hts hX hbl hbA hA hK hZ hT hN H locs ls hI (lv_sub hl [0, 1, 2, 3, 4] rfl) kk
      by_cases s39_9 : x38 = 9
      · refine lv_tableIn (tgt := 736) hx hb dL_law_39 (by rw [s39_9]; decide) (by rw [s39_9]; decide) (by rw [s39_9]; rfl) (by decide) ?_
        exact lo_small l hl9 dC dI cI cB cL ax ak ad ab ao aw k1 k2 d1 b1 o1 w1 mx m5 m6 m7 m8 m9 m10 m11 ol i kc ns hL hi hkc hns hx hb hml hown hts hX hbl hbA hA hK hZ hT hN H locs ls hI (lv_sub hl [0, 1, 2, 3, 4] rfl) kk
      by_cases s39_10 : x38 = 10
      · refine lv_tableIn (tgt := 792) hx hb dL_law_39 (by rw [s39_10]; decide) (by rw [s39_10]; decide) (by rw [s39_10]; rfl) (by decide) ?_
        exact lo_print l hl9 dC dI cI cB cL ax ak ad ab ao aw k1 k2 d1 b1 o1 w1 mx m5 m6 m7 m8 m9 m10 m11 ol i kc ns hL hi hkc hns hx hb hml hown hts hX hbl hbA hA hK hZ hT hN H locs ls hI (lv_sub hl [0, 1, 2, 3, 4] rfl) kk
      by_cases s39_11 : x38 = 11
      · refine lv_tableIn (tgt := 848) hx hb dL_law_39 (by rw [s39_11]; decide) (by rw [s39_11]; decide) (by rw [s39_11]; rfl) (by decide) ?_
        exact lo_groups l hl9 dC dI cI cB cL ax ak ad ab ao aw k1 k2 d1 b1 o1 w1 mx m5 m6 m7 m8 m9 m10 m11 ol i kc ns hL hi hkc hns hx hb hml hown hts hX hbl hbA hA hK hZ hT hN H locs ls hI (lv_sub hl [0, 1, 2, 3, 4] rfl) kk
      by_cases s39_12 : x38 = 12
      · refine lv_tableIn (tgt := 904) hx hb dL_law_39 (by rw [s39_12]; decide) (by rw [s39_12]; decide) (by rw [s39_12]; rfl) (by decide) ?_
        exact lo_out l hl9 dC dI cI cB cL ax ak ad ab ao aw k1 k2 d1 b1 o1 w1 mx m5 m6 m7 m8 m9 m10 m11 ol i kc ns hL hi hkc hns hx hb hml hown hts hX hbl hbA hA hK hZ hT hN H locs ls hI (lv_sub hl [0, 1, 2, 3, 4] rfl) kk
      by_cases s39_13 : x38 = 13
      · refine lv_tableIn (tgt := 960) hx hb dL_law_39 (by rw [s39_13]; decide) (by rw [s39_13]; decide) (by rw [s39_13]; rfl) (by decide) ?_
        exact lo_back l hl9 dC dI cI cB cL ax ak ad ab ao aw k1 k2 d1 b1 o1 w1 mx m5 m6 m7 m8 m9 m10 m11 ol i kc ns hL hi hkc hns hx hb hml hown hts hX hbl hbA hA hK hZ hT hN H locs ls hI (lv_sub hl [0, 1, 2, 3, 4] rfl) kk
      by_cases s39_14 : x38 = 14
      · refine lv_tableIn (tgt := 1004) hx hb dL_law_39 (by rw [s39_14]; decide) (by rw [s39_14]; decide) (by rw [s39_14]; rfl) (by decide) ?_
        exact lo_clear l hl9 dC dI cI cB cL ax ak ad ab ao aw k1 k2 d1 b1 o1 w1 mx m5 m6 m7 m8 m9 m10 m11 ol i kc ns hL hi hkc hns hx hb hml hown hts hX hbl hbA hA hK hZ hT hN H locs ls hI (lv_sub hl [0, 1, 2, 3, 4] rfl) kk
      by_cases s39_15 : x38 = 15
      · refine lv_tableIn (tgt := 1017) hx hb dL_law_39 (by rw [s39_15]; decide) (by rw [s39_15]; decide) (by rw [s39_15]; rfl) (by decide) ?_
        exact lo_count l hl9 dC dI cI cB cL ax ak ad ab ao aw k1 k2 d1 b1 o1 w1 mx m5 m6 m7 m8 m9 m10 m11 ol i kc ns hL hi hkc hns hx hb hml hown hts hX hbl hbA hA hK hZ hT hN H locs ls hI (lv_sub hl [0, 1, 2, 3, 4] rfl) kk
      refine lv_tableOut (tgt := 1042) hx hb dL_law_39 (by have a0 : x38.toInt ≠ 0 := fun e9 => s39_0 (Int32.toInt_inj.mp e9); have a1 : x38.toInt ≠ 1 := fun e9 => s39_1 (Int32.toInt_inj.mp e9); have a2 : x38.toInt ≠ 2 := fun e9 => s39_2 (Int32.toInt_inj.mp e9); have a3 : x38.toInt ≠ 3 := fun e9 => s39_3 (Int32.toInt_inj.mp e9); have a4 : x38.toInt ≠ 4 := fun e9 => s39_4 (Int32.toInt_inj.mp e9); have a5 : x38.toInt ≠ 5 := fun e9 => s39_5 (Int32.toInt_inj.mp e9); have a6 : x38.toInt ≠ 6 := fun e9 => s39_6 (Int32.toInt_inj.mp e9); have a7 : x38.toInt ≠ 7 := fun e9 => s39_7 (Int32.toInt_inj.mp e9); have a8 : x38.toInt ≠ 8 := fun e9 => s39_8 (Int32.toInt_inj.mp e9); have a9 : x38.toInt ≠ 9 := fun e9 => s39_9 (Int32.toInt_inj.mp e9); have a10 : x38.toInt ≠ 10 := fun e9 => s39_10 (Int32.toInt_inj.mp e9); have a11 : x38.toInt ≠ 11 := fun e9 => s39_11 (Int32.toInt_inj.mp e9); have a12 : x38.toInt ≠ 12 := fun e9 => s39_12 (Int32.toInt_inj.mp e9); have a13 : x38.toInt ≠ 13 := fun e9 => s39_13 (Int32.toInt_inj.mp e9); have a14 : x38.toInt ≠ 14 := fun e9 => s39_14 (Int32.toInt_inj.mp e9); have a15 : x38.toInt ≠ 15 := fun e9 => s39_15 (Int32.toInt_inj.mp e9); omega) (by decide) ?_
      refine W.widen (k := kc + 3) (n := ns + 18) (by omega) (by omega) ?_
      exact kk _ _ _ hI (lv_sub hl [0, 1, 2, 3, 4] rfl)

