set_option maxHeartbeats 4000000 in
set_option maxRecDepth 100000 in
theorem c_X4_isPlace (l : Launch) (dC : Nat → ClassId) (dI : Nat → Nat → Nat) (cI : ClassId) (mx m5 m6 m7 m8 m9 m10 m11 n dn bn wn : Nat) (th : Int32) (i : Int32) (hn : n ≤ 40) : Met l yX4_isPlace wsX4_isPlace ({ frames := 0, cells := 0, slots := 0, locals := 0 } : Room) (va_Pc [.ref mx, .int i] (fun U => va_P (dC, dI) vwCl [(mx, .inr (4, [.int th, .int (nI n), .int (nI dn), .int (nI bn), .int (nI wn), .ref m5, .ref m6, .ref m7, .ref m8, .ref m9, .ref m10, .ref m11]))] U.heap ∧ va_K (dC, dI) vwCl [] U)) (vp_Si (fun r : Int32 => (r = 1 ∧ vp_in i n) ∨ (r = 0 ∧ ¬ vp_in i n))) 0 0 (fun _ => False) := by
  refine Met.ofW (cc := cX4_isPlace) (maxL := 2) (ret := (some .boolean)) (by decide) rfl ?_
  intro p e s m args below meth c s₁ B hml hv
  obtain ⟨rfl, hP, hK⟩ := hv
  have hx := B.exec
  have hb := B.bytes
  have hr := B.returns
  have hts := atoms_spec (ws := wsX4_isPlace) B.pre
  have hown : s.vm.findClass RX4 = some m.cls := findClass_of_methodNamed B.named
  have hlocks := B.notSynchronized
  have hinX4 : ∀ w ∈ wsX40, w ∈ wsX4_isPlace := by decide +kernel
  have hl := lv_entry ([.ref mx, .int i]) (n := 2) (Nat.le_of_ble_eq_true rfl)
  rw [lg_entry_eq]
  generalize (lg_sl ([.ref mx, .int i]) ++ List.replicate (2 - (lg_sl ([.ref mx, .int i])).length) Slot.unset).toArray = ls at hl ⊢
  have hl : lv_has ls 2 [(0, .ref mx), (1, .int i)] := hl
  refine lv_iload_n hx hb dX4_isPlace_0 rfl (lv_at hl 1 rfl) ?_
  refine lv_if_lt (tgt := 16) hx hb dX4_isPlace_1 (by decide) (fun c1 => ?_) (fun c1 => ?_)
  · refine lv_iconst (v := 0) hx hb dX4_isPlace_16 (by decide) ?_
    exact W.zret (v := 0) hx hb hr rfl (fun tS htS hW => ⟨0, rfl, (by first | exact Or.inl ⟨rfl, vi_lt c1 (by omega) c9⟩ | exact Or.inr ⟨rfl, vi_ge (by omega) c9⟩ | exact Or.inr ⟨rfl, vi_neg c1⟩), htS⟩) t_nil dX4_isPlace_17
  · refine lv_iload_n hx hb dX4_isPlace_4 rfl (lv_at hl 1 rfl) ?_
    refine lv_aload_n hx hb dX4_isPlace_5 rfl (lv_at hl 0 rfl) ?_
    refine va_get (D := (dC, dI)) (ci := 4) (v := .int (nI n)) (C := RX4) (T := TX4) (N := 12) hx hb hts hinX4 hown hK hP 0 rfl rfl 1 (by decide) (hts (.fieldLink RX4 52 "NumberContentsModel" "many" "I") (by decide +kernel)) (fun _ h9 => h9) rfl dX4_isPlace_6 ?_
    refine lv_icmp_ge (tgt := 16) hx hb dX4_isPlace_9 (by decide) (fun c9 => ?_) (fun c9 => ?_)
    · refine lv_iconst (v := 0) hx hb dX4_isPlace_16 (by decide) ?_
      exact W.zret (v := 0) hx hb hr rfl (fun tS htS hW => ⟨0, rfl, (by first | exact Or.inl ⟨rfl, vi_lt c1 (by omega) c9⟩ | exact Or.inr ⟨rfl, vi_ge (by omega) c9⟩ | exact Or.inr ⟨rfl, vi_neg c1⟩), htS⟩) t_nil dX4_isPlace_17
    · refine lv_iconst (v := 1) hx hb dX4_isPlace_12 (by decide) ?_
      refine lv_goto (tgt := 17) hx hb dX4_isPlace_13 (by decide) ?_
      exact W.zret (v := 1) hx hb hr rfl (fun tS htS hW => ⟨1, rfl, (by first | exact Or.inl ⟨rfl, vi_lt c1 (by omega) c9⟩ | exact Or.inr ⟨rfl, vi_ge (by omega) c9⟩ | exact Or.inr ⟨rfl, vi_neg c1⟩), htS⟩) t_nil dX4_isPlace_17

set_option maxHeartbeats 4000000 in
set_option maxRecDepth 100000 in
theorem c_X4_least (l : Launch) (dC : Nat → ClassId) (dI : Nat → Nat → Nat) (cI : ClassId) (mx m5 m6 m7 m8 m9 m10 m11 n dn bn wn : Nat) (th : Int32) (rw : Nat → Nat) (hrw : ∀ j, rw j < 256) : Met l yX4_least wsX4_least ({ frames := 1, cells := 0, slots := 0, locals := 21 } : Room) (va_Pc [.ref mx] (fun U => va_P (dC, dI) vwCl [(mx, .inr (4, [.int th, .int (nI n), .int (nI dn), .int (nI bn), .int (nI wn), .ref m5, .ref m6, .ref m7, .ref m8, .ref m9, .ref m10, .ref m11])), (m6, .inl (cI, 210, .inl (fun j => nI (rw j))))] U.heap ∧ va_K (dC, dI) vwCl [(cI, .int)] U)) (vp_Si (fun r : Int32 => ∃ k : Nat, r = nI k ∧ isz (sv rw 210) k ∧ k ≤ 210 ∧ sv rw k = sv rw 210)) 0 0 (fun _ => False) := by
  refine Met.ofW (cc := cX4_least) (maxL := 3) (ret := (some .int)) (by decide) rfl ?_
  intro p e s m args below meth c s₁ B hml hv
  obtain ⟨rfl, hP, hK⟩ := hv
  have hx := B.exec
  have hb := B.bytes
  have hr := B.returns
  have hts := atoms_spec (ws := wsX4_least) B.pre
  have hown : s.vm.findClass RX4 = some m.cls := findClass_of_methodNamed B.named
  have hlocks := B.notSynchronized
  have hinX4 : ∀ w ∈ wsX40, w ∈ wsX4_least := by decide +kernel
  have hl := lv_entry ([.ref mx]) (n := 3) (Nat.le_of_ble_eq_true rfl)
  rw [lg_entry_eq]
  generalize (lg_sl ([.ref mx]) ++ List.replicate (3 - (lg_sl ([.ref mx])).length) Slot.unset).toArray = ls at hl ⊢
  have hl : lv_has ls 3 [(0, .ref mx)] := hl
  refine lv_aload_n hx hb dX4_least_0 rfl (lv_at hl 0 rfl) ?_
  refine lv_aload_n hx hb dX4_least_1 rfl (lv_at hl 0 rfl) ?_
  refine va_get (D := (dC, dI)) (ci := 4) (v := .ref m6) (C := RX4) (T := TX4) (N := 12) hx hb hts hinX4 hown hK hP 0 rfl rfl 6 (by decide) (hts (.fieldLink RX4 13 "NumberContentsModel" "row" "[I") (by decide +kernel)) (fun _ h9 => h9) rfl dX4_least_2 ?_
  have hPc := hP.sub (ws' := [(mx, .inr (4, [.int th, .int (nI n), .int (nI dn), .int (nI bn), .int (nI wn), .ref m5, .ref m6, .ref m7, .ref m8, .ref m9, .ref m10, .ref m11])), (m6, .inl (cI, 210, .inl (fun j => nI (rw j))))]) [0, 1] rfl
  have hKc := hK.sub (tys' := [(cI, .int)]) [0] rfl
  refine vp_callSi (W.runV (As := [.ref m6]) (rest := []) ⟨hx, hb, hml, hown, hts⟩ (c_X4_isBelow l dC dI cI mx m5 m6 m7 m8 m9 m10 m11 n dn bn wn th rw hrw) (cwV 1 hts gX4_least_X4_isBelow rfl rfl rfl (by decide +kernel) ⟨Nat.le_of_ble_eq_true rfl, Nat.le_of_ble_eq_true rfl⟩) ⟨fun a U g mk q => by obtain ⟨q0, qP, qK⟩ := q; exact ⟨q0, qP, va_K.moved (u := U) (U := U.calling g mk a) (Vm.Alike.refl U.vm) qK⟩, va_recv hK hP (ci := 4) (q0 := 0) rfl rfl, fun U hU hW => ⟨rfl, by rw [hU]; exact hPc, va_K.moved hW.alike hKc⟩⟩ rfl rfl hl.1 rfl (lv_room (Nat.le_of_ble_eq_true rfl)) dX4_least_5 ⟨Nat.le_of_ble_eq_true rfl, Nat.le_of_ble_eq_true rfl⟩) (fun r5 h5 => ?_)
  refine lv_if_eq (tgt := 17) hx hb dX4_least_8 (by decide) (fun c8 => ?_) (fun c8 => ?_)
  · refine lv_iconst (v := (nI 0)) hx hb dX4_least_17 (by decide) ?_
    refine lv_istore_n (lv' := [(1, .int (nI 0)), (0, .ref mx)]) hx hb dX4_least_18 rfl hl (by decide) rfl (fun ls hl => ?_)
    refine lv_sipush (v := (nI 210)) hx hb dX4_least_19 (by decide) ?_
    refine lv_istore_n (lv' := [(2, .int (nI 210)), (1, .int (nI 0)), (0, .ref mx)]) hx hb dX4_least_22 rfl hl (by decide) rfl (fun ls hl => ?_)
    have LP23 : ∀ (n9 : Nat) (k fl : Nat) (hm : k < n9) (hk1 : 1 ≤ k) (hk : k ≤ 210) (hs : (fl = 255 ∧ 128 ≤ rw (k - 1)) ∨ (fl = 0 ∧ rw (k - 1) < 128)) (hv : sv rw k = sv rw 210) (ls : Array Slot) (hl : lv_has ls 3 [(0, .ref mx), (1, .int (nI fl)), (2, .int (nI k))]), W p l e (headSpec wsX4_least ({ frames := 1, cells := 0, slots := 0, locals := 21 } : Room)).room s m ([.ref mx]).toArray below meth c s.heap [] 0 0 (MQ below (vp_Si (fun r : Int32 => ∃ k : Nat, r = nI k ∧ isz (sv rw 210) k ∧ k ≤ 210 ∧ sv rw k = sv rw 210)) ([.ref mx]).toArray s 0 0 (fun _ => False)) (F0 m 23 ls []) := by
      intro n9
      induction n9 with
      | zero => intro k fl hm; exact absurd hm (Nat.not_lt_zero _)
      | succ n9 ih =>
        intro k fl hm hk1 hk hs hv ls hl
        have ih23 := ih
        refine lv_iload_n hx hb dX4_least_23 rfl (lv_at hl 2 rfl) ?_
        refine lv_iconst (v := 1) hx hb dX4_least_24 (by decide) ?_
        refine lv_icmp_le (tgt := 79) hx hb dX4_least_25 (by decide) (fun c25 => ?_) (fun c25 => ?_)
        · refine lv_iload_n hx hb dX4_least_79 rfl (lv_at hl 2 rfl) ?_
          exact W.iret (v := (nI k)) hx hb hr (fun tS htS hW => ⟨(nI k), rfl, ⟨k, rfl, hv ▸ (by first | exact absurd rfl c70 | exact few_exit hrw hk1 hs (Or.inr (Or.inr (by have h2 := hrw (k - 2); omega))) | exact few_exit hrw hk1 hs (Or.inr (Or.inl (fun y => c37 (by rw [y])))) | exact few_exit hrw hk1 hs (Or.inl ((nI_le1 (by omega)).mp c25))), hk, hv⟩, htS⟩) t_nil dX4_least_80
        · have hk2 : 2 ≤ k := Nat.lt_of_not_le (fun h => c25 ((nI_le1 (by omega)).mpr h))
          refine lv_aload_n hx hb dX4_least_28 rfl (lv_at hl 0 rfl) ?_
          refine va_get (D := (dC, dI)) (ci := 4) (v := .ref m6) (C := RX4) (T := TX4) (N := 12) hx hb hts hinX4 hown hK hP 0 rfl rfl 6 (by decide) (hts (.fieldLink RX4 13 "NumberContentsModel" "row" "[I") (by decide +kernel)) (fun _ h9 => h9) rfl dX4_least_29 ?_
          refine lv_iload_n hx hb dX4_least_32 rfl (lv_at hl 2 rfl) ?_
          refine lv_iconst (v := 1) hx hb dX4_least_33 (by decide) ?_
          refine lv_isub hx hb dX4_least_34 ?_
          refine lv_topi (fun x34 e34 => ?_)
          obtain rfl : x34 = nI (k - 1) := e34.trans (nI_m1 (by omega))
          refine va_iald hx hb hK hP 1 0 rfl rfl (vp_in_nI (by omega) (by omega)) dX4_least_35 ?_
          refine lv_topi (fun x35 e35 => ?_)
          obtain rfl : x35 = nI (rw (k - 1)) := e35.trans (atg (by omega))
          refine lv_iload_n hx hb dX4_least_36 rfl (lv_at hl 1 rfl) ?_
          refine lv_icmp_ne (tgt := 79) hx hb dX4_least_37 (by decide) (fun c37 => ?_) (fun c37 => ?_)
          · refine lv_iload_n hx hb dX4_least_79 rfl (lv_at hl 2 rfl) ?_
            exact W.iret (v := (nI k)) hx hb hr (fun tS htS hW => ⟨(nI k), rfl, ⟨k, rfl, hv ▸ (by first | exact absurd rfl c70 | exact few_exit hrw hk1 hs (Or.inr (Or.inr (by have h2 := hrw (k - 2); omega))) | exact few_exit hrw hk1 hs (Or.inr (Or.inl (fun y => c37 (by rw [y])))) | exact few_exit hrw hk1 hs (Or.inl ((nI_le1 (by omega)).mp c25))), hk, hv⟩, htS⟩) t_nil dX4_least_80
          · refine lv_aload_n hx hb dX4_least_40 rfl (lv_at hl 0 rfl) ?_
            refine va_get (D := (dC, dI)) (ci := 4) (v := .ref m6) (C := RX4) (T := TX4) (N := 12) hx hb hts hinX4 hown hK hP 0 rfl rfl 6 (by decide) (hts (.fieldLink RX4 13 "NumberContentsModel" "row" "[I") (by decide +kernel)) (fun _ h9 => h9) rfl dX4_least_41 ?_
            refine lv_iload_n hx hb dX4_least_44 rfl (lv_at hl 2 rfl) ?_
            refine lv_iconst (v := 2) hx hb dX4_least_45 (by decide) ?_
            refine lv_isub hx hb dX4_least_46 ?_
            refine lv_topi (fun x46 e46 => ?_)
            obtain rfl : x46 = nI (k - 2) := e46.trans (nI_m2 (by omega))
            refine va_iald hx hb hK hP 1 0 rfl rfl (vp_in_nI (by omega) (by omega)) dX4_least_47 ?_
            refine lv_topi (fun x47 e47 => ?_)
            obtain rfl : x47 = nI (rw (k - 2)) := e47.trans (atg (by omega))
            refine lv_bipush (v := (nI 127)) hx hb dX4_least_48 (by decide) ?_
            refine lv_icmp_le (tgt := 57) hx hb dX4_least_50 (by decide) (fun c50 => ?_) (fun c50 => ?_)
            · have q50 : rw (k - 2) ≤ 127 := (nI_leI (by have := hrw (k - 2); omega) (by omega)).mp c50
              refine lv_iconst (v := 0) hx hb dX4_least_57 (by decide) ?_
              refine lv_iload_n hx hb dX4_least_58 rfl (lv_at hl 1 rfl) ?_
              refine lv_sipush (v := (nI 255)) hx hb dX4_least_59 (by decide) ?_
              refine lv_icmp_ne (tgt := 69) hx hb dX4_least_62 (by decide) (fun c62 => ?_) (fun c62 => ?_)
              · have q62 : ¬ fl = 255 := fun y => c62 (by rw [y])
                refine lv_iconst (v := 0) hx hb dX4_least_69 (by decide) ?_
                refine lv_icmp_ne (tgt := 79) hx hb dX4_least_70 (by decide) (fun c70 => ?_) (fun c70 => ?_)
                · first | exact absurd c70 (by decide) | exact (c70 (by decide)).elim
                · obtain ⟨x73, e73⟩ : ∃ zz9 : Int32, zz9 = (nI k) + (-1) := ⟨_, rfl⟩
                  refine lv_iinc (v := x73) (lv' := [(2, .int x73), (0, .ref mx), (1, .int (nI fl))]) hx hb dX4_least_73 hl (k := 2) rfl (by rw [e73]; rfl) (by decide) rfl (fun ls hl => ?_)
                  obtain rfl : x73 = nI (k - 1) := e73.trans (sb_m1 (by omega))
                  refine lv_goto (tgt := 23) hx hb dX4_least_76 (by decide) ?_
                  have hq9 : (fl = 255 ∧ 128 ≤ rw (k - 2)) ∨ (fl = 0 ∧ rw (k - 2) < 128) := by first | exact absurd c70 (by decide) | (have h2 := hrw (k - 2); omega)
                  exact ih23 (k - 1) fl (by omega) (by omega) (by omega) hq9 ((sv_step hk2 hq9 (nI_inj (hrw _) (by omega) c37)).trans hv) _ (lv_sub hl [1, 2, 0] rfl)
              · have q62 : fl = 255 := (nI_eq (by omega) (by omega)).mp c62
                refine lv_iconst (v := 1) hx hb dX4_least_65 (by decide) ?_
                refine lv_goto (tgt := 70) hx hb dX4_least_66 (by decide) ?_
                refine lv_icmp_ne (tgt := 79) hx hb dX4_least_70 (by decide) (fun c70 => ?_) (fun c70 => ?_)
                · refine lv_iload_n hx hb dX4_least_79 rfl (lv_at hl 2 rfl) ?_
                  exact W.iret (v := (nI k)) hx hb hr (fun tS htS hW => ⟨(nI k), rfl, ⟨k, rfl, hv ▸ (by first | exact absurd rfl c70 | exact few_exit hrw hk1 hs (Or.inr (Or.inr (by have h2 := hrw (k - 2); omega))) | exact few_exit hrw hk1 hs (Or.inr (Or.inl (fun y => c37 (by rw [y])))) | exact few_exit hrw hk1 hs (Or.inl ((nI_le1 (by omega)).mp c25))), hk, hv⟩, htS⟩) t_nil dX4_least_80
                · first | exact absurd c70 (by decide) | exact (c70 (by decide)).elim
            · have q50 : 128 ≤ rw (k - 2) := Nat.lt_of_not_le (fun y => c50 (nI_le y (by omega)))
              refine lv_iconst (v := 1) hx hb dX4_least_53 (by decide) ?_
              refine lv_goto (tgt := 58) hx hb dX4_least_54 (by decide) ?_
              refine lv_iload_n hx hb dX4_least_58 rfl (lv_at hl 1 rfl) ?_
              refine lv_sipush (v := (nI 255)) hx hb dX4_least_59 (by decide) ?_
              refine lv_icmp_ne (tgt := 69) hx hb dX4_least_62 (by decide) (fun c62 => ?_) (fun c62 => ?_)
              · have q62 : ¬ fl = 255 := fun y => c62 (by rw [y])
                refine lv_iconst (v := 0) hx hb dX4_least_69 (by decide) ?_
                refine lv_icmp_ne (tgt := 79) hx hb dX4_least_70 (by decide) (fun c70 => ?_) (fun c70 => ?_)
                · refine lv_iload_n hx hb dX4_least_79 rfl (lv_at hl 2 rfl) ?_
                  exact W.iret (v := (nI k)) hx hb hr (fun tS htS hW => ⟨(nI k), rfl, ⟨k, rfl, hv ▸ (by first | exact absurd rfl c70 | exact few_exit hrw hk1 hs (Or.inr (Or.inr (by have h2 := hrw (k - 2); omega))) | exact few_exit hrw hk1 hs (Or.inr (Or.inl (fun y => c37 (by rw [y])))) | exact few_exit hrw hk1 hs (Or.inl ((nI_le1 (by omega)).mp c25))), hk, hv⟩, htS⟩) t_nil dX4_least_80
                · first | exact absurd c70 (by decide) | exact (c70 (by decide)).elim
              · have q62 : fl = 255 := (nI_eq (by omega) (by omega)).mp c62
                refine lv_iconst (v := 1) hx hb dX4_least_65 (by decide) ?_
                refine lv_goto (tgt := 70) hx hb dX4_least_66 (by decide) ?_
                refine lv_icmp_ne (tgt := 79) hx hb dX4_least_70 (by decide) (fun c70 => ?_) (fun c70 => ?_)
                · first | exact absurd c70 (by decide) | exact (c70 (by decide)).elim
                · obtain ⟨x73, e73⟩ : ∃ zz9 : Int32, zz9 = (nI k) + (-1) := ⟨_, rfl⟩
                  refine lv_iinc (v := x73) (lv' := [(2, .int x73), (0, .ref mx), (1, .int (nI fl))]) hx hb dX4_least_73 hl (k := 2) rfl (by rw [e73]; rfl) (by decide) rfl (fun ls hl => ?_)
                  obtain rfl : x73 = nI (k - 1) := e73.trans (sb_m1 (by omega))
                  refine lv_goto (tgt := 23) hx hb dX4_least_76 (by decide) ?_
                  have hq9 : (fl = 255 ∧ 128 ≤ rw (k - 2)) ∨ (fl = 0 ∧ rw (k - 2) < 128) := by first | exact absurd c70 (by decide) | (have h2 := hrw (k - 2); omega)
                  exact ih23 (k - 1) fl (by omega) (by omega) (by omega) hq9 ((sv_step hk2 hq9 (nI_inj (hrw _) (by omega) c37)).trans hv) _ (lv_sub hl [1, 2, 0] rfl)
    exact LP23 _ 210 0 (Nat.lt_succ_self _) (by omega) (by omega) (Or.inr ⟨rfl, Nat.lt_of_not_le (ite_r h5 c8)⟩) rfl _ (lv_sub hl [2, 1, 0] rfl)
  · refine lv_sipush (v := (nI 255)) hx hb dX4_least_11 (by decide) ?_
    refine lv_goto (tgt := 18) hx hb dX4_least_14 (by decide) ?_
    refine lv_istore_n (lv' := [(1, .int (nI 255)), (0, .ref mx)]) hx hb dX4_least_18 rfl hl (by decide) rfl (fun ls hl => ?_)
    refine lv_sipush (v := (nI 210)) hx hb dX4_least_19 (by decide) ?_
    refine lv_istore_n (lv' := [(2, .int (nI 210)), (1, .int (nI 255)), (0, .ref mx)]) hx hb dX4_least_22 rfl hl (by decide) rfl (fun ls hl => ?_)
    have LP23 : ∀ (n9 : Nat) (k fl : Nat) (hm : k < n9) (hk1 : 1 ≤ k) (hk : k ≤ 210) (hs : (fl = 255 ∧ 128 ≤ rw (k - 1)) ∨ (fl = 0 ∧ rw (k - 1) < 128)) (hv : sv rw k = sv rw 210) (ls : Array Slot) (hl : lv_has ls 3 [(0, .ref mx), (1, .int (nI fl)), (2, .int (nI k))]), W p l e (headSpec wsX4_least ({ frames := 1, cells := 0, slots := 0, locals := 21 } : Room)).room s m ([.ref mx]).toArray below meth c s.heap [] 0 0 (MQ below (vp_Si (fun r : Int32 => ∃ k : Nat, r = nI k ∧ isz (sv rw 210) k ∧ k ≤ 210 ∧ sv rw k = sv rw 210)) ([.ref mx]).toArray s 0 0 (fun _ => False)) (F0 m 23 ls []) := by
      intro n9
      induction n9 with
      | zero => intro k fl hm; exact absurd hm (Nat.not_lt_zero _)
      | succ n9 ih =>
        intro k fl hm hk1 hk hs hv ls hl
        have ih23 := ih
        refine lv_iload_n hx hb dX4_least_23 rfl (lv_at hl 2 rfl) ?_
        refine lv_iconst (v := 1) hx hb dX4_least_24 (by decide) ?_
        refine lv_icmp_le (tgt := 79) hx hb dX4_least_25 (by decide) (fun c25 => ?_) (fun c25 => ?_)
        · refine lv_iload_n hx hb dX4_least_79 rfl (lv_at hl 2 rfl) ?_
          exact W.iret (v := (nI k)) hx hb hr (fun tS htS hW => ⟨(nI k), rfl, ⟨k, rfl, hv ▸ (by first | exact absurd rfl c70 | exact few_exit hrw hk1 hs (Or.inr (Or.inr (by have h2 := hrw (k - 2); omega))) | exact few_exit hrw hk1 hs (Or.inr (Or.inl (fun y => c37 (by rw [y])))) | exact few_exit hrw hk1 hs (Or.inl ((nI_le1 (by omega)).mp c25))), hk, hv⟩, htS⟩) t_nil dX4_least_80
        · have hk2 : 2 ≤ k := Nat.lt_of_not_le (fun h => c25 ((nI_le1 (by omega)).mpr h))
          refine lv_aload_n hx hb dX4_least_28 rfl (lv_at hl 0 rfl) ?_
          refine va_get (D := (dC, dI)) (ci := 4) (v := .ref m6) (C := RX4) (T := TX4) (N := 12) hx hb hts hinX4 hown hK hP 0 rfl rfl 6 (by decide) (hts (.fieldLink RX4 13 "NumberContentsModel" "row" "[I") (by decide +kernel)) (fun _ h9 => h9) rfl dX4_least_29 ?_
          refine lv_iload_n hx hb dX4_least_32 rfl (lv_at hl 2 rfl) ?_
          refine lv_iconst (v := 1) hx hb dX4_least_33 (by decide) ?_
          refine lv_isub hx hb dX4_least_34 ?_
          refine lv_topi (fun x34 e34 => ?_)
          obtain rfl : x34 = nI (k - 1) := e34.trans (nI_m1 (by omega))
          refine va_iald hx hb hK hP 1 0 rfl rfl (vp_in_nI (by omega) (by omega)) dX4_least_35 ?_
          refine lv_topi (fun x35 e35 => ?_)
          obtain rfl : x35 = nI (rw (k - 1)) := e35.trans (atg (by omega))
          refine lv_iload_n hx hb dX4_least_36 rfl (lv_at hl 1 rfl) ?_
          refine lv_icmp_ne (tgt := 79) hx hb dX4_least_37 (by decide) (fun c37 => ?_) (fun c37 => ?_)
          · refine lv_iload_n hx hb dX4_least_79 rfl (lv_at hl 2 rfl) ?_
            exact W.iret (v := (nI k)) hx hb hr (fun tS htS hW => ⟨(nI k), rfl, ⟨k, rfl, hv ▸ (by first | exact absurd rfl c70 | exact few_exit hrw hk1 hs (Or.inr (Or.inr (by have h2 := hrw (k - 2); omega))) | exact few_exit hrw hk1 hs (Or.inr (Or.inl (fun y => c37 (by rw [y])))) | exact few_exit hrw hk1 hs (Or.inl ((nI_le1 (by omega)).mp c25))), hk, hv⟩, htS⟩) t_nil dX4_least_80
          · refine lv_aload_n hx hb dX4_least_40 rfl (lv_at hl 0 rfl) ?_
            refine va_get (D := (dC, dI)) (ci := 4) (v := .ref m6) (C := RX4) (T := TX4) (N := 12) hx hb hts hinX4 hown hK hP 0 rfl rfl 6 (by decide) (hts (.fieldLink RX4 13 "NumberContentsModel" "row" "[I") (by decide +kernel)) (fun _ h9 => h9) rfl dX4_least_41 ?_
            refine lv_iload_n hx hb dX4_least_44 rfl (lv_at hl 2 rfl) ?_
            refine lv_iconst (v := 2) hx hb dX4_least_45 (by decide) ?_
            refine lv_isub hx hb dX4_least_46 ?_
            refine lv_topi (fun x46 e46 => ?_)
            obtain rfl : x46 = nI (k - 2) := e46.trans (nI_m2 (by omega))
            refine va_iald hx hb hK hP 1 0 rfl rfl (vp_in_nI (by omega) (by omega)) dX4_least_47 ?_
            refine lv_topi (fun x47 e47 => ?_)
            obtain rfl : x47 = nI (rw (k - 2)) := e47.trans (atg (by omega))
            refine lv_bipush (v := (nI 127)) hx hb dX4_least_48 (by decide) ?_
            refine lv_icmp_le (tgt := 57) hx hb dX4_least_50 (by decide) (fun c50 => ?_) (fun c50 => ?_)
            · have q50 : rw (k - 2) ≤ 127 := (nI_leI (by have := hrw (k - 2); omega) (by omega)).mp c50
              refine lv_iconst (v := 0) hx hb dX4_least_57 (by decide) ?_
              refine lv_iload_n hx hb dX4_least_58 rfl (lv_at hl 1 rfl) ?_
              refine lv_sipush (v := (nI 255)) hx hb dX4_least_59 (by decide) ?_
              refine lv_icmp_ne (tgt := 69) hx hb dX4_least_62 (by decide) (fun c62 => ?_) (fun c62 => ?_)
              · have q62 : ¬ fl = 255 := fun y => c62 (by rw [y])
                refine lv_iconst (v := 0) hx hb dX4_least_69 (by decide) ?_
                refine lv_icmp_ne (tgt := 79) hx hb dX4_least_70 (by decide) (fun c70 => ?_) (fun c70 => ?_)
                · first | exact absurd c70 (by decide) | exact (c70 (by decide)).elim
                · obtain ⟨x73, e73⟩ : ∃ zz9 : Int32, zz9 = (nI k) + (-1) := ⟨_, rfl⟩
                  refine lv_iinc (v := x73) (lv' := [(2, .int x73), (0, .ref mx), (1, .int (nI fl))]) hx hb dX4_least_73 hl (k := 2) rfl (by rw [e73]; rfl) (by decide) rfl (fun ls hl => ?_)
                  obtain rfl : x73 = nI (k - 1) := e73.trans (sb_m1 (by omega))
                  refine lv_goto (tgt := 23) hx hb dX4_least_76 (by decide) ?_
                  have hq9 : (fl = 255 ∧ 128 ≤ rw (k - 2)) ∨ (fl = 0 ∧ rw (k - 2) < 128) := by first | exact absurd c70 (by decide) | (have h2 := hrw (k - 2); omega)
                  exact ih23 (k - 1) fl (by omega) (by omega) (by omega) hq9 ((sv_step hk2 hq9 (nI_inj (hrw _) (by omega) c37)).trans hv) _ (lv_sub hl [1, 2, 0] rfl)
              · have q62 : fl = 255 := (nI_eq (by omega) (by omega)).mp c62
                refine lv_iconst (v := 1) hx hb dX4_least_65 (by decide) ?_
                refine lv_goto (tgt := 70) hx hb dX4_least_66 (by decide) ?_
                refine lv_icmp_ne (tgt := 79) hx hb dX4_least_70 (by decide) (fun c70 => ?_) (fun c70 => ?_)
                · refine lv_iload_n hx hb dX4_least_79 rfl (lv_at hl 2 rfl) ?_
                  exact W.iret (v := (nI k)) hx hb hr (fun tS htS hW => ⟨(nI k), rfl, ⟨k, rfl, hv ▸ (by first | exact absurd rfl c70 | exact few_exit hrw hk1 hs (Or.inr (Or.inr (by have h2 := hrw (k - 2); omega))) | exact few_exit hrw hk1 hs (Or.inr (Or.inl (fun y => c37 (by rw [y])))) | exact few_exit hrw hk1 hs (Or.inl ((nI_le1 (by omega)).mp c25))), hk, hv⟩, htS⟩) t_nil dX4_least_80
                · first | exact absurd c70 (by decide) | exact (c70 (by decide)).elim
            · have q50 : 128 ≤ rw (k - 2) := Nat.lt_of_not_le (fun y => c50 (nI_le y (by omega)))
              refine lv_iconst (v := 1) hx hb dX4_least_53 (by decide) ?_
              refine lv_goto (tgt := 58) hx hb dX4_least_54 (by decide) ?_
              refine lv_iload_n hx hb dX4_least_58 rfl (lv_at hl 1 rfl) ?_
              refine lv_sipush (v := (nI 255)) hx hb dX4_least_59 (by decide) ?_
              refine lv_icmp_ne (tgt := 69) hx hb dX4_least_62 (by decide) (fun c62 => ?_) (fun c62 => ?_)
              · have q62 : ¬ fl = 255 := fun y => c62 (by rw [y])
                refine lv_iconst (v := 0) hx hb dX4_least_69 (by decide) ?_
                refine lv_icmp_ne (tgt := 79) hx hb dX4_least_70 (by decide) (fun c70 => ?_) (fun c70 => ?_)
                · refine lv_iload_n hx hb dX4_least_79 rfl (lv_at hl 2 rfl) ?_
                  exact W.iret (v := (nI k)) hx hb hr (fun tS htS hW => ⟨(nI k), rfl, ⟨k, rfl, hv ▸ (by first | exact absurd rfl c70 | exact few_exit hrw hk1 hs (Or.inr (Or.inr (by have h2 := hrw (k - 2); omega))) | exact few_exit hrw hk1 hs (Or.inr (Or.inl (fun y => c37 (by rw [y])))) | exact few_exit hrw hk1 hs (Or.inl ((nI_le1 (by omega)).mp c25))), hk, hv⟩, htS⟩) t_nil dX4_least_80
                · first | exact absurd c70 (by decide) | exact (c70 (by decide)).elim
              · have q62 : fl = 255 := (nI_eq (by omega) (by omega)).mp c62
                refine lv_iconst (v := 1) hx hb dX4_least_65 (by decide) ?_
                refine lv_goto (tgt := 70) hx hb dX4_least_66 (by decide) ?_
                refine lv_icmp_ne (tgt := 79) hx hb dX4_least_70 (by decide) (fun c70 => ?_) (fun c70 => ?_)
                · first | exact absurd c70 (by decide) | exact (c70 (by decide)).elim
                · obtain ⟨x73, e73⟩ : ∃ zz9 : Int32, zz9 = (nI k) + (-1) := ⟨_, rfl⟩
                  refine lv_iinc (v := x73) (lv' := [(2, .int x73), (0, .ref mx), (1, .int (nI fl))]) hx hb dX4_least_73 hl (k := 2) rfl (by rw [e73]; rfl) (by decide) rfl (fun ls hl => ?_)
                  obtain rfl : x73 = nI (k - 1) := e73.trans (sb_m1 (by omega))
                  refine lv_goto (tgt := 23) hx hb dX4_least_76 (by decide) ?_
                  have hq9 : (fl = 255 ∧ 128 ≤ rw (k - 2)) ∨ (fl = 0 ∧ rw (k - 2) < 128) := by first | exact absurd c70 (by decide) | (have h2 := hrw (k - 2); omega)
                  exact ih23 (k - 1) fl (by omega) (by omega) (by omega) hq9 ((sv_step hk2 hq9 (nI_inj (hrw _) (by omega) c37)).trans hv) _ (lv_sub hl [1, 2, 0] rfl)
    exact LP23 _ 210 255 (Nat.lt_succ_self _) (by omega) (by omega) (Or.inl ⟨rfl, ite_s h5 c8⟩) rfl _ (lv_sub hl [2, 1, 0] rfl)

set_option maxHeartbeats 4000000 in
set_option maxRecDepth 100000 in
theorem c_X4_keep (l : Launch) (dC : Nat → ClassId) (dI : Nat → Nat → Nat) (cI cB : ClassId) (mx m5 m6 m7 m8 m9 m10 m11 n dn bn wn : Nat) (th : Int32) (g z rw : Nat → Nat) (un : Int32) (sz : Nat) (hI : XM n g z) (hrw : ∀ j, rw j < 256) (hun : un = 2 ∨ un = 3) : Met l yX4_keep wsX4_keep ({ frames := 2, cells := 0, slots := 0, locals := 43 } : Room) (va_Pc [.ref mx, .int un] (fun U => U.heap.size = sz ∧ va_P (dC, dI) vwCl [(mx, .inr (4, [.int th, .int (nI n), .int (nI dn), .int (nI bn), .int (nI wn), .ref m5, .ref m6, .ref m7, .ref m8, .ref m9, .ref m10, .ref m11])), (m5, .inl (cI, 40, .inl (fun j => nI (z j)))), (m6, .inl (cI, 210, .inl (fun j => nI (rw j)))), (m9, .inl (cB, 8000, .inl (fun j => sb_b (g j))))] U.heap ∧ va_K (dC, dI) vwCl [(cI, .int), (cB, .byte)] U ∧ va_D (fun _ => True) [(mx, .inr (4, [.int th, .int (nI n), .int (nI dn), .int (nI bn), .int (nI wn), .ref m5, .ref m6, .ref m7, .ref m8, .ref m9, .ref m10, .ref m11])), (m5, .inl (cI, 40, .inl (fun j => nI (z j)))), (m6, .inl (cI, 210, .inl (fun j => nI (rw j)))), (m9, .inl (cB, 8000, .inl (fun j => sb_b (g j))))])) (va_Qi (fun (r : Int32) (uS : Int32 × Nat × (Nat → Nat) × (Nat → Nat)) => match uS with | (th3, n3, g3, z3) => (th3 = 0 ∧ n3 = n + 1 ∧ KEPTM n g z g3 z3 (sv rw 210) r) ∨ (th3 = un ∧ n3 = n ∧ g3 = g ∧ z3 = z ∧ NOKEEP n (sv rw 210))) (fun (uS : Int32 × Nat × (Nat → Nat) × (Nat → Nat)) (tS : State) => match uS with | (th3, n3, g3, z3) => va_P (dC, dI) vwCl [(mx, .inr (4, [.int th3, .int (nI n3), .int (nI dn), .int (nI bn), .int (nI wn), .ref m5, .ref m6, .ref m7, .ref m8, .ref m9, .ref m10, .ref m11])), (m5, .inl (cI, 40, .inl (fun j => nI (z3 j)))), (m6, .inl (cI, 210, .inl (fun j => nI (rw j)))), (m9, .inl (cB, 8000, .inl (fun j => sb_b (g3 j))))] tS.heap ∧ va_K (dC, dI) vwCl [(cI, .int), (cB, .byte)] tS ∧ va_D (va_A [(mx, .inr (4, [.int th, .int (nI n), .int (nI dn), .int (nI bn), .int (nI wn), .ref m5, .ref m6, .ref m7, .ref m8, .ref m9, .ref m10, .ref m11])), (m5, .inl (cI, 40, .inl (fun j => nI (z j)))), (m6, .inl (cI, 210, .inl (fun j => nI (rw j)))), (m9, .inl (cB, 8000, .inl (fun j => sb_b (g j))))] sz) [(mx, .inr (4, [.int th3, .int (nI n3), .int (nI dn), .int (nI bn), .int (nI wn), .ref m5, .ref m6, .ref m7, .ref m8, .ref m9, .ref m10, .ref m11])), (m5, .inl (cI, 40, .inl (fun j => nI (z3 j)))), (m6, .inl (cI, 210, .inl (fun j => nI (rw j)))), (m9, .inl (cB, 8000, .inl (fun j => sb_b (g3 j))))]) (va_A [(mx, .inr (4, [.int th, .int (nI n), .int (nI dn), .int (nI bn), .int (nI wn), .ref m5, .ref m6, .ref m7, .ref m8, .ref m9, .ref m10, .ref m11])), (m5, .inl (cI, 40, .inl (fun j => nI (z j)))), (m6, .inl (cI, 210, .inl (fun j => nI (rw j)))), (m9, .inl (cB, 8000, .inl (fun j => sb_b (g j))))] sz)) 0 0 (va_A [(mx, .inr (4, [.int th, .int (nI n), .int (nI dn), .int (nI bn), .int (nI wn), .ref m5, .ref m6, .ref m7, .ref m8, .ref m9, .ref m10, .ref m11])), (m5, .inl (cI, 40, .inl (fun j => nI (z j)))), (m6, .inl (cI, 210, .inl (fun j => nI (rw j)))), (m9, .inl (cB, 8000, .inl (fun j => sb_b (g j))))] sz) := by
  refine Met.ofW (cc := cX4_keep) (maxL := 4) (ret := (some .int)) (by decide) rfl ?_
  intro p e s m args below meth c s₁ B hml hv
  obtain ⟨rfl, hsz, hP, hK, hD0⟩ := hv
  have hx := B.exec
  have hb := B.bytes
  have hr := B.returns
  have hts := atoms_spec (ws := wsX4_keep) B.pre
  have hown : s.vm.findClass RX4 = some m.cls := findClass_of_methodNamed B.named
  have hlocks := B.notSynchronized
  subst hsz
  have hD := hD0.self (sz := s.heap.size)
  generalize hAe : va_A [(mx, .inr (4, [.int th, .int (nI n), .int (nI dn), .int (nI bn), .int (nI wn), .ref m5, .ref m6, .ref m7, .ref m8, .ref m9, .ref m10, .ref m11])), (m5, .inl (cI, 40, .inl (fun j => nI (z j)))), (m6, .inl (cI, 210, .inl (fun j => nI (rw j)))), (m9, .inl (cB, 8000, .inl (fun j => sb_b (g j))))] s.heap.size = A at hD ⊢
  have hA : ∀ q : Nat, s.heap.size ≤ q → A q := fun q h => by rw [← hAe]; exact Or.inr h
  have hS : va_S A s.heap s.heap [] := va_S.rf
  have hinX4 : ∀ w ∈ wsX40, w ∈ wsX4_keep := by decide +kernel
  have hl := lv_entry ([.ref mx, .int un]) (n := 4) (Nat.le_of_ble_eq_true rfl)
  rw [lg_entry_eq]
  generalize (lg_sl ([.ref mx, .int un]) ++ List.replicate (4 - (lg_sl ([.ref mx, .int un])).length) Slot.unset).toArray = ls at hl ⊢
  have hl : lv_has ls 4 [(0, .ref mx), (1, .int un)] := hl
  obtain ⟨hg, hn, hz, hq⟩ := id hI
  refine lv_aload_n hx hb dX4_keep_0 rfl (lv_at hl 0 rfl) ?_
  have hPc := hP.sub (ws' := [(mx, .inr (4, [.int th, .int (nI n), .int (nI dn), .int (nI bn), .int (nI wn), .ref m5, .ref m6, .ref m7, .ref m8, .ref m9, .ref m10, .ref m11])), (m6, .inl (cI, 210, .inl (fun j => nI (rw j))))]) [0, 2] rfl
  have hKc := hK.sub (tys' := [(cI, .int)]) [0] rfl
  refine vp_callSi (W.runV (As := []) (rest := []) ⟨hx, hb, hml, hown, hts⟩ (c_X4_least l dC dI cI mx m5 m6 m7 m8 m9 m10 m11 n dn bn wn th rw hrw) (cwV 0 hts gX4_keep_X4_least rfl rfl rfl (by decide +kernel) ⟨Nat.le_of_ble_eq_true rfl, Nat.le_of_ble_eq_true rfl⟩) ⟨fun a U g mk q => by obtain ⟨q0, qP, qK⟩ := q; exact ⟨q0, qP, va_K.moved (u := U) (U := U.calling g mk a) (Vm.Alike.refl U.vm) qK⟩, va_recv hK hP (ci := 4) (q0 := 0) rfl rfl, fun U hU hW => ⟨rfl, by rw [hU]; exact hPc, va_K.moved hW.alike hKc⟩⟩ rfl rfl hl.1 rfl (lv_room (Nat.le_of_ble_eq_true rfl)) dX4_keep_1 ⟨Nat.le_of_ble_eq_true rfl, Nat.le_of_ble_eq_true rfl⟩) (fun r1 h1 => ?_)
  obtain ⟨k, rfl, hk1, hk2, hk3⟩ := h1
  refine lv_istore_n (lv' := [(2, .int (nI k)), (0, .ref mx), (1, .int un)]) hx hb dX4_keep_4 rfl hl (by decide) rfl (fun ls hl => ?_)
  refine lv_aload_n hx hb dX4_keep_5 rfl (lv_at hl 1 rfl) ?_
  refine lv_aload_n hx hb dX4_keep_6 rfl (lv_at hl 1 rfl) ?_
  refine va_get (D := (dC, dI)) (ci := 4) (v := .int (nI n)) (C := RX4) (T := TX4) (N := 12) hx hb hts hinX4 hown hK hP 0 rfl rfl 1 (by decide) (hts (.fieldLink RX4 52 "NumberContentsModel" "many" "I") (by decide +kernel)) (fun _ h9 => h9) rfl dX4_keep_7 ?_
  refine lv_bipush (v := (nI 40)) hx hb dX4_keep_10 (by decide) ?_
  refine lv_icmp_eq (tgt := 22) hx hb dX4_keep_12 (by decide) (fun c12 => ?_) (fun c12 => ?_)
  · refine lv_iload_n hx hb dX4_keep_22 rfl (lv_at hl 2 rfl) ?_
    refine lv_goto (tgt := 27) hx hb dX4_keep_23 (by decide) ?_
    refine va_put (D := (dC, dI)) (ci := 4) (v := .int un) (ty := .int) (C := RX4) (T := TX4) (N := 12) hx hb hts hinX4 tyX4 tyX4_ok nmX4 hown hK hP hD hS 0 rfl rfl 0 (by decide) (hts (.fieldLink RX4 32 "NumberContentsModel" "thrown" "I") (by decide +kernel)) (fun _ h9 => h9) rfl (by decide +kernel) rfl rfl (Nat.le_of_ble_eq_true rfl) dX4_keep_27 (fun H locs hP hD hS => ?_)
    have hP : va_P (dC, dI) vwCl [(mx, .inr (4, [.int un, .int (nI n), .int (nI dn), .int (nI bn), .int (nI wn), .ref m5, .ref m6, .ref m7, .ref m8, .ref m9, .ref m10, .ref m11])), (m5, .inl (cI, 40, .inl (fun j => nI (z j)))), (m6, .inl (cI, 210, .inl (fun j => nI (rw j)))), (m9, .inl (cB, 8000, .inl (fun j => sb_b (g j))))] H := hP
    have hD : va_D A [(mx, .inr (4, [.int un, .int (nI n), .int (nI dn), .int (nI bn), .int (nI wn), .ref m5, .ref m6, .ref m7, .ref m8, .ref m9, .ref m10, .ref m11])), (m5, .inl (cI, 40, .inl (fun j => nI (z j)))), (m6, .inl (cI, 210, .inl (fun j => nI (rw j)))), (m9, .inl (cB, 8000, .inl (fun j => sb_b (g j))))] := hD
    refine lv_aload_n hx hb dX4_keep_30 rfl (lv_at hl 1 rfl) ?_
    refine va_get (D := (dC, dI)) (ci := 4) (v := .int un) (C := RX4) (T := TX4) (N := 12) hx hb hts hinX4 hown hK hP 0 rfl rfl 0 (by decide) (hts (.fieldLink RX4 32 "NumberContentsModel" "thrown" "I") (by decide +kernel)) (fun _ h9 => h9) rfl dX4_keep_31 ?_
    refine lv_if_le (tgt := 39) hx hb dX4_keep_34 (by decide) (fun c34 => ?_) (fun c34 => ?_)
    · exact absurd c34 (by rcases hun with rfl | rfl <;> decide)
    · refine lv_iconst (v := 0) hx hb dX4_keep_37 (by decide) ?_
      have hP9 := hP.sub (ws' := [(mx, .inr (4, [.int un, .int (nI n), .int (nI dn), .int (nI bn), .int (nI wn), .ref m5, .ref m6, .ref m7, .ref m8, .ref m9, .ref m10, .ref m11])), (m5, .inl (cI, 40, .inl (fun j => nI (z j)))), (m6, .inl (cI, 210, .inl (fun j => nI (rw j)))), (m9, .inl (cB, 8000, .inl (fun j => sb_b (g j))))]) [0, 1, 2, 3] rfl
      have hD9 := hD.sub (ws' := [(mx, .inr (4, [.int un, .int (nI n), .int (nI dn), .int (nI bn), .int (nI wn), .ref m5, .ref m6, .ref m7, .ref m8, .ref m9, .ref m10, .ref m11])), (m5, .inl (cI, 40, .inl (fun j => nI (z j)))), (m6, .inl (cI, 210, .inl (fun j => nI (rw j)))), (m9, .inl (cB, 8000, .inl (fun j => sb_b (g j))))]) [0, 1, 2, 3] (by decide) rfl
      have hK9 := hK.sub (tys' := [(cI, .int), (cB, .byte)]) [0, 1] rfl
      exact W.iret (v := 0) hx hb hr (fun tS htS hW => ⟨⟨0, (un, n, g, z), rfl, (by first | exact absurd (by decide) c34 | exact Or.inr ⟨rfl, rfl, rfl, rfl, Or.inr ⟨k, hk1, Nat.lt_of_not_le (fun y => c19 (nI_le y (by omega)))⟩⟩ | exact Or.inr ⟨rfl, rfl, rfl, rfl, Or.inl ((nI_eq (by omega) (by omega)).mp c12)⟩), by rw [htS]; exact hP9, va_K.moved hW.alike hK9, hD9⟩, hS.F htS⟩) hS.2.2 dX4_keep_38
  · refine lv_iload_n hx hb dX4_keep_15 rfl (lv_at hl 0 rfl) ?_
    refine lv_sipush (v := (nI 200)) hx hb dX4_keep_16 (by decide) ?_
    refine lv_icmp_le (tgt := 26) hx hb dX4_keep_19 (by decide) (fun c19 => ?_) (fun c19 => ?_)
    · refine lv_iconst (v := 0) hx hb dX4_keep_26 (by decide) ?_
      refine va_put (D := (dC, dI)) (ci := 4) (v := .int 0) (ty := .int) (C := RX4) (T := TX4) (N := 12) hx hb hts hinX4 tyX4 tyX4_ok nmX4 hown hK hP hD hS 0 rfl rfl 0 (by decide) (hts (.fieldLink RX4 32 "NumberContentsModel" "thrown" "I") (by decide +kernel)) (fun _ h9 => h9) rfl (by decide +kernel) rfl rfl (Nat.le_of_ble_eq_true rfl) dX4_keep_27 (fun H locs hP hD hS => ?_)
      have hP : va_P (dC, dI) vwCl [(mx, .inr (4, [.int 0, .int (nI n), .int (nI dn), .int (nI bn), .int (nI wn), .ref m5, .ref m6, .ref m7, .ref m8, .ref m9, .ref m10, .ref m11])), (m5, .inl (cI, 40, .inl (fun j => nI (z j)))), (m6, .inl (cI, 210, .inl (fun j => nI (rw j)))), (m9, .inl (cB, 8000, .inl (fun j => sb_b (g j))))] H := hP
      have hD : va_D A [(mx, .inr (4, [.int 0, .int (nI n), .int (nI dn), .int (nI bn), .int (nI wn), .ref m5, .ref m6, .ref m7, .ref m8, .ref m9, .ref m10, .ref m11])), (m5, .inl (cI, 40, .inl (fun j => nI (z j)))), (m6, .inl (cI, 210, .inl (fun j => nI (rw j)))), (m9, .inl (cB, 8000, .inl (fun j => sb_b (g j))))] := hD
      refine lv_aload_n hx hb dX4_keep_30 rfl (lv_at hl 1 rfl) ?_
      refine va_get (D := (dC, dI)) (ci := 4) (v := .int 0) (C := RX4) (T := TX4) (N := 12) hx hb hts hinX4 hown hK hP 0 rfl rfl 0 (by decide) (hts (.fieldLink RX4 32 "NumberContentsModel" "thrown" "I") (by decide +kernel)) (fun _ h9 => h9) rfl dX4_keep_31 ?_
      refine lv_if_le (tgt := 39) hx hb dX4_keep_34 (by decide) (fun c34 => ?_) (fun c34 => ?_)
      · have hk200 : k ≤ 200 := (by first | exact (nI_leI (by omega) (by omega)).mp c19 | exact absurd c34 (by rcases hun with rfl | rfl <;> decide))
        have hn40 : n < 40 := (by have : ¬ n = 40 := (by first | exact (fun y => c12 (by rw [y])) | exact absurd c34 (by rcases hun with rfl | rfl <;> decide)); omega)
        refine lv_iconst (v := (nI 0)) hx hb dX4_keep_39 (by decide) ?_
        refine lv_istore_n (lv' := [(3, .int (nI 0)), (2, .int (nI k)), (0, .ref mx), (1, .int un)]) hx hb dX4_keep_40 rfl hl (by decide) rfl (fun ls hl => ?_)
        have LP41 : ∀ (n9 : Nat) (i : Nat) (g2 : Nat → Nat) (hm : (k - i) < n9) (hi : i ≤ k) (hA2 : ∀ j, j < i → g2 (200 * n + j) = rw (k - 1 - j)) (hB2 : ∀ y, y < 200 * n ∨ 200 * n + i ≤ y → g2 y = g y) (H : Heap) (locs : List Loc) (ls : Array Slot) (hP : va_P (dC, dI) vwCl [(mx, .inr (4, [.int 0, .int (nI n), .int (nI dn), .int (nI bn), .int (nI wn), .ref m5, .ref m6, .ref m7, .ref m8, .ref m9, .ref m10, .ref m11])), (m5, .inl (cI, 40, .inl (fun j => nI (z j)))), (m6, .inl (cI, 210, .inl (fun j => nI (rw j)))), (m9, .inl (cB, 8000, .inl (fun j => sb_b (g2 j))))] H) (hD : va_D A [(mx, .inr (4, [.int 0, .int (nI n), .int (nI dn), .int (nI bn), .int (nI wn), .ref m5, .ref m6, .ref m7, .ref m8, .ref m9, .ref m10, .ref m11])), (m5, .inl (cI, 40, .inl (fun j => nI (z j)))), (m6, .inl (cI, 210, .inl (fun j => nI (rw j)))), (m9, .inl (cB, 8000, .inl (fun j => sb_b (g2 j))))]) (hS : va_S A s.heap H locs) (hl : lv_has ls 4 [(0, .ref mx), (1, .int un), (2, .int (nI k)), (3, .int (nI i))]), W p l e (headSpec wsX4_keep ({ frames := 2, cells := 0, slots := 0, locals := 43 } : Room)).room s m ([.ref mx, .int un]).toArray below meth c H locs 0 0 (MQ below (va_Qi (fun (r : Int32) (uS : Int32 × Nat × (Nat → Nat) × (Nat → Nat)) => match uS with | (th3, n3, g3, z3) => (th3 = 0 ∧ n3 = n + 1 ∧ KEPTM n g z g3 z3 (sv rw 210) r) ∨ (th3 = un ∧ n3 = n ∧ g3 = g ∧ z3 = z ∧ NOKEEP n (sv rw 210))) (fun (uS : Int32 × Nat × (Nat → Nat) × (Nat → Nat)) (tS : State) => match uS with | (th3, n3, g3, z3) => va_P (dC, dI) vwCl [(mx, .inr (4, [.int th3, .int (nI n3), .int (nI dn), .int (nI bn), .int (nI wn), .ref m5, .ref m6, .ref m7, .ref m8, .ref m9, .ref m10, .ref m11])), (m5, .inl (cI, 40, .inl (fun j => nI (z3 j)))), (m6, .inl (cI, 210, .inl (fun j => nI (rw j)))), (m9, .inl (cB, 8000, .inl (fun j => sb_b (g3 j))))] tS.heap ∧ va_K (dC, dI) vwCl [(cI, .int), (cB, .byte)] tS ∧ va_D A [(mx, .inr (4, [.int th3, .int (nI n3), .int (nI dn), .int (nI bn), .int (nI wn), .ref m5, .ref m6, .ref m7, .ref m8, .ref m9, .ref m10, .ref m11])), (m5, .inl (cI, 40, .inl (fun j => nI (z3 j)))), (m6, .inl (cI, 210, .inl (fun j => nI (rw j)))), (m9, .inl (cB, 8000, .inl (fun j => sb_b (g3 j))))]) A) ([.ref mx, .int un]).toArray s 0 0 A) (F0 m 41 ls []) := by
          intro n9
          induction n9 with
          | zero => intro i g2 hm; exact absurd hm (Nat.not_lt_zero _)
          | succ n9 ih =>
            intro i g2 hm hi hA2 hB2 H locs ls hP hD hS hl
            have ih41 := ih
            refine lv_iload_n hx hb dX4_keep_41 rfl (lv_at hl 3 rfl) ?_
            refine lv_iload_n hx hb dX4_keep_42 rfl (lv_at hl 2 rfl) ?_
            refine lv_icmp_ge (tgt := 78) hx hb dX4_keep_43 (by decide) (fun c43 => ?_) (fun c43 => ?_)
            · refine lv_aload_n hx hb dX4_keep_78 rfl (lv_at hl 0 rfl) ?_
              refine va_get (D := (dC, dI)) (ci := 4) (v := .ref m5) (C := RX4) (T := TX4) (N := 12) hx hb hts hinX4 hown hK hP 0 rfl rfl 5 (by decide) (hts (.fieldLink RX4 7 "NumberContentsModel" "sizes" "[I") (by decide +kernel)) (fun _ h9 => h9) rfl dX4_keep_79 ?_
              refine lv_aload_n hx hb dX4_keep_82 rfl (lv_at hl 0 rfl) ?_
              refine va_get (D := (dC, dI)) (ci := 4) (v := .int (nI n)) (C := RX4) (T := TX4) (N := 12) hx hb hts hinX4 hown hK hP 0 rfl rfl 1 (by decide) (hts (.fieldLink RX4 52 "NumberContentsModel" "many" "I") (by decide +kernel)) (fun _ h9 => h9) rfl dX4_keep_83 ?_
              refine lv_iload_n hx hb dX4_keep_86 rfl (lv_at hl 2 rfl) ?_
              refine va_iast hx hb hK hP hD hS 1 0 rfl rfl (vp_in_nI (by omega) (by omega)) dX4_keep_87 (fun H locs hP hD hS => ?_)
              have hP : va_P (dC, dI) vwCl [(mx, .inr (4, [.int 0, .int (nI n), .int (nI dn), .int (nI bn), .int (nI wn), .ref m5, .ref m6, .ref m7, .ref m8, .ref m9, .ref m10, .ref m11])), (m5, .inl (cI, 40, .inl (upd (fun j => nI (z j)) (nI n).toNatClampNeg (nI k)))), (m6, .inl (cI, 210, .inl (fun j => nI (rw j)))), (m9, .inl (cB, 8000, .inl (fun j => sb_b (g2 j))))] H := hP
              have hD : va_D A [(mx, .inr (4, [.int 0, .int (nI n), .int (nI dn), .int (nI bn), .int (nI wn), .ref m5, .ref m6, .ref m7, .ref m8, .ref m9, .ref m10, .ref m11])), (m5, .inl (cI, 40, .inl (upd (fun j => nI (z j)) (nI n).toNatClampNeg (nI k)))), (m6, .inl (cI, 210, .inl (fun j => nI (rw j)))), (m9, .inl (cB, 8000, .inl (fun j => sb_b (g2 j))))] := hD
              obtain ⟨f87, e87⟩ : ∃ zz9 : Nat → Int32, zz9 = upd (fun j => nI (z j)) (nI n).toNatClampNeg (nI k) := ⟨_, rfl⟩
              rw [← e87] at hP hD
              obtain rfl : f87 = fun j => nI (va_up z n k j) := e87.trans (upg (by omega))
              refine lv_aload_n hx hb dX4_keep_88 rfl (lv_at hl 0 rfl) ?_
              refine lv_dup hx hb dX4_keep_89 rfl ?_
              refine va_get (D := (dC, dI)) (ci := 4) (v := .int (nI n)) (C := RX4) (T := TX4) (N := 12) hx hb hts hinX4 hown hK hP 0 rfl rfl 1 (by decide) (hts (.fieldLink RX4 52 "NumberContentsModel" "many" "I") (by decide +kernel)) (fun _ h9 => h9) rfl dX4_keep_90 ?_
              refine lv_iconst (v := 1) hx hb dX4_keep_93 (by decide) ?_
              refine lv_iadd hx hb dX4_keep_94 ?_
              refine lv_topi (fun x94 e94 => ?_)
              obtain rfl : x94 = nI (n + 1) := e94.trans (nI_1 n)
              refine va_put (D := (dC, dI)) (ci := 4) (v := .int (nI (n + 1))) (ty := .int) (C := RX4) (T := TX4) (N := 12) hx hb hts hinX4 tyX4 tyX4_ok nmX4 hown hK hP hD hS 0 rfl rfl 1 (by decide) (hts (.fieldLink RX4 52 "NumberContentsModel" "many" "I") (by decide +kernel)) (fun _ h9 => h9) rfl (by decide +kernel) rfl rfl (Nat.le_of_ble_eq_true rfl) dX4_keep_95 (fun H locs hP hD hS => ?_)
              have hP : va_P (dC, dI) vwCl [(mx, .inr (4, [.int 0, .int (nI (n + 1)), .int (nI dn), .int (nI bn), .int (nI wn), .ref m5, .ref m6, .ref m7, .ref m8, .ref m9, .ref m10, .ref m11])), (m5, .inl (cI, 40, .inl (fun j => nI (va_up z n k j)))), (m6, .inl (cI, 210, .inl (fun j => nI (rw j)))), (m9, .inl (cB, 8000, .inl (fun j => sb_b (g2 j))))] H := hP
              have hD : va_D A [(mx, .inr (4, [.int 0, .int (nI (n + 1)), .int (nI dn), .int (nI bn), .int (nI wn), .ref m5, .ref m6, .ref m7, .ref m8, .ref m9, .ref m10, .ref m11])), (m5, .inl (cI, 40, .inl (fun j => nI (va_up z n k j)))), (m6, .inl (cI, 210, .inl (fun j => nI (rw j)))), (m9, .inl (cB, 8000, .inl (fun j => sb_b (g2 j))))] := hD
              refine lv_aload_n hx hb dX4_keep_98 rfl (lv_at hl 0 rfl) ?_
              refine va_get (D := (dC, dI)) (ci := 4) (v := .int (nI (n + 1))) (C := RX4) (T := TX4) (N := 12) hx hb hts hinX4 hown hK hP 0 rfl rfl 1 (by decide) (hts (.fieldLink RX4 52 "NumberContentsModel" "many" "I") (by decide +kernel)) (fun _ h9 => h9) rfl dX4_keep_99 ?_
              refine lv_iconst (v := 1) hx hb dX4_keep_102 (by decide) ?_
              refine lv_isub hx hb dX4_keep_103 ?_
              refine lv_topi (fun x103 e103 => ?_)
              obtain rfl : x103 = nI n := e103.trans (nI_pred n)
              have hP9 := hP.sub (ws' := [(mx, .inr (4, [.int 0, .int (nI (n + 1)), .int (nI dn), .int (nI bn), .int (nI wn), .ref m5, .ref m6, .ref m7, .ref m8, .ref m9, .ref m10, .ref m11])), (m5, .inl (cI, 40, .inl (fun j => nI (va_up z n k j)))), (m6, .inl (cI, 210, .inl (fun j => nI (rw j)))), (m9, .inl (cB, 8000, .inl (fun j => sb_b (g2 j))))]) [0, 1, 2, 3] rfl
              have hD9 := hD.sub (ws' := [(mx, .inr (4, [.int 0, .int (nI (n + 1)), .int (nI dn), .int (nI bn), .int (nI wn), .ref m5, .ref m6, .ref m7, .ref m8, .ref m9, .ref m10, .ref m11])), (m5, .inl (cI, 40, .inl (fun j => nI (va_up z n k j)))), (m6, .inl (cI, 210, .inl (fun j => nI (rw j)))), (m9, .inl (cB, 8000, .inl (fun j => sb_b (g2 j))))]) [0, 1, 2, 3] (by decide) rfl
              have hK9 := hK.sub (tys' := [(cI, .int), (cB, .byte)]) [0, 1] rfl
              exact W.iret (v := (nI n)) hx hb hr (fun tS htS hW => ⟨⟨(nI n), (0, (n + 1), g2, (va_up z n k)), rfl, (by have he : i = k := Nat.le_antisymm hi ((nI_leI (by omega) (by omega)).mp c43); subst he; exact Or.inl ⟨rfl, rfl, keptm_of hI hn40 hk1 hk200 hrw hk3 hA2 hB2⟩), by rw [htS]; exact hP9, va_K.moved hW.alike hK9, hD9⟩, hS.F htS⟩) hS.2.2 dX4_keep_104
            · have hlt : i < k := Nat.lt_of_not_le (fun h => c43 (nI_le h (by omega)))
              refine lv_aload_n hx hb dX4_keep_46 rfl (lv_at hl 0 rfl) ?_
              refine va_get (D := (dC, dI)) (ci := 4) (v := .ref m9) (C := RX4) (T := TX4) (N := 12) hx hb hts hinX4 hown hK hP 0 rfl rfl 9 (by decide) (hts (.fieldLink RX4 22 "NumberContentsModel" "kept" "[B") (by decide +kernel)) (fun _ h9 => h9) rfl dX4_keep_47 ?_
              refine lv_sipush (v := (nI 200)) hx hb dX4_keep_50 (by decide) ?_
              refine lv_aload_n hx hb dX4_keep_53 rfl (lv_at hl 0 rfl) ?_
              refine va_get (D := (dC, dI)) (ci := 4) (v := .int (nI n)) (C := RX4) (T := TX4) (N := 12) hx hb hts hinX4 hown hK hP 0 rfl rfl 1 (by decide) (hts (.fieldLink RX4 52 "NumberContentsModel" "many" "I") (by decide +kernel)) (fun _ h9 => h9) rfl dX4_keep_54 ?_
              refine lv_imul hx hb dX4_keep_57 ?_
              refine lv_topi (fun x57 e57 => ?_)
              obtain rfl : x57 = nI (200 * n) := e57.trans (pk_mul 200 n)
              refine lv_iload_n hx hb dX4_keep_58 rfl (lv_at hl 3 rfl) ?_
              refine lv_iadd hx hb dX4_keep_59 ?_
              refine lv_topi (fun x59 e59 => ?_)
              obtain rfl : x59 = nI (200 * n + i) := e59.trans (nI_add _ _)
              refine lv_aload_n hx hb dX4_keep_60 rfl (lv_at hl 0 rfl) ?_
              refine va_get (D := (dC, dI)) (ci := 4) (v := .ref m6) (C := RX4) (T := TX4) (N := 12) hx hb hts hinX4 hown hK hP 0 rfl rfl 6 (by decide) (hts (.fieldLink RX4 13 "NumberContentsModel" "row" "[I") (by decide +kernel)) (fun _ h9 => h9) rfl dX4_keep_61 ?_
              refine lv_iload_n hx hb dX4_keep_64 rfl (lv_at hl 2 rfl) ?_
              refine lv_iconst (v := 1) hx hb dX4_keep_65 (by decide) ?_
              refine lv_isub hx hb dX4_keep_66 ?_
              refine lv_topi (fun x66 e66 => ?_)
              obtain rfl : x66 = nI (k - 1) := e66.trans (nI_m1 hk1.1)
              refine lv_iload_n hx hb dX4_keep_67 rfl (lv_at hl 3 rfl) ?_
              refine lv_isub hx hb dX4_keep_68 ?_
              refine lv_topi (fun x68 e68 => ?_)
              obtain rfl : x68 = nI (k - 1 - i) := e68.trans (pk_sub (by omega))
              refine va_iald hx hb hK hP 2 0 rfl rfl (vp_in_nI (by omega) (by omega)) dX4_keep_69 ?_
              refine lv_topi (fun x69 e69 => ?_)
              obtain rfl : x69 = nI (rw (k - 1 - i)) := e69.trans (atg (by omega))
              refine lv_i2b hx hb dX4_keep_70 rfl ?_
              refine lv_topi (fun x70 e70 => ?_)
              obtain rfl : x70 = sb_b (rw (k - 1 - i)) := e70
              refine va_bast hx hb hK hP hD hS 3 1 rfl rfl (vp_in_nI (by omega) (by omega)) dX4_keep_71 (fun H locs hP hD hS => ?_)
              have hP : va_P (dC, dI) vwCl [(mx, .inr (4, [.int 0, .int (nI n), .int (nI dn), .int (nI bn), .int (nI wn), .ref m5, .ref m6, .ref m7, .ref m8, .ref m9, .ref m10, .ref m11])), (m5, .inl (cI, 40, .inl (fun j => nI (z j)))), (m6, .inl (cI, 210, .inl (fun j => nI (rw j)))), (m9, .inl (cB, 8000, .inl (upd (fun j => sb_b (g2 j)) (nI (200 * n + i)).toNatClampNeg (vp_nar .byte (sb_b (rw (k - 1 - i)))))))] H := hP
              have hD : va_D A [(mx, .inr (4, [.int 0, .int (nI n), .int (nI dn), .int (nI bn), .int (nI wn), .ref m5, .ref m6, .ref m7, .ref m8, .ref m9, .ref m10, .ref m11])), (m5, .inl (cI, 40, .inl (fun j => nI (z j)))), (m6, .inl (cI, 210, .inl (fun j => nI (rw j)))), (m9, .inl (cB, 8000, .inl (upd (fun j => sb_b (g2 j)) (nI (200 * n + i)).toNatClampNeg (vp_nar .byte (sb_b (rw (k - 1 - i)))))))] := hD
              obtain ⟨f71, e71⟩ : ∃ zz9 : Nat → Int32, zz9 = upd (fun j => sb_b (g2 j)) (nI (200 * n + i)).toNatClampNeg (vp_nar .byte (sb_b (rw (k - 1 - i)))) := ⟨_, rfl⟩
              rw [← e71] at hP hD
              obtain rfl : f71 = fun j => sb_b (va_up g2 (200 * n + i) (rw (k - 1 - i)) j) := e71.trans (upsb (by omega))
              obtain ⟨x72, e72⟩ : ∃ zz9 : Int32, zz9 = (nI i) + 1 := ⟨_, rfl⟩
              refine lv_iinc (v := x72) (lv' := [(3, .int x72), (0, .ref mx), (1, .int un), (2, .int (nI k))]) hx hb dX4_keep_72 hl (k := 3) rfl (by rw [e72]; rfl) (by decide) rfl (fun ls hl => ?_)
              obtain rfl : x72 = nI (i + 1) := e72.trans (nI_1 i)
              refine lv_goto (tgt := 41) hx hb dX4_keep_75 (by decide) ?_
              exact ih41 (i + 1) (va_up g2 (200 * n + i) (rw (k - 1 - i))) (by omega) (by omega) (fun j h => by by_cases e : j = i; rw [e, va_up_self]; rw [va_up_ne _ _ (by omega)]; exact hA2 j (by omega)) (fun y h => by rw [va_up_ne _ _ (by omega)]; exact hB2 y (by omega)) _ _ _ (hP.sub [0, 1, 2, 3] rfl) (hD.sub [0, 1, 2, 3] (by decide) rfl) hS (lv_sub hl [1, 2, 3, 0] rfl)
        exact LP41 _ 0 g (Nat.lt_succ_self _) (by omega) (fun j h => absurd h (by omega)) (fun y h => rfl) _ _ _ (hP.sub [0, 1, 2, 3] rfl) (hD.sub [0, 1, 2, 3] (by decide) rfl) hS (lv_sub hl [2, 3, 1, 0] rfl)
      · first | exact absurd c34 (by decide) | exact (c34 (by decide)).elim
    · refine lv_iload_n hx hb dX4_keep_22 rfl (lv_at hl 2 rfl) ?_
      refine lv_goto (tgt := 27) hx hb dX4_keep_23 (by decide) ?_
      refine va_put (D := (dC, dI)) (ci := 4) (v := .int un) (ty := .int) (C := RX4) (T := TX4) (N := 12) hx hb hts hinX4 tyX4 tyX4_ok nmX4 hown hK hP hD hS 0 rfl rfl 0 (by decide) (hts (.fieldLink RX4 32 "NumberContentsModel" "thrown" "I") (by decide +kernel)) (fun _ h9 => h9) rfl (by decide +kernel) rfl rfl (Nat.le_of_ble_eq_true rfl) dX4_keep_27 (fun H locs hP hD hS => ?_)
      have hP : va_P (dC, dI) vwCl [(mx, .inr (4, [.int un, .int (nI n), .int (nI dn), .int (nI bn), .int (nI wn), .ref m5, .ref m6, .ref m7, .ref m8, .ref m9, .ref m10, .ref m11])), (m5, .inl (cI, 40, .inl (fun j => nI (z j)))), (m6, .inl (cI, 210, .inl (fun j => nI (rw j)))), (m9, .inl (cB, 8000, .inl (fun j => sb_b (g j))))] H := hP
      have hD : va_D A [(mx, .inr (4, [.int un, .int (nI n), .int (nI dn), .int (nI bn), .int (nI wn), .ref m5, .ref m6, .ref m7, .ref m8, .ref m9, .ref m10, .ref m11])), (m5, .inl (cI, 40, .inl (fun j => nI (z j)))), (m6, .inl (cI, 210, .inl (fun j => nI (rw j)))), (m9, .inl (cB, 8000, .inl (fun j => sb_b (g j))))] := hD
      refine lv_aload_n hx hb dX4_keep_30 rfl (lv_at hl 1 rfl) ?_
      refine va_get (D := (dC, dI)) (ci := 4) (v := .int un) (C := RX4) (T := TX4) (N := 12) hx hb hts hinX4 hown hK hP 0 rfl rfl 0 (by decide) (hts (.fieldLink RX4 32 "NumberContentsModel" "thrown" "I") (by decide +kernel)) (fun _ h9 => h9) rfl dX4_keep_31 ?_
      refine lv_if_le (tgt := 39) hx hb dX4_keep_34 (by decide) (fun c34 => ?_) (fun c34 => ?_)
      · exact absurd c34 (by rcases hun with rfl | rfl <;> decide)
      · refine lv_iconst (v := 0) hx hb dX4_keep_37 (by decide) ?_
        have hP9 := hP.sub (ws' := [(mx, .inr (4, [.int un, .int (nI n), .int (nI dn), .int (nI bn), .int (nI wn), .ref m5, .ref m6, .ref m7, .ref m8, .ref m9, .ref m10, .ref m11])), (m5, .inl (cI, 40, .inl (fun j => nI (z j)))), (m6, .inl (cI, 210, .inl (fun j => nI (rw j)))), (m9, .inl (cB, 8000, .inl (fun j => sb_b (g j))))]) [0, 1, 2, 3] rfl
        have hD9 := hD.sub (ws' := [(mx, .inr (4, [.int un, .int (nI n), .int (nI dn), .int (nI bn), .int (nI wn), .ref m5, .ref m6, .ref m7, .ref m8, .ref m9, .ref m10, .ref m11])), (m5, .inl (cI, 40, .inl (fun j => nI (z j)))), (m6, .inl (cI, 210, .inl (fun j => nI (rw j)))), (m9, .inl (cB, 8000, .inl (fun j => sb_b (g j))))]) [0, 1, 2, 3] (by decide) rfl
        have hK9 := hK.sub (tys' := [(cI, .int), (cB, .byte)]) [0, 1] rfl
        exact W.iret (v := 0) hx hb hr (fun tS htS hW => ⟨⟨0, (un, n, g, z), rfl, (by first | exact absurd (by decide) c34 | exact Or.inr ⟨rfl, rfl, rfl, rfl, Or.inr ⟨k, hk1, Nat.lt_of_not_le (fun y => c19 (nI_le y (by omega)))⟩⟩ | exact Or.inr ⟨rfl, rfl, rfl, rfl, Or.inl ((nI_eq (by omega) (by omega)).mp c12)⟩), by rw [htS]; exact hP9, va_K.moved hW.alike hK9, hD9⟩, hS.F htS⟩) hS.2.2 dX4_keep_38

theorem tg_a {a b : Nat} {mi c x49 x50 : Int32} (ha : a < 256) (hb : b < 256) (hc : 0 ≤ c.toInt ∧ c.toInt ≤ 2) (hm : mi = 0) (e49 : x49 = nI a + nI b) (e50 : x50 = c + x49) : x50.toInt = c.toInt + (a + (if mi = 0 then b else 255 - b : Nat)) := by
  have q : x49.toInt = a + b := by rw [e49, nI_add, nI_toInt (by omega)]; omega
  rw [e50, i_add (by rw [q]; omega) (by rw [q]; omega), q, if_pos hm]
theorem tg_b {a b : Nat} {mi c x39 x49 x50 : Int32} (ha : a < 256) (hb : b < 256) (hc : 0 ≤ c.toInt ∧ c.toInt ≤ 2) (hm : ¬ mi = 0) (e39 : x39 = nI 255 - nI b) (e49 : x49 = nI a + x39) (e50 : x50 = c + x49) : x50.toInt = c.toInt + (a + (if mi = 0 then b else 255 - b : Nat)) := by
  have q : x49.toInt = a + ((255 - b : Nat) : Int) := by rw [e49, e39, pk_sub (by omega), nI_add, nI_toInt (by omega)]; omega
  rw [e50, i_add (by rw [q]; omega) (by rw [q]; omega), q, if_neg hm]

set_option maxHeartbeats 4000000 in
set_option maxRecDepth 100000 in
theorem c_X4_together (l : Launch) (dC : Nat → ClassId) (dI : Nat → Nat → Nat) (cI : ClassId) (mx m5 m6 m7 m8 m9 m10 m11 n dn bn wn : Nat) (th : Int32) (rw ot : Nat → Nat) (mi : Int32) (sz : Nat) (hrw : ∀ j, rw j < 256) (hot : ∀ j, ot j < 256) : Met l yX4_together wsX4_together ({ frames := 0, cells := 0, slots := 0, locals := 0 } : Room) (va_Pc [.ref mx, .int mi] (fun U => U.heap.size = sz ∧ va_P (dC, dI) vwCl [(mx, .inr (4, [.int th, .int (nI n), .int (nI dn), .int (nI bn), .int (nI wn), .ref m5, .ref m6, .ref m7, .ref m8, .ref m9, .ref m10, .ref m11])), (m6, .inl (cI, 210, .inl (fun j => nI (rw j)))), (m7, .inl (cI, 210, .inl (fun j => nI (ot j))))] U.heap ∧ va_K (dC, dI) vwCl [(cI, .int)] U ∧ va_D (fun _ => True) [(mx, .inr (4, [.int th, .int (nI n), .int (nI dn), .int (nI bn), .int (nI wn), .ref m5, .ref m6, .ref m7, .ref m8, .ref m9, .ref m10, .ref m11])), (m6, .inl (cI, 210, .inl (fun j => nI (rw j)))), (m7, .inl (cI, 210, .inl (fun j => nI (ot j))))])) (va_Qv (fun (w3 : Nat → Nat) => (∀ j, w3 j < 256) ∧ ∃ q : Int, sv w3 210 + q * ((256 ^ 210 : Nat) : Int) = sv rw 210 + (if mi = 0 then 1 else -1) * sv ot 210) (fun (w3 : Nat → Nat) (tS : State) => va_P (dC, dI) vwCl [(mx, .inr (4, [.int th, .int (nI n), .int (nI dn), .int (nI bn), .int (nI wn), .ref m5, .ref m6, .ref m7, .ref m8, .ref m9, .ref m10, .ref m11])), (m6, .inl (cI, 210, .inl (fun j => nI (w3 j)))), (m7, .inl (cI, 210, .inl (fun j => nI (ot j))))] tS.heap ∧ va_K (dC, dI) vwCl [(cI, .int)] tS ∧ va_D (va_A [(mx, .inr (4, [.int th, .int (nI n), .int (nI dn), .int (nI bn), .int (nI wn), .ref m5, .ref m6, .ref m7, .ref m8, .ref m9, .ref m10, .ref m11])), (m6, .inl (cI, 210, .inl (fun j => nI (rw j)))), (m7, .inl (cI, 210, .inl (fun j => nI (ot j))))] sz) [(mx, .inr (4, [.int th, .int (nI n), .int (nI dn), .int (nI bn), .int (nI wn), .ref m5, .ref m6, .ref m7, .ref m8, .ref m9, .ref m10, .ref m11])), (m6, .inl (cI, 210, .inl (fun j => nI (w3 j)))), (m7, .inl (cI, 210, .inl (fun j => nI (ot j))))]) (va_A [(mx, .inr (4, [.int th, .int (nI n), .int (nI dn), .int (nI bn), .int (nI wn), .ref m5, .ref m6, .ref m7, .ref m8, .ref m9, .ref m10, .ref m11])), (m6, .inl (cI, 210, .inl (fun j => nI (rw j)))), (m7, .inl (cI, 210, .inl (fun j => nI (ot j))))] sz)) 0 0 (va_A [(mx, .inr (4, [.int th, .int (nI n), .int (nI dn), .int (nI bn), .int (nI wn), .ref m5, .ref m6, .ref m7, .ref m8, .ref m9, .ref m10, .ref m11])), (m6, .inl (cI, 210, .inl (fun j => nI (rw j)))), (m7, .inl (cI, 210, .inl (fun j => nI (ot j))))] sz) := by
  refine Met.ofW (cc := cX4_together) (maxL := 4) (ret := none) (by decide) rfl ?_
  intro p e s m args below meth c s₁ B hml hv
  obtain ⟨rfl, hsz, hP, hK, hD0⟩ := hv
  have hx := B.exec
  have hb := B.bytes
  have hr := B.returns
  have hts := atoms_spec (ws := wsX4_together) B.pre
  have hown : s.vm.findClass RX4 = some m.cls := findClass_of_methodNamed B.named
  have hlocks := B.notSynchronized
  subst hsz
  have hD := hD0.self (sz := s.heap.size)
  generalize hAe : va_A [(mx, .inr (4, [.int th, .int (nI n), .int (nI dn), .int (nI bn), .int (nI wn), .ref m5, .ref m6, .ref m7, .ref m8, .ref m9, .ref m10, .ref m11])), (m6, .inl (cI, 210, .inl (fun j => nI (rw j)))), (m7, .inl (cI, 210, .inl (fun j => nI (ot j))))] s.heap.size = A at hD ⊢
  have hA : ∀ q : Nat, s.heap.size ≤ q → A q := fun q h => by rw [← hAe]; exact Or.inr h
  have hS : va_S A s.heap s.heap [] := va_S.rf
  have hinX4 : ∀ w ∈ wsX40, w ∈ wsX4_together := by decide +kernel
  have hl := lv_entry ([.ref mx, .int mi]) (n := 4) (Nat.le_of_ble_eq_true rfl)
  rw [lg_entry_eq]
  generalize (lg_sl ([.ref mx, .int mi]) ++ List.replicate (4 - (lg_sl ([.ref mx, .int mi])).length) Slot.unset).toArray = ls at hl ⊢
  have hl : lv_has ls 4 [(0, .ref mx), (1, .int mi)] := hl
  refine lv_iload_n hx hb dX4_together_0 rfl (lv_at hl 1 rfl) ?_
  refine lv_if_eq (tgt := 8) hx hb dX4_together_1 (by decide) (fun c1 => ?_) (fun c1 => ?_)
  · refine lv_iconst (v := 0) hx hb dX4_together_8 (by decide) ?_
    refine lv_istore_n (lv' := [(2, .int 0), (0, .ref mx), (1, .int mi)]) hx hb dX4_together_9 rfl hl (by decide) rfl (fun ls hl => ?_)
    refine lv_iconst (v := (nI 0)) hx hb dX4_together_10 (by decide) ?_
    refine lv_istore_n (lv' := [(3, .int (nI 0)), (2, .int 0), (0, .ref mx), (1, .int mi)]) hx hb dX4_together_11 rfl hl (by decide) rfl (fun ls hl => ?_)
    have LP12 : ∀ (n9 : Nat) (i : Nat) (w2 : Nat → Nat) (c9 : Int32) (hm : (210 - i) < n9) (hi : i ≤ 210) (hc : 0 ≤ c9.toInt ∧ c9.toInt ≤ 2) (hw2 : ∀ j, w2 j < 256) (hh : ∀ j, i ≤ j → w2 j = rw j) (hv : (bv w2 i : Int) + c9.toInt * ((256 ^ i : Nat) : Int) = bv rw i + bv (fun j => if mi = 0 then ot j else 255 - ot j) i + (if mi = 0 then 0 else 1)) (H : Heap) (locs : List Loc) (ls : Array Slot) (hP : va_P (dC, dI) vwCl [(mx, .inr (4, [.int th, .int (nI n), .int (nI dn), .int (nI bn), .int (nI wn), .ref m5, .ref m6, .ref m7, .ref m8, .ref m9, .ref m10, .ref m11])), (m6, .inl (cI, 210, .inl (fun j => nI (w2 j)))), (m7, .inl (cI, 210, .inl (fun j => nI (ot j))))] H) (hD : va_D A [(mx, .inr (4, [.int th, .int (nI n), .int (nI dn), .int (nI bn), .int (nI wn), .ref m5, .ref m6, .ref m7, .ref m8, .ref m9, .ref m10, .ref m11])), (m6, .inl (cI, 210, .inl (fun j => nI (w2 j)))), (m7, .inl (cI, 210, .inl (fun j => nI (ot j))))]) (hS : va_S A s.heap H locs) (hl : lv_has ls 4 [(0, .ref mx), (1, .int mi), (2, .int c9), (3, .int (nI i))]), W p l e (headSpec wsX4_together ({ frames := 0, cells := 0, slots := 0, locals := 0 } : Room)).room s m ([.ref mx, .int mi]).toArray below meth c H locs 0 0 (MQ below (va_Qv (fun (w3 : Nat → Nat) => (∀ j, w3 j < 256) ∧ ∃ q : Int, sv w3 210 + q * ((256 ^ 210 : Nat) : Int) = sv rw 210 + (if mi = 0 then 1 else -1) * sv ot 210) (fun (w3 : Nat → Nat) (tS : State) => va_P (dC, dI) vwCl [(mx, .inr (4, [.int th, .int (nI n), .int (nI dn), .int (nI bn), .int (nI wn), .ref m5, .ref m6, .ref m7, .ref m8, .ref m9, .ref m10, .ref m11])), (m6, .inl (cI, 210, .inl (fun j => nI (w3 j)))), (m7, .inl (cI, 210, .inl (fun j => nI (ot j))))] tS.heap ∧ va_K (dC, dI) vwCl [(cI, .int)] tS ∧ va_D A [(mx, .inr (4, [.int th, .int (nI n), .int (nI dn), .int (nI bn), .int (nI wn), .ref m5, .ref m6, .ref m7, .ref m8, .ref m9, .ref m10, .ref m11])), (m6, .inl (cI, 210, .inl (fun j => nI (w3 j)))), (m7, .inl (cI, 210, .inl (fun j => nI (ot j))))]) A) ([.ref mx, .int mi]).toArray s 0 0 A) (F0 m 12 ls []) := by
      intro n9
      induction n9 with
      | zero => intro i w2 c9 hm; exact absurd hm (Nat.not_lt_zero _)
      | succ n9 ih =>
        intro i w2 c9 hm hi hc hw2 hh hv H locs ls hP hD hS hl
        have ih12 := ih
        refine lv_iload_n hx hb dX4_together_12 rfl (lv_at hl 3 rfl) ?_
        refine lv_sipush (v := (nI 210)) hx hb dX4_together_13 (by decide) ?_
        refine lv_icmp_ge (tgt := 74) hx hb dX4_together_16 (by decide) (fun c16 => ?_) (fun c16 => ?_)
        · have hP9 := hP.sub (ws' := [(mx, .inr (4, [.int th, .int (nI n), .int (nI dn), .int (nI bn), .int (nI wn), .ref m5, .ref m6, .ref m7, .ref m8, .ref m9, .ref m10, .ref m11])), (m6, .inl (cI, 210, .inl (fun j => nI (w2 j)))), (m7, .inl (cI, 210, .inl (fun j => nI (ot j))))]) [0, 1, 2] rfl
          have hD9 := hD.sub (ws' := [(mx, .inr (4, [.int th, .int (nI n), .int (nI dn), .int (nI bn), .int (nI wn), .ref m5, .ref m6, .ref m7, .ref m8, .ref m9, .ref m10, .ref m11])), (m6, .inl (cI, 210, .inl (fun j => nI (w2 j)))), (m7, .inl (cI, 210, .inl (fun j => nI (ot j))))]) [0, 1, 2] (by decide) rfl
          have hK9 := hK.sub (tys' := [(cI, .int)]) [0] rfl
          exact W.vret hx hb hr (fun tS htS hW => ⟨⟨w2, rfl, (by have he : i = 210 := Nat.le_antisymm hi ((nI_leI (by omega) (by omega)).mp c16); subst he; exact ⟨hw2, tg_end hot hv⟩), by rw [htS]; exact hP9, va_K.moved hW.alike hK9, hD9⟩, hS.F htS⟩) hS.2.2 dX4_together_74
        · have hlt : i < 210 := Nat.lt_of_not_le (fun h => c16 (nI_le h (by omega)))
          refine lv_iload_n hx hb dX4_together_19 rfl (lv_at hl 2 rfl) ?_
          refine lv_aload_n hx hb dX4_together_20 rfl (lv_at hl 0 rfl) ?_
          refine va_get (D := (dC, dI)) (ci := 4) (v := .ref m6) (C := RX4) (T := TX4) (N := 12) hx hb hts hinX4 hown hK hP 0 rfl rfl 6 (by decide) (hts (.fieldLink RX4 13 "NumberContentsModel" "row" "[I") (by decide +kernel)) (fun _ h9 => h9) rfl dX4_together_21 ?_
          refine lv_iload_n hx hb dX4_together_24 rfl (lv_at hl 3 rfl) ?_
          refine va_iald hx hb hK hP 1 0 rfl rfl (vp_in_nI (by omega) (by omega)) dX4_together_25 ?_
          refine lv_topi (fun x25 e25 => ?_)
          obtain rfl : x25 = nI (w2 i) := e25.trans (atg (by omega))
          refine lv_iload_n hx hb dX4_together_26 rfl (lv_at hl 1 rfl) ?_
          refine lv_if_eq (tgt := 43) hx hb dX4_together_27 (by decide) (fun c27 => ?_) (fun c27 => ?_)
          · refine lv_aload_n hx hb dX4_together_43 rfl (lv_at hl 0 rfl) ?_
            refine va_get (D := (dC, dI)) (ci := 4) (v := .ref m7) (C := RX4) (T := TX4) (N := 12) hx hb hts hinX4 hown hK hP 0 rfl rfl 7 (by decide) (hts (.fieldLink RX4 16 "NumberContentsModel" "other" "[I") (by decide +kernel)) (fun _ h9 => h9) rfl dX4_together_44 ?_
            refine lv_iload_n hx hb dX4_together_47 rfl (lv_at hl 3 rfl) ?_
            refine va_iald hx hb hK hP 2 0 rfl rfl (vp_in_nI (by omega) (by omega)) dX4_together_48 ?_
            refine lv_topi (fun x48 e48 => ?_)
            obtain rfl : x48 = nI (ot i) := e48.trans (atg (by omega))
            refine lv_iadd hx hb dX4_together_49 ?_
            refine lv_topi (fun x49 e49 => ?_)
            refine lv_iadd hx hb dX4_together_50 ?_
            refine lv_topi (fun x50 e50 => ?_)
            refine lv_istore_n (lv' := [(2, .int x50), (0, .ref mx), (1, .int mi), (3, .int (nI i))]) hx hb dX4_together_51 rfl hl (by decide) rfl (fun ls hl => ?_)
            refine lv_aload_n hx hb dX4_together_52 rfl (lv_at hl 1 rfl) ?_
            refine va_get (D := (dC, dI)) (ci := 4) (v := .ref m6) (C := RX4) (T := TX4) (N := 12) hx hb hts hinX4 hown hK hP 0 rfl rfl 6 (by decide) (hts (.fieldLink RX4 13 "NumberContentsModel" "row" "[I") (by decide +kernel)) (fun _ h9 => h9) rfl dX4_together_53 ?_
            refine lv_iload_n hx hb dX4_together_56 rfl (lv_at hl 3 rfl) ?_
            refine lv_iload_n hx hb dX4_together_57 rfl (lv_at hl 0 rfl) ?_
            refine lv_sipush (v := 255) hx hb dX4_together_58 (by decide) ?_
            refine lv_iand hx hb dX4_together_61 ?_
            refine lv_topi (fun x61 e61 => ?_)
            obtain rfl : x61 = nI (x50.toBitVec.toNat % 2 ^ 8) := e61.trans (pk_and x50 8 (by decide))
            refine va_iast hx hb hK hP hD hS 1 0 rfl rfl (vp_in_nI (by omega) (by omega)) dX4_together_62 (fun H locs hP hD hS => ?_)
            have hP : va_P (dC, dI) vwCl [(mx, .inr (4, [.int th, .int (nI n), .int (nI dn), .int (nI bn), .int (nI wn), .ref m5, .ref m6, .ref m7, .ref m8, .ref m9, .ref m10, .ref m11])), (m6, .inl (cI, 210, .inl (upd (fun j => nI (w2 j)) (nI i).toNatClampNeg (nI (x50.toBitVec.toNat % 2 ^ 8))))), (m7, .inl (cI, 210, .inl (fun j => nI (ot j))))] H := hP
            have hD : va_D A [(mx, .inr (4, [.int th, .int (nI n), .int (nI dn), .int (nI bn), .int (nI wn), .ref m5, .ref m6, .ref m7, .ref m8, .ref m9, .ref m10, .ref m11])), (m6, .inl (cI, 210, .inl (upd (fun j => nI (w2 j)) (nI i).toNatClampNeg (nI (x50.toBitVec.toNat % 2 ^ 8))))), (m7, .inl (cI, 210, .inl (fun j => nI (ot j))))] := hD
            obtain ⟨f62, e62⟩ : ∃ zz9 : Nat → Int32, zz9 = upd (fun j => nI (w2 j)) (nI i).toNatClampNeg (nI (x50.toBitVec.toNat % 2 ^ 8)) := ⟨_, rfl⟩
            rw [← e62] at hP hD
            obtain rfl : f62 = fun j => nI (va_up w2 i (x50.toBitVec.toNat % 2 ^ 8) j) := e62.trans (upg (by omega))
            refine lv_iload_n hx hb dX4_together_63 rfl (lv_at hl 0 rfl) ?_
            refine lv_bipush (v := 8) hx hb dX4_together_64 (by decide) ?_
            refine lv_ishr hx hb dX4_together_66 ?_
            refine lv_topi (fun x66 e66 => ?_)
            refine lv_istore_n (lv' := [(2, .int x66), (0, .ref mx), (1, .int mi), (3, .int (nI i))]) hx hb dX4_together_67 rfl hl (by decide) rfl (fun ls hl => ?_)
            obtain ⟨x68, e68⟩ : ∃ zz9 : Int32, zz9 = (nI i) + 1 := ⟨_, rfl⟩
            refine lv_iinc (v := x68) (lv' := [(3, .int x68), (2, .int x66), (0, .ref mx), (1, .int mi)]) hx hb dX4_together_68 hl (k := 3) rfl (by rw [e68]; rfl) (by decide) rfl (fun ls hl => ?_)
            obtain rfl : x68 = nI (i + 1) := e68.trans (nI_1 i)
            refine lv_goto (tgt := 12) hx hb dX4_together_71 (by decide) ?_
            have hwi := hw2 i
            have hoi := hot i
            have hx9 : x50.toInt = c9.toInt + (w2 i + (if mi = 0 then ot i else 255 - ot i : Nat)) := (by first | exact tg_a hwi hoi hc c27 e49 e50 | exact tg_b hwi hoi hc c27 e39 e49 e50)
            have h8 := sh8 x50
            rw [← e66] at h8
            have hm8 := m8lt x50.toBitVec.toNat
            have hxo : (if mi = 0 then ot i else 255 - ot i : Nat) < 256 := by by_cases y : mi = 0; rw [if_pos y]; omega; rw [if_neg y]; omega
            exact ih12 (i + 1) (va_up w2 i (x50.toBitVec.toNat % 2 ^ 8)) x66 (by omega) (by omega) (by omega) (up_lt hw2 hm8) (fun j h => by rw [va_up_ne _ _ (by omega)]; exact hh j (by omega)) (tg_step hv (hh i (Nat.le_refl i)) hx9 h8) _ _ _ (hP.sub [0, 1, 2] rfl) (hD.sub [0, 1, 2] (by decide) rfl) hS (lv_sub hl [2, 3, 1, 0] rfl)
          · refine lv_sipush (v := (nI 255)) hx hb dX4_together_30 (by decide) ?_
            refine lv_aload_n hx hb dX4_together_33 rfl (lv_at hl 0 rfl) ?_
            refine va_get (D := (dC, dI)) (ci := 4) (v := .ref m7) (C := RX4) (T := TX4) (N := 12) hx hb hts hinX4 hown hK hP 0 rfl rfl 7 (by decide) (hts (.fieldLink RX4 16 "NumberContentsModel" "other" "[I") (by decide +kernel)) (fun _ h9 => h9) rfl dX4_together_34 ?_
            refine lv_iload_n hx hb dX4_together_37 rfl (lv_at hl 3 rfl) ?_
            refine va_iald hx hb hK hP 2 0 rfl rfl (vp_in_nI (by omega) (by omega)) dX4_together_38 ?_
            refine lv_topi (fun x38 e38 => ?_)
            obtain rfl : x38 = nI (ot i) := e38.trans (atg (by omega))
            refine lv_isub hx hb dX4_together_39 ?_
            refine lv_topi (fun x39 e39 => ?_)
            refine lv_goto (tgt := 49) hx hb dX4_together_40 (by decide) ?_
            refine lv_iadd hx hb dX4_together_49 ?_
            refine lv_topi (fun x49 e49 => ?_)
            refine lv_iadd hx hb dX4_together_50 ?_
            refine lv_topi (fun x50 e50 => ?_)
            refine lv_istore_n (lv' := [(2, .int x50), (0, .ref mx), (1, .int mi), (3, .int (nI i))]) hx hb dX4_together_51 rfl hl (by decide) rfl (fun ls hl => ?_)
            refine lv_aload_n hx hb dX4_together_52 rfl (lv_at hl 1 rfl) ?_
            refine va_get (D := (dC, dI)) (ci := 4) (v := .ref m6) (C := RX4) (T := TX4) (N := 12) hx hb hts hinX4 hown hK hP 0 rfl rfl 6 (by decide) (hts (.fieldLink RX4 13 "NumberContentsModel" "row" "[I") (by decide +kernel)) (fun _ h9 => h9) rfl dX4_together_53 ?_
            refine lv_iload_n hx hb dX4_together_56 rfl (lv_at hl 3 rfl) ?_
            refine lv_iload_n hx hb dX4_together_57 rfl (lv_at hl 0 rfl) ?_
            refine lv_sipush (v := 255) hx hb dX4_together_58 (by decide) ?_
            refine lv_iand hx hb dX4_together_61 ?_
            refine lv_topi (fun x61 e61 => ?_)
            obtain rfl : x61 = nI (x50.toBitVec.toNat % 2 ^ 8) := e61.trans (pk_and x50 8 (by decide))
            refine va_iast hx hb hK hP hD hS 1 0 rfl rfl (vp_in_nI (by omega) (by omega)) dX4_together_62 (fun H locs hP hD hS => ?_)
            have hP : va_P (dC, dI) vwCl [(mx, .inr (4, [.int th, .int (nI n), .int (nI dn), .int (nI bn), .int (nI wn), .ref m5, .ref m6, .ref m7, .ref m8, .ref m9, .ref m10, .ref m11])), (m6, .inl (cI, 210, .inl (upd (fun j => nI (w2 j)) (nI i).toNatClampNeg (nI (x50.toBitVec.toNat % 2 ^ 8))))), (m7, .inl (cI, 210, .inl (fun j => nI (ot j))))] H := hP
            have hD : va_D A [(mx, .inr (4, [.int th, .int (nI n), .int (nI dn), .int (nI bn), .int (nI wn), .ref m5, .ref m6, .ref m7, .ref m8, .ref m9, .ref m10, .ref m11])), (m6, .inl (cI, 210, .inl (upd (fun j => nI (w2 j)) (nI i).toNatClampNeg (nI (x50.toBitVec.toNat % 2 ^ 8))))), (m7, .inl (cI, 210, .inl (fun j => nI (ot j))))] := hD
            obtain ⟨f62, e62⟩ : ∃ zz9 : Nat → Int32, zz9 = upd (fun j => nI (w2 j)) (nI i).toNatClampNeg (nI (x50.toBitVec.toNat % 2 ^ 8)) := ⟨_, rfl⟩
            rw [← e62] at hP hD
            obtain rfl : f62 = fun j => nI (va_up w2 i (x50.toBitVec.toNat % 2 ^ 8) j) := e62.trans (upg (by omega))
            refine lv_iload_n hx hb dX4_together_63 rfl (lv_at hl 0 rfl) ?_
            refine lv_bipush (v := 8) hx hb dX4_together_64 (by decide) ?_
            refine lv_ishr hx hb dX4_together_66 ?_
            refine lv_topi (fun x66 e66 => ?_)
            refine lv_istore_n (lv' := [(2, .int x66), (0, .ref mx), (1, .int mi), (3, .int (nI i))]) hx hb dX4_together_67 rfl hl (by decide) rfl (fun ls hl => ?_)
            obtain ⟨x68, e68⟩ : ∃ zz9 : Int32, zz9 = (nI i) + 1 := ⟨_, rfl⟩
            refine lv_iinc (v := x68) (lv' := [(3, .int x68), (2, .int x66), (0, .ref mx), (1, .int mi)]) hx hb dX4_together_68 hl (k := 3) rfl (by rw [e68]; rfl) (by decide) rfl (fun ls hl => ?_)
            obtain rfl : x68 = nI (i + 1) := e68.trans (nI_1 i)
            refine lv_goto (tgt := 12) hx hb dX4_together_71 (by decide) ?_
            have hwi := hw2 i
            have hoi := hot i
            have hx9 : x50.toInt = c9.toInt + (w2 i + (if mi = 0 then ot i else 255 - ot i : Nat)) := (by first | exact tg_a hwi hoi hc c27 e49 e50 | exact tg_b hwi hoi hc c27 e39 e49 e50)
            have h8 := sh8 x50
            rw [← e66] at h8
            have hm8 := m8lt x50.toBitVec.toNat
            have hxo : (if mi = 0 then ot i else 255 - ot i : Nat) < 256 := by by_cases y : mi = 0; rw [if_pos y]; omega; rw [if_neg y]; omega
            exact ih12 (i + 1) (va_up w2 i (x50.toBitVec.toNat % 2 ^ 8)) x66 (by omega) (by omega) (by omega) (up_lt hw2 hm8) (fun j h => by rw [va_up_ne _ _ (by omega)]; exact hh j (by omega)) (tg_step hv (hh i (Nat.le_refl i)) hx9 h8) _ _ _ (hP.sub [0, 1, 2] rfl) (hD.sub [0, 1, 2] (by decide) rfl) hS (lv_sub hl [2, 3, 1, 0] rfl)
    exact LP12 _ 0 rw 0 (Nat.lt_succ_self _) (by omega) (by decide) hrw (fun j h => rfl) (by rw [if_pos c1]; rfl) _ _ _ (hP.sub [0, 1, 2] rfl) (hD.sub [0, 1, 2] (by decide) rfl) hS (lv_sub hl [2, 3, 1, 0] rfl)
  · refine lv_iconst (v := 1) hx hb dX4_together_4 (by decide) ?_
    refine lv_goto (tgt := 9) hx hb dX4_together_5 (by decide) ?_
    refine lv_istore_n (lv' := [(2, .int 1), (0, .ref mx), (1, .int mi)]) hx hb dX4_together_9 rfl hl (by decide) rfl (fun ls hl => ?_)
    refine lv_iconst (v := (nI 0)) hx hb dX4_together_10 (by decide) ?_
    refine lv_istore_n (lv' := [(3, .int (nI 0)), (2, .int 1), (0, .ref mx), (1, .int mi)]) hx hb dX4_together_11 rfl hl (by decide) rfl (fun ls hl => ?_)
    have LP12 : ∀ (n9 : Nat) (i : Nat) (w2 : Nat → Nat) (c9 : Int32) (hm : (210 - i) < n9) (hi : i ≤ 210) (hc : 0 ≤ c9.toInt ∧ c9.toInt ≤ 2) (hw2 : ∀ j, w2 j < 256) (hh : ∀ j, i ≤ j → w2 j = rw j) (hv : (bv w2 i : Int) + c9.toInt * ((256 ^ i : Nat) : Int) = bv rw i + bv (fun j => if mi = 0 then ot j else 255 - ot j) i + (if mi = 0 then 0 else 1)) (H : Heap) (locs : List Loc) (ls : Array Slot) (hP : va_P (dC, dI) vwCl [(mx, .inr (4, [.int th, .int (nI n), .int (nI dn), .int (nI bn), .int (nI wn), .ref m5, .ref m6, .ref m7, .ref m8, .ref m9, .ref m10, .ref m11])), (m6, .inl (cI, 210, .inl (fun j => nI (w2 j)))), (m7, .inl (cI, 210, .inl (fun j => nI (ot j))))] H) (hD : va_D A [(mx, .inr (4, [.int th, .int (nI n), .int (nI dn), .int (nI bn), .int (nI wn), .ref m5, .ref m6, .ref m7, .ref m8, .ref m9, .ref m10, .ref m11])), (m6, .inl (cI, 210, .inl (fun j => nI (w2 j)))), (m7, .inl (cI, 210, .inl (fun j => nI (ot j))))]) (hS : va_S A s.heap H locs) (hl : lv_has ls 4 [(0, .ref mx), (1, .int mi), (2, .int c9), (3, .int (nI i))]), W p l e (headSpec wsX4_together ({ frames := 0, cells := 0, slots := 0, locals := 0 } : Room)).room s m ([.ref mx, .int mi]).toArray below meth c H locs 0 0 (MQ below (va_Qv (fun (w3 : Nat → Nat) => (∀ j, w3 j < 256) ∧ ∃ q : Int, sv w3 210 + q * ((256 ^ 210 : Nat) : Int) = sv rw 210 + (if mi = 0 then 1 else -1) * sv ot 210) (fun (w3 : Nat → Nat) (tS : State) => va_P (dC, dI) vwCl [(mx, .inr (4, [.int th, .int (nI n), .int (nI dn), .int (nI bn), .int (nI wn), .ref m5, .ref m6, .ref m7, .ref m8, .ref m9, .ref m10, .ref m11])), (m6, .inl (cI, 210, .inl (fun j => nI (w3 j)))), (m7, .inl (cI, 210, .inl (fun j => nI (ot j))))] tS.heap ∧ va_K (dC, dI) vwCl [(cI, .int)] tS ∧ va_D A [(mx, .inr (4, [.int th, .int (nI n), .int (nI dn), .int (nI bn), .int (nI wn), .ref m5, .ref m6, .ref m7, .ref m8, .ref m9, .ref m10, .ref m11])), (m6, .inl (cI, 210, .inl (fun j => nI (w3 j)))), (m7, .inl (cI, 210, .inl (fun j => nI (ot j))))]) A) ([.ref mx, .int mi]).toArray s 0 0 A) (F0 m 12 ls []) := by
      intro n9
      induction n9 with
      | zero => intro i w2 c9 hm; exact absurd hm (Nat.not_lt_zero _)
      | succ n9 ih =>
        intro i w2 c9 hm hi hc hw2 hh hv H locs ls hP hD hS hl
        have ih12 := ih
        refine lv_iload_n hx hb dX4_together_12 rfl (lv_at hl 3 rfl) ?_
        refine lv_sipush (v := (nI 210)) hx hb dX4_together_13 (by decide) ?_
        refine lv_icmp_ge (tgt := 74) hx hb dX4_together_16 (by decide) (fun c16 => ?_) (fun c16 => ?_)
        · have hP9 := hP.sub (ws' := [(mx, .inr (4, [.int th, .int (nI n), .int (nI dn), .int (nI bn), .int (nI wn), .ref m5, .ref m6, .ref m7, .ref m8, .ref m9, .ref m10, .ref m11])), (m6, .inl (cI, 210, .inl (fun j => nI (w2 j)))), (m7, .inl (cI, 210, .inl (fun j => nI (ot j))))]) [0, 1, 2] rfl
          have hD9 := hD.sub (ws' := [(mx, .inr (4, [.int th, .int (nI n), .int (nI dn), .int (nI bn), .int (nI wn), .ref m5, .ref m6, .ref m7, .ref m8, .ref m9, .ref m10, .ref m11])), (m6, .inl (cI, 210, .inl (fun j => nI (w2 j)))), (m7, .inl (cI, 210, .inl (fun j => nI (ot j))))]) [0, 1, 2] (by decide) rfl
          have hK9 := hK.sub (tys' := [(cI, .int)]) [0] rfl
          exact W.vret hx hb hr (fun tS htS hW => ⟨⟨w2, rfl, (by have he : i = 210 := Nat.le_antisymm hi ((nI_leI (by omega) (by omega)).mp c16); subst he; exact ⟨hw2, tg_end hot hv⟩), by rw [htS]; exact hP9, va_K.moved hW.alike hK9, hD9⟩, hS.F htS⟩) hS.2.2 dX4_together_74
        · have hlt : i < 210 := Nat.lt_of_not_le (fun h => c16 (nI_le h (by omega)))
          refine lv_iload_n hx hb dX4_together_19 rfl (lv_at hl 2 rfl) ?_
          refine lv_aload_n hx hb dX4_together_20 rfl (lv_at hl 0 rfl) ?_
          refine va_get (D := (dC, dI)) (ci := 4) (v := .ref m6) (C := RX4) (T := TX4) (N := 12) hx hb hts hinX4 hown hK hP 0 rfl rfl 6 (by decide) (hts (.fieldLink RX4 13 "NumberContentsModel" "row" "[I") (by decide +kernel)) (fun _ h9 => h9) rfl dX4_together_21 ?_
          refine lv_iload_n hx hb dX4_together_24 rfl (lv_at hl 3 rfl) ?_
          refine va_iald hx hb hK hP 1 0 rfl rfl (vp_in_nI (by omega) (by omega)) dX4_together_25 ?_
          refine lv_topi (fun x25 e25 => ?_)
          obtain rfl : x25 = nI (w2 i) := e25.trans (atg (by omega))
          refine lv_iload_n hx hb dX4_together_26 rfl (lv_at hl 1 rfl) ?_
          refine lv_if_eq (tgt := 43) hx hb dX4_together_27 (by decide) (fun c27 => ?_) (fun c27 => ?_)
          · refine lv_aload_n hx hb dX4_together_43 rfl (lv_at hl 0 rfl) ?_
            refine va_get (D := (dC, dI)) (ci := 4) (v := .ref m7) (C := RX4) (T := TX4) (N := 12) hx hb hts hinX4 hown hK hP 0 rfl rfl 7 (by decide) (hts (.fieldLink RX4 16 "NumberContentsModel" "other" "[I") (by decide +kernel)) (fun _ h9 => h9) rfl dX4_together_44 ?_
            refine lv_iload_n hx hb dX4_together_47 rfl (lv_at hl 3 rfl) ?_
            refine va_iald hx hb hK hP 2 0 rfl rfl (vp_in_nI (by omega) (by omega)) dX4_together_48 ?_
            refine lv_topi (fun x48 e48 => ?_)
            obtain rfl : x48 = nI (ot i) := e48.trans (atg (by omega))
            refine lv_iadd hx hb dX4_together_49 ?_
            refine lv_topi (fun x49 e49 => ?_)
            refine lv_iadd hx hb dX4_together_50 ?_
            refine lv_topi (fun x50 e50 => ?_)
            refine lv_istore_n (lv' := [(2, .int x50), (0, .ref mx), (1, .int mi), (3, .int (nI i))]) hx hb dX4_together_51 rfl hl (by decide) rfl (fun ls hl => ?_)
            refine lv_aload_n hx hb dX4_together_52 rfl (lv_at hl 1 rfl) ?_
            refine va_get (D := (dC, dI)) (ci := 4) (v := .ref m6) (C := RX4) (T := TX4) (N := 12) hx hb hts hinX4 hown hK hP 0 rfl rfl 6 (by decide) (hts (.fieldLink RX4 13 "NumberContentsModel" "row" "[I") (by decide +kernel)) (fun _ h9 => h9) rfl dX4_together_53 ?_
            refine lv_iload_n hx hb dX4_together_56 rfl (lv_at hl 3 rfl) ?_
            refine lv_iload_n hx hb dX4_together_57 rfl (lv_at hl 0 rfl) ?_
            refine lv_sipush (v := 255) hx hb dX4_together_58 (by decide) ?_
            refine lv_iand hx hb dX4_together_61 ?_
            refine lv_topi (fun x61 e61 => ?_)
            obtain rfl : x61 = nI (x50.toBitVec.toNat % 2 ^ 8) := e61.trans (pk_and x50 8 (by decide))
            refine va_iast hx hb hK hP hD hS 1 0 rfl rfl (vp_in_nI (by omega) (by omega)) dX4_together_62 (fun H locs hP hD hS => ?_)
            have hP : va_P (dC, dI) vwCl [(mx, .inr (4, [.int th, .int (nI n), .int (nI dn), .int (nI bn), .int (nI wn), .ref m5, .ref m6, .ref m7, .ref m8, .ref m9, .ref m10, .ref m11])), (m6, .inl (cI, 210, .inl (upd (fun j => nI (w2 j)) (nI i).toNatClampNeg (nI (x50.toBitVec.toNat % 2 ^ 8))))), (m7, .inl (cI, 210, .inl (fun j => nI (ot j))))] H := hP
            have hD : va_D A [(mx, .inr (4, [.int th, .int (nI n), .int (nI dn), .int (nI bn), .int (nI wn), .ref m5, .ref m6, .ref m7, .ref m8, .ref m9, .ref m10, .ref m11])), (m6, .inl (cI, 210, .inl (upd (fun j => nI (w2 j)) (nI i).toNatClampNeg (nI (x50.toBitVec.toNat % 2 ^ 8))))), (m7, .inl (cI, 210, .inl (fun j => nI (ot j))))] := hD
            obtain ⟨f62, e62⟩ : ∃ zz9 : Nat → Int32, zz9 = upd (fun j => nI (w2 j)) (nI i).toNatClampNeg (nI (x50.toBitVec.toNat % 2 ^ 8)) := ⟨_, rfl⟩
            rw [← e62] at hP hD
            obtain rfl : f62 = fun j => nI (va_up w2 i (x50.toBitVec.toNat % 2 ^ 8) j) := e62.trans (upg (by omega))
            refine lv_iload_n hx hb dX4_together_63 rfl (lv_at hl 0 rfl) ?_
            refine lv_bipush (v := 8) hx hb dX4_together_64 (by decide) ?_
            refine lv_ishr hx hb dX4_together_66 ?_
            refine lv_topi (fun x66 e66 => ?_)
            refine lv_istore_n (lv' := [(2, .int x66), (0, .ref mx), (1, .int mi), (3, .int (nI i))]) hx hb dX4_together_67 rfl hl (by decide) rfl (fun ls hl => ?_)
            obtain ⟨x68, e68⟩ : ∃ zz9 : Int32, zz9 = (nI i) + 1 := ⟨_, rfl⟩
            refine lv_iinc (v := x68) (lv' := [(3, .int x68), (2, .int x66), (0, .ref mx), (1, .int mi)]) hx hb dX4_together_68 hl (k := 3) rfl (by rw [e68]; rfl) (by decide) rfl (fun ls hl => ?_)
            obtain rfl : x68 = nI (i + 1) := e68.trans (nI_1 i)
            refine lv_goto (tgt := 12) hx hb dX4_together_71 (by decide) ?_
            have hwi := hw2 i
            have hoi := hot i
            have hx9 : x50.toInt = c9.toInt + (w2 i + (if mi = 0 then ot i else 255 - ot i : Nat)) := (by first | exact tg_a hwi hoi hc c27 e49 e50 | exact tg_b hwi hoi hc c27 e39 e49 e50)
            have h8 := sh8 x50
            rw [← e66] at h8
            have hm8 := m8lt x50.toBitVec.toNat
            have hxo : (if mi = 0 then ot i else 255 - ot i : Nat) < 256 := by by_cases y : mi = 0; rw [if_pos y]; omega; rw [if_neg y]; omega
            exact ih12 (i + 1) (va_up w2 i (x50.toBitVec.toNat % 2 ^ 8)) x66 (by omega) (by omega) (by omega) (up_lt hw2 hm8) (fun j h => by rw [va_up_ne _ _ (by omega)]; exact hh j (by omega)) (tg_step hv (hh i (Nat.le_refl i)) hx9 h8) _ _ _ (hP.sub [0, 1, 2] rfl) (hD.sub [0, 1, 2] (by decide) rfl) hS (lv_sub hl [2, 3, 1, 0] rfl)
          · refine lv_sipush (v := (nI 255)) hx hb dX4_together_30 (by decide) ?_
            refine lv_aload_n hx hb dX4_together_33 rfl (lv_at hl 0 rfl) ?_
            refine va_get (D := (dC, dI)) (ci := 4) (v := .ref m7) (C := RX4) (T := TX4) (N := 12) hx hb hts hinX4 hown hK hP 0 rfl rfl 7 (by decide) (hts (.fieldLink RX4 16 "NumberContentsModel" "other" "[I") (by decide +kernel)) (fun _ h9 => h9) rfl dX4_together_34 ?_
            refine lv_iload_n hx hb dX4_together_37 rfl (lv_at hl 3 rfl) ?_
            refine va_iald hx hb hK hP 2 0 rfl rfl (vp_in_nI (by omega) (by omega)) dX4_together_38 ?_
            refine lv_topi (fun x38 e38 => ?_)
            obtain rfl : x38 = nI (ot i) := e38.trans (atg (by omega))
            refine lv_isub hx hb dX4_together_39 ?_
            refine lv_topi (fun x39 e39 => ?_)
            refine lv_goto (tgt := 49) hx hb dX4_together_40 (by decide) ?_
            refine lv_iadd hx hb dX4_together_49 ?_
            refine lv_topi (fun x49 e49 => ?_)
            refine lv_iadd hx hb dX4_together_50 ?_
            refine lv_topi (fun x50 e50 => ?_)
            refine lv_istore_n (lv' := [(2, .int x50), (0, .ref mx), (1, .int mi), (3, .int (nI i))]) hx hb dX4_together_51 rfl hl (by decide) rfl (fun ls hl => ?_)
            refine lv_aload_n hx hb dX4_together_52 rfl (lv_at hl 1 rfl) ?_
            refine va_get (D := (dC, dI)) (ci := 4) (v := .ref m6) (C := RX4) (T := TX4) (N := 12) hx hb hts hinX4 hown hK hP 0 rfl rfl 6 (by decide) (hts (.fieldLink RX4 13 "NumberContentsModel" "row" "[I") (by decide +kernel)) (fun _ h9 => h9) rfl dX4_together_53 ?_
            refine lv_iload_n hx hb dX4_together_56 rfl (lv_at hl 3 rfl) ?_
            refine lv_iload_n hx hb dX4_together_57 rfl (lv_at hl 0 rfl) ?_
            refine lv_sipush (v := 255) hx hb dX4_together_58 (by decide) ?_
            refine lv_iand hx hb dX4_together_61 ?_
            refine lv_topi (fun x61 e61 => ?_)
            obtain rfl : x61 = nI (x50.toBitVec.toNat % 2 ^ 8) := e61.trans (pk_and x50 8 (by decide))
            refine va_iast hx hb hK hP hD hS 1 0 rfl rfl (vp_in_nI (by omega) (by omega)) dX4_together_62 (fun H locs hP hD hS => ?_)
            have hP : va_P (dC, dI) vwCl [(mx, .inr (4, [.int th, .int (nI n), .int (nI dn), .int (nI bn), .int (nI wn), .ref m5, .ref m6, .ref m7, .ref m8, .ref m9, .ref m10, .ref m11])), (m6, .inl (cI, 210, .inl (upd (fun j => nI (w2 j)) (nI i).toNatClampNeg (nI (x50.toBitVec.toNat % 2 ^ 8))))), (m7, .inl (cI, 210, .inl (fun j => nI (ot j))))] H := hP
            have hD : va_D A [(mx, .inr (4, [.int th, .int (nI n), .int (nI dn), .int (nI bn), .int (nI wn), .ref m5, .ref m6, .ref m7, .ref m8, .ref m9, .ref m10, .ref m11])), (m6, .inl (cI, 210, .inl (upd (fun j => nI (w2 j)) (nI i).toNatClampNeg (nI (x50.toBitVec.toNat % 2 ^ 8))))), (m7, .inl (cI, 210, .inl (fun j => nI (ot j))))] := hD
            obtain ⟨f62, e62⟩ : ∃ zz9 : Nat → Int32, zz9 = upd (fun j => nI (w2 j)) (nI i).toNatClampNeg (nI (x50.toBitVec.toNat % 2 ^ 8)) := ⟨_, rfl⟩
            rw [← e62] at hP hD
            obtain rfl : f62 = fun j => nI (va_up w2 i (x50.toBitVec.toNat % 2 ^ 8) j) := e62.trans (upg (by omega))
            refine lv_iload_n hx hb dX4_together_63 rfl (lv_at hl 0 rfl) ?_
            refine lv_bipush (v := 8) hx hb dX4_together_64 (by decide) ?_
            refine lv_ishr hx hb dX4_together_66 ?_
            refine lv_topi (fun x66 e66 => ?_)
            refine lv_istore_n (lv' := [(2, .int x66), (0, .ref mx), (1, .int mi), (3, .int (nI i))]) hx hb dX4_together_67 rfl hl (by decide) rfl (fun ls hl => ?_)
            obtain ⟨x68, e68⟩ : ∃ zz9 : Int32, zz9 = (nI i) + 1 := ⟨_, rfl⟩
            refine lv_iinc (v := x68) (lv' := [(3, .int x68), (2, .int x66), (0, .ref mx), (1, .int mi)]) hx hb dX4_together_68 hl (k := 3) rfl (by rw [e68]; rfl) (by decide) rfl (fun ls hl => ?_)
            obtain rfl : x68 = nI (i + 1) := e68.trans (nI_1 i)
            refine lv_goto (tgt := 12) hx hb dX4_together_71 (by decide) ?_
            have hwi := hw2 i
            have hoi := hot i
            have hx9 : x50.toInt = c9.toInt + (w2 i + (if mi = 0 then ot i else 255 - ot i : Nat)) := (by first | exact tg_a hwi hoi hc c27 e49 e50 | exact tg_b hwi hoi hc c27 e39 e49 e50)
            have h8 := sh8 x50
            rw [← e66] at h8
            have hm8 := m8lt x50.toBitVec.toNat
            have hxo : (if mi = 0 then ot i else 255 - ot i : Nat) < 256 := by by_cases y : mi = 0; rw [if_pos y]; omega; rw [if_neg y]; omega
            exact ih12 (i + 1) (va_up w2 i (x50.toBitVec.toNat % 2 ^ 8)) x66 (by omega) (by omega) (by omega) (up_lt hw2 hm8) (fun j h => by rw [va_up_ne _ _ (by omega)]; exact hh j (by omega)) (tg_step hv (hh i (Nat.le_refl i)) hx9 h8) _ _ _ (hP.sub [0, 1, 2] rfl) (hD.sub [0, 1, 2] (by decide) rfl) hS (lv_sub hl [2, 3, 1, 0] rfl)
    exact LP12 _ 0 rw 1 (Nat.lt_succ_self _) (by omega) (by decide) hrw (fun j h => rfl) (by rw [if_neg c1]; rfl) _ _ _ (hP.sub [0, 1, 2] rfl) (hD.sub [0, 1, 2] (by decide) rfl) hS (lv_sub hl [2, 3, 1, 0] rfl)

theorem nn_a {no : Int32} {i : Nat} {rw : Nat → Nat} {Q : Prop} (h : (no = 1 ∧ ∀ j, j < i → rw j = 0) ∨ (no = 0 ∧ Q)) (c : ¬ no = 0) (e : rw i = 0) : ((1 : Int32) = 1 ∧ ∀ j, j < i + 1 → rw j = 0) ∨ ((1 : Int32) = 0 ∧ Q) := by
  rcases h with ⟨_, h⟩ | ⟨h, _⟩
  · exact Or.inl ⟨rfl, fun j hj => by by_cases y : j = i; rw [y, e]; exact h j (by omega)⟩
  · exact absurd h c
theorem nn_b {no : Int32} {i : Nat} {rw : Nat → Nat} {Q : Prop} (h : (no = 1 ∧ ∀ j, j < i → rw j = 0) ∨ (no = 0 ∧ Q)) (c : no = 0) : ((0 : Int32) = 1 ∧ ∀ j, j < i + 1 → rw j = 0) ∨ ((0 : Int32) = 0 ∧ Q) := by
  rcases h with ⟨h, _⟩ | ⟨_, h⟩
  · rw [h] at c; exact absurd c (by decide)
  · exact Or.inr ⟨rfl, h⟩

set_option maxHeartbeats 4000000 in
set_option maxRecDepth 100000 in
theorem c_X4_isNone (l : Launch) (dC : Nat → ClassId) (dI : Nat → Nat → Nat) (cI : ClassId) (mx m5 m6 m7 m8 m9 m10 m11 n dn bn wn : Nat) (th : Int32) (rw : Nat → Nat) (hrw : ∀ j, rw j < 256) : Met l yX4_isNone wsX4_isNone ({ frames := 0, cells := 0, slots := 0, locals := 0 } : Room) (va_Pc [.ref mx] (fun U => va_P (dC, dI) vwCl [(mx, .inr (4, [.int th, .int (nI n), .int (nI dn), .int (nI bn), .int (nI wn), .ref m5, .ref m6, .ref m7, .ref m8, .ref m9, .ref m10, .ref m11])), (m6, .inl (cI, 210, .inl (fun j => nI (rw j))))] U.heap ∧ va_K (dC, dI) vwCl [(cI, .int)] U)) (vp_Si (fun r : Int32 => (r = 1 ∧ ∀ j, j < 210 → rw j = 0) ∨ (r = 0 ∧ ¬ ∀ j, j < 210 → rw j = 0))) 0 0 (fun _ => False) := by
  refine Met.ofW (cc := cX4_isNone) (maxL := 3) (ret := (some .boolean)) (by decide) rfl ?_
  intro p e s m args below meth c s₁ B hml hv
  obtain ⟨rfl, hP, hK⟩ := hv
  have hx := B.exec
  have hb := B.bytes
  have hr := B.returns
  have hts := atoms_spec (ws := wsX4_isNone) B.pre
  have hown : s.vm.findClass RX4 = some m.cls := findClass_of_methodNamed B.named
  have hlocks := B.notSynchronized
  have hinX4 : ∀ w ∈ wsX40, w ∈ wsX4_isNone := by decide +kernel
  have hl := lv_entry ([.ref mx]) (n := 3) (Nat.le_of_ble_eq_true rfl)
  rw [lg_entry_eq]
  generalize (lg_sl ([.ref mx]) ++ List.replicate (3 - (lg_sl ([.ref mx])).length) Slot.unset).toArray = ls at hl ⊢
  have hl : lv_has ls 3 [(0, .ref mx)] := hl
  refine lv_iconst (v := 1) hx hb dX4_isNone_0 (by decide) ?_
  refine lv_istore_n (lv' := [(1, .int 1), (0, .ref mx)]) hx hb dX4_isNone_1 rfl hl (by decide) rfl (fun ls hl => ?_)
  refine lv_iconst (v := (nI 0)) hx hb dX4_isNone_2 (by decide) ?_
  refine lv_istore_n (lv' := [(2, .int (nI 0)), (1, .int 1), (0, .ref mx)]) hx hb dX4_isNone_3 rfl hl (by decide) rfl (fun ls hl => ?_)
  have LP4 : ∀ (n9 : Nat) (i : Nat) (no : Int32) (hm : (210 - i) < n9) (hi : i ≤ 210) (hno : (no = 1 ∧ ∀ j, j < i → rw j = 0) ∨ (no = 0 ∧ ¬ ∀ j, j < 210 → rw j = 0)) (ls : Array Slot) (hl : lv_has ls 3 [(0, .ref mx), (1, .int no), (2, .int (nI i))]), W p l e (headSpec wsX4_isNone ({ frames := 0, cells := 0, slots := 0, locals := 0 } : Room)).room s m ([.ref mx]).toArray below meth c s.heap [] 0 0 (MQ below (vp_Si (fun r : Int32 => (r = 1 ∧ ∀ j, j < 210 → rw j = 0) ∨ (r = 0 ∧ ¬ ∀ j, j < 210 → rw j = 0))) ([.ref mx]).toArray s 0 0 (fun _ => False)) (F0 m 4 ls []) := by
    intro n9
    induction n9 with
    | zero => intro i no hm; exact absurd hm (Nat.not_lt_zero _)
    | succ n9 ih =>
      intro i no hm hi hno ls hl
      have ih4 := ih
      refine lv_iload_n hx hb dX4_isNone_4 rfl (lv_at hl 2 rfl) ?_
      refine lv_sipush (v := (nI 210)) hx hb dX4_isNone_5 (by decide) ?_
      refine lv_icmp_ge (tgt := 36) hx hb dX4_isNone_8 (by decide) (fun c8 => ?_) (fun c8 => ?_)
      · refine lv_iload_n hx hb dX4_isNone_36 rfl (lv_at hl 1 rfl) ?_
        exact W.zret (v := no) hx hb hr (by rcases hno with ⟨rfl, _⟩ | ⟨rfl, _⟩ <;> rfl) (fun tS htS hW => ⟨no, rfl, (by have he : i = 210 := Nat.le_antisymm hi ((nI_leI (by omega) (by omega)).mp c8); subst he; exact hno), htS⟩) t_nil dX4_isNone_37
      · have hlt : i < 210 := Nat.lt_of_not_le (fun h => c8 (nI_le h (by omega)))
        refine lv_iload_n hx hb dX4_isNone_11 rfl (lv_at hl 1 rfl) ?_
        refine lv_if_eq (tgt := 28) hx hb dX4_isNone_12 (by decide) (fun c12 => ?_) (fun c12 => ?_)
        · refine lv_iconst (v := 0) hx hb dX4_isNone_28 (by decide) ?_
          refine lv_istore_n (lv' := [(1, .int 0), (0, .ref mx), (2, .int (nI i))]) hx hb dX4_isNone_29 rfl hl (by decide) rfl (fun ls hl => ?_)
          obtain ⟨x30, e30⟩ : ∃ zz9 : Int32, zz9 = (nI i) + 1 := ⟨_, rfl⟩
          refine lv_iinc (v := x30) (lv' := [(2, .int x30), (1, .int 0), (0, .ref mx)]) hx hb dX4_isNone_30 hl (k := 2) rfl (by rw [e30]; rfl) (by decide) rfl (fun ls hl => ?_)
          obtain rfl : x30 = nI (i + 1) := e30.trans (nI_1 i)
          refine lv_goto (tgt := 4) hx hb dX4_isNone_33 (by decide) ?_
          exact ih4 (i + 1) 0 (by omega) (by omega) (by first | exact nn_b hno c12 | exact Or.inr ⟨rfl, fun y => c21 (by rw [y i hlt]; rfl)⟩) _ (lv_sub hl [2, 1, 0] rfl)
        · refine lv_aload_n hx hb dX4_isNone_15 rfl (lv_at hl 0 rfl) ?_
          refine va_get (D := (dC, dI)) (ci := 4) (v := .ref m6) (C := RX4) (T := TX4) (N := 12) hx hb hts hinX4 hown hK hP 0 rfl rfl 6 (by decide) (hts (.fieldLink RX4 13 "NumberContentsModel" "row" "[I") (by decide +kernel)) (fun _ h9 => h9) rfl dX4_isNone_16 ?_
          refine lv_iload_n hx hb dX4_isNone_19 rfl (lv_at hl 2 rfl) ?_
          refine va_iald hx hb hK hP 1 0 rfl rfl (vp_in_nI (by omega) (by omega)) dX4_isNone_20 ?_
          refine lv_topi (fun x20 e20 => ?_)
          obtain rfl : x20 = nI (rw i) := e20.trans (atg (by omega))
          refine lv_if_ne (tgt := 28) hx hb dX4_isNone_21 (by decide) (fun c21 => ?_) (fun c21 => ?_)
          · refine lv_iconst (v := 0) hx hb dX4_isNone_28 (by decide) ?_
            refine lv_istore_n (lv' := [(1, .int 0), (0, .ref mx), (2, .int (nI i))]) hx hb dX4_isNone_29 rfl hl (by decide) rfl (fun ls hl => ?_)
            obtain ⟨x30, e30⟩ : ∃ zz9 : Int32, zz9 = (nI i) + 1 := ⟨_, rfl⟩
            refine lv_iinc (v := x30) (lv' := [(2, .int x30), (1, .int 0), (0, .ref mx)]) hx hb dX4_isNone_30 hl (k := 2) rfl (by rw [e30]; rfl) (by decide) rfl (fun ls hl => ?_)
            obtain rfl : x30 = nI (i + 1) := e30.trans (nI_1 i)
            refine lv_goto (tgt := 4) hx hb dX4_isNone_33 (by decide) ?_
            exact ih4 (i + 1) 0 (by omega) (by omega) (by first | exact nn_b hno c12 | exact Or.inr ⟨rfl, fun y => c21 (by rw [y i hlt]; rfl)⟩) _ (lv_sub hl [2, 1, 0] rfl)
          · refine lv_iconst (v := 1) hx hb dX4_isNone_24 (by decide) ?_
            refine lv_goto (tgt := 29) hx hb dX4_isNone_25 (by decide) ?_
            refine lv_istore_n (lv' := [(1, .int 1), (0, .ref mx), (2, .int (nI i))]) hx hb dX4_isNone_29 rfl hl (by decide) rfl (fun ls hl => ?_)
            obtain ⟨x30, e30⟩ : ∃ zz9 : Int32, zz9 = (nI i) + 1 := ⟨_, rfl⟩
            refine lv_iinc (v := x30) (lv' := [(2, .int x30), (1, .int 1), (0, .ref mx)]) hx hb dX4_isNone_30 hl (k := 2) rfl (by rw [e30]; rfl) (by decide) rfl (fun ls hl => ?_)
            obtain rfl : x30 = nI (i + 1) := e30.trans (nI_1 i)
            refine lv_goto (tgt := 4) hx hb dX4_isNone_33 (by decide) ?_
            exact ih4 (i + 1) 1 (by omega) (by omega) (nn_a hno c12 (nI_inj (hrw i) (by decide) c21)) _ (lv_sub hl [2, 1, 0] rfl)
  exact LP4 _ 0 1 (Nat.lt_succ_self _) (by omega) (Or.inl ⟨rfl, fun j h => absurd h (by omega)⟩) _ (lv_sub hl [2, 1, 0] rfl)

theorem dd_lt {rs B b : Nat} (h : rs < B) (hb : b < 256) : (rs * 2 ^ 8 + b) / B < 256 := by
  apply Nat.div_lt_of_lt_mul
  have h2 : (rs + 1) * 256 ≤ B * 256 := Nat.mul_le_mul_right _ h
  omega

set_option maxHeartbeats 4000000 in
set_option maxRecDepth 100000 in
theorem c_X4_divided (l : Launch) (dC : Nat → ClassId) (dI : Nat → Nat → Nat) (cI : ClassId) (mx m5 m6 m7 m8 m9 m10 m11 n dn bn wn : Nat) (th : Int32) (rw : Nat → Nat) (Bq : Nat) (sz : Nat) (hrw : ∀ j, rw j < 256) (hB : 1 ≤ Bq ∧ Bq ≤ 128) : Met l yX4_divided wsX4_divided ({ frames := 0, cells := 0, slots := 0, locals := 0 } : Room) (va_Pc [.ref mx, .int (nI Bq)] (fun U => U.heap.size = sz ∧ va_P (dC, dI) vwCl [(mx, .inr (4, [.int th, .int (nI n), .int (nI dn), .int (nI bn), .int (nI wn), .ref m5, .ref m6, .ref m7, .ref m8, .ref m9, .ref m10, .ref m11])), (m6, .inl (cI, 210, .inl (fun j => nI (rw j))))] U.heap ∧ va_K (dC, dI) vwCl [(cI, .int)] U ∧ va_D (fun _ => True) [(mx, .inr (4, [.int th, .int (nI n), .int (nI dn), .int (nI bn), .int (nI wn), .ref m5, .ref m6, .ref m7, .ref m8, .ref m9, .ref m10, .ref m11])), (m6, .inl (cI, 210, .inl (fun j => nI (rw j))))])) (va_Qi (fun (r : Int32) (g3 : Nat → Nat) => ∃ rs : Nat, r = nI rs ∧ rs < Bq ∧ bv rw 210 = Bq * bv g3 210 + rs ∧ (∀ j, g3 j < 256)) (fun (g3 : Nat → Nat) (tS : State) => va_P (dC, dI) vwCl [(mx, .inr (4, [.int th, .int (nI n), .int (nI dn), .int (nI bn), .int (nI wn), .ref m5, .ref m6, .ref m7, .ref m8, .ref m9, .ref m10, .ref m11])), (m6, .inl (cI, 210, .inl (fun j => nI (g3 j))))] tS.heap ∧ va_K (dC, dI) vwCl [(cI, .int)] tS ∧ va_D (va_A [(mx, .inr (4, [.int th, .int (nI n), .int (nI dn), .int (nI bn), .int (nI wn), .ref m5, .ref m6, .ref m7, .ref m8, .ref m9, .ref m10, .ref m11])), (m6, .inl (cI, 210, .inl (fun j => nI (rw j))))] sz) [(mx, .inr (4, [.int th, .int (nI n), .int (nI dn), .int (nI bn), .int (nI wn), .ref m5, .ref m6, .ref m7, .ref m8, .ref m9, .ref m10, .ref m11])), (m6, .inl (cI, 210, .inl (fun j => nI (g3 j))))]) (va_A [(mx, .inr (4, [.int th, .int (nI n), .int (nI dn), .int (nI bn), .int (nI wn), .ref m5, .ref m6, .ref m7, .ref m8, .ref m9, .ref m10, .ref m11])), (m6, .inl (cI, 210, .inl (fun j => nI (rw j))))] sz)) 0 0 (va_A [(mx, .inr (4, [.int th, .int (nI n), .int (nI dn), .int (nI bn), .int (nI wn), .ref m5, .ref m6, .ref m7, .ref m8, .ref m9, .ref m10, .ref m11])), (m6, .inl (cI, 210, .inl (fun j => nI (rw j))))] sz) := by
  refine Met.ofW (cc := cX4_divided) (maxL := 5) (ret := (some .int)) (by decide) rfl ?_
  intro p e s m args below meth c s₁ B hml hv
  obtain ⟨rfl, hsz, hP, hK, hD0⟩ := hv
  have hx := B.exec
  have hb := B.bytes
  have hr := B.returns
  have hts := atoms_spec (ws := wsX4_divided) B.pre
  have hown : s.vm.findClass RX4 = some m.cls := findClass_of_methodNamed B.named
  have hlocks := B.notSynchronized
  subst hsz
  have hD := hD0.self (sz := s.heap.size)
  generalize hAe : va_A [(mx, .inr (4, [.int th, .int (nI n), .int (nI dn), .int (nI bn), .int (nI wn), .ref m5, .ref m6, .ref m7, .ref m8, .ref m9, .ref m10, .ref m11])), (m6, .inl (cI, 210, .inl (fun j => nI (rw j))))] s.heap.size = A at hD ⊢
  have hA : ∀ q : Nat, s.heap.size ≤ q → A q := fun q h => by rw [← hAe]; exact Or.inr h
  have hS : va_S A s.heap s.heap [] := va_S.rf
  have hinX4 : ∀ w ∈ wsX40, w ∈ wsX4_divided := by decide +kernel
  have hl := lv_entry ([.ref mx, .int (nI Bq)]) (n := 5) (Nat.le_of_ble_eq_true rfl)
  rw [lg_entry_eq]
  generalize (lg_sl ([.ref mx, .int (nI Bq)]) ++ List.replicate (5 - (lg_sl ([.ref mx, .int (nI Bq)])).length) Slot.unset).toArray = ls at hl ⊢
  have hl : lv_has ls 5 [(0, .ref mx), (1, .int (nI Bq))] := hl
  refine lv_iconst (v := (nI 0)) hx hb dX4_divided_0 (by decide) ?_
  refine lv_istore_n (lv' := [(2, .int (nI 0)), (0, .ref mx), (1, .int (nI Bq))]) hx hb dX4_divided_1 rfl hl (by decide) rfl (fun ls hl => ?_)
  refine lv_sipush (v := (nI 209)) hx hb dX4_divided_2 (by decide) ?_
  refine lv_istore_n (lv' := [(3, .int (nI 209)), (2, .int (nI 0)), (0, .ref mx), (1, .int (nI Bq))]) hx hb dX4_divided_5 rfl hl (by decide) rfl (fun ls hl => ?_)
  have LP6 : ∀ (n9 : Nat) (i : Nat) (x : Int32) (g2 : Nat → Nat) (rs : Nat) (hm : i < n9) (hi : i ≤ 210) (hxi : x = nI i - 1) (hr2 : rs < Bq) (hg2 : ∀ j, g2 j < 256) (hlo : ∀ j, j < i → g2 j = rw j) (hv : bv (fun j => rw (i + j)) (210 - i) = Bq * bv (fun j => g2 (i + j)) (210 - i) + rs) (H : Heap) (locs : List Loc) (ls : Array Slot) (hP : va_P (dC, dI) vwCl [(mx, .inr (4, [.int th, .int (nI n), .int (nI dn), .int (nI bn), .int (nI wn), .ref m5, .ref m6, .ref m7, .ref m8, .ref m9, .ref m10, .ref m11])), (m6, .inl (cI, 210, .inl (fun j => nI (g2 j))))] H) (hD : va_D A [(mx, .inr (4, [.int th, .int (nI n), .int (nI dn), .int (nI bn), .int (nI wn), .ref m5, .ref m6, .ref m7, .ref m8, .ref m9, .ref m10, .ref m11])), (m6, .inl (cI, 210, .inl (fun j => nI (g2 j))))]) (hS : va_S A s.heap H locs) (hl : lv_has ls 5 [(0, .ref mx), (1, .int (nI Bq)), (2, .int (nI rs)), (3, .int x)]), W p l e (headSpec wsX4_divided ({ frames := 0, cells := 0, slots := 0, locals := 0 } : Room)).room s m ([.ref mx, .int (nI Bq)]).toArray below meth c H locs 0 0 (MQ below (va_Qi (fun (r : Int32) (g3 : Nat → Nat) => ∃ rs : Nat, r = nI rs ∧ rs < Bq ∧ bv rw 210 = Bq * bv g3 210 + rs ∧ (∀ j, g3 j < 256)) (fun (g3 : Nat → Nat) (tS : State) => va_P (dC, dI) vwCl [(mx, .inr (4, [.int th, .int (nI n), .int (nI dn), .int (nI bn), .int (nI wn), .ref m5, .ref m6, .ref m7, .ref m8, .ref m9, .ref m10, .ref m11])), (m6, .inl (cI, 210, .inl (fun j => nI (g3 j))))] tS.heap ∧ va_K (dC, dI) vwCl [(cI, .int)] tS ∧ va_D A [(mx, .inr (4, [.int th, .int (nI n), .int (nI dn), .int (nI bn), .int (nI wn), .ref m5, .ref m6, .ref m7, .ref m8, .ref m9, .ref m10, .ref m11])), (m6, .inl (cI, 210, .inl (fun j => nI (g3 j))))]) A) ([.ref mx, .int (nI Bq)]).toArray s 0 0 A) (F0 m 6 ls []) := by
    intro n9
    induction n9 with
    | zero => intro i x g2 rs hm; exact absurd hm (Nat.not_lt_zero _)
    | succ n9 ih =>
      intro i x g2 rs hm hi hxi hr2 hg2 hlo hv H locs ls hP hD hS hl
      have ih6 := ih
      refine lv_iload_n hx hb dX4_divided_6 rfl (lv_at hl 3 rfl) ?_
      refine lv_if_lt (tgt := 44) hx hb dX4_divided_7 (by decide) (fun c7 => ?_) (fun c7 => ?_)
      · refine lv_iload_n hx hb dX4_divided_44 rfl (lv_at hl 2 rfl) ?_
        have hP9 := hP.sub (ws' := [(mx, .inr (4, [.int th, .int (nI n), .int (nI dn), .int (nI bn), .int (nI wn), .ref m5, .ref m6, .ref m7, .ref m8, .ref m9, .ref m10, .ref m11])), (m6, .inl (cI, 210, .inl (fun j => nI (g2 j))))]) [0, 1] rfl
        have hD9 := hD.sub (ws' := [(mx, .inr (4, [.int th, .int (nI n), .int (nI dn), .int (nI bn), .int (nI wn), .ref m5, .ref m6, .ref m7, .ref m8, .ref m9, .ref m10, .ref m11])), (m6, .inl (cI, 210, .inl (fun j => nI (g2 j))))]) [0, 1] (by decide) rfl
        have hK9 := hK.sub (tys' := [(cI, .int)]) [0] rfl
        exact W.iret (v := (nI rs)) hx hb hr (fun tS htS hW => ⟨⟨(nI rs), g2, rfl, (by have he : i = 0 := dc_out hxi (by omega) c7; subst he; simp only [Nat.zero_add, Nat.sub_zero] at hv; exact ⟨rs, rfl, hr2, hv, hg2⟩), by rw [htS]; exact hP9, va_K.moved hW.alike hK9, hD9⟩, hS.F htS⟩) hS.2.2 dX4_divided_45
      · have hi1 : 1 ≤ i := by rcases Nat.eq_zero_or_pos i with h | h; subst h; exact absurd (by rw [hxi]; decide) c7; exact h
        obtain rfl : x = nI (i - 1) := hxi.trans (nI_m1 hi1)
        have hgi := hg2 (i - 1)
        refine lv_iload_n hx hb dX4_divided_10 rfl (lv_at hl 2 rfl) ?_
        refine lv_bipush (v := 8) hx hb dX4_divided_11 (by decide) ?_
        refine lv_ishl hx hb dX4_divided_13 ?_
        refine lv_topi (fun x13 e13 => ?_)
        obtain rfl : x13 = nI (rs * 2 ^ 8) := e13.trans (pk_shlN _ 8 (by decide) (by omega))
        refine lv_aload_n hx hb dX4_divided_14 rfl (lv_at hl 0 rfl) ?_
        refine va_get (D := (dC, dI)) (ci := 4) (v := .ref m6) (C := RX4) (T := TX4) (N := 12) hx hb hts hinX4 hown hK hP 0 rfl rfl 6 (by decide) (hts (.fieldLink RX4 13 "NumberContentsModel" "row" "[I") (by decide +kernel)) (fun _ h9 => h9) rfl dX4_divided_15 ?_
        refine lv_iload_n hx hb dX4_divided_18 rfl (lv_at hl 3 rfl) ?_
        refine va_iald hx hb hK hP 1 0 rfl rfl (vp_in_nI (by omega) (by omega)) dX4_divided_19 ?_
        refine lv_topi (fun x19 e19 => ?_)
        obtain rfl : x19 = nI (g2 (i - 1)) := e19.trans (atg (by omega))
        refine lv_ior hx hb dX4_divided_20 ?_
        refine lv_topi (fun x20 e20 => ?_)
        obtain rfl : x20 = nI (rs * 2 ^ 8 + g2 (i - 1)) := e20.trans ((Int32.or_comm _ _).trans ((or_add (k := 8) hgi (by omega)).trans (by rw [Nat.add_comm])))
        refine lv_istore (lv' := [(4, .int (nI (rs * 2 ^ 8 + g2 (i - 1)))), (0, .ref mx), (1, .int (nI Bq)), (2, .int (nI rs)), (3, .int (nI (i - 1)))]) hx hb dX4_divided_21 hl (by decide) rfl (fun ls hl => ?_)
        refine lv_aload_n hx hb dX4_divided_23 rfl (lv_at hl 1 rfl) ?_
        refine va_get (D := (dC, dI)) (ci := 4) (v := .ref m6) (C := RX4) (T := TX4) (N := 12) hx hb hts hinX4 hown hK hP 0 rfl rfl 6 (by decide) (hts (.fieldLink RX4 13 "NumberContentsModel" "row" "[I") (by decide +kernel)) (fun _ h9 => h9) rfl dX4_divided_24 ?_
        refine lv_iload_n hx hb dX4_divided_27 rfl (lv_at hl 4 rfl) ?_
        refine lv_iload hx hb dX4_divided_28 (lv_at hl 0 rfl) ?_
        refine lv_iload_n hx hb dX4_divided_30 rfl (lv_at hl 2 rfl) ?_
        refine lv_idiv hx hb dX4_divided_31 (nI_ne0 (by omega) (by omega)) ?_
        refine lv_topi (fun x31 e31 => ?_)
        obtain rfl : x31 = nI ((rs * 2 ^ 8 + g2 (i - 1)) / Bq) := e31.trans (pk_div (by omega) (by omega) (by omega))
        refine va_iast hx hb hK hP hD hS 1 0 rfl rfl (vp_in_nI (by omega) (by omega)) dX4_divided_32 (fun H locs hP hD hS => ?_)
        have hP : va_P (dC, dI) vwCl [(mx, .inr (4, [.int th, .int (nI n), .int (nI dn), .int (nI bn), .int (nI wn), .ref m5, .ref m6, .ref m7, .ref m8, .ref m9, .ref m10, .ref m11])), (m6, .inl (cI, 210, .inl (upd (fun j => nI (g2 j)) (nI (i - 1)).toNatClampNeg (nI ((rs * 2 ^ 8 + g2 (i - 1)) / Bq)))))] H := hP
        have hD : va_D A [(mx, .inr (4, [.int th, .int (nI n), .int (nI dn), .int (nI bn), .int (nI wn), .ref m5, .ref m6, .ref m7, .ref m8, .ref m9, .ref m10, .ref m11])), (m6, .inl (cI, 210, .inl (upd (fun j => nI (g2 j)) (nI (i - 1)).toNatClampNeg (nI ((rs * 2 ^ 8 + g2 (i - 1)) / Bq)))))] := hD
        obtain ⟨f32, e32⟩ : ∃ zz9 : Nat → Int32, zz9 = upd (fun j => nI (g2 j)) (nI (i - 1)).toNatClampNeg (nI ((rs * 2 ^ 8 + g2 (i - 1)) / Bq)) := ⟨_, rfl⟩
        rw [← e32] at hP hD
        obtain rfl : f32 = fun j => nI (va_up g2 (i - 1) ((rs * 2 ^ 8 + g2 (i - 1)) / Bq) j) := e32.trans (upg (by omega))
        refine lv_iload hx hb dX4_divided_33 (lv_at hl 0 rfl) ?_
        refine lv_iload_n hx hb dX4_divided_35 rfl (lv_at hl 2 rfl) ?_
        refine lv_irem hx hb dX4_divided_36 (nI_ne0 (by omega) (by omega)) ?_
        refine lv_topi (fun x36 e36 => ?_)
        obtain rfl : x36 = nI ((rs * 2 ^ 8 + g2 (i - 1)) % Bq) := e36.trans (pk_rem (by omega) (by omega) (by omega))
        refine lv_istore_n (lv' := [(2, .int (nI ((rs * 2 ^ 8 + g2 (i - 1)) % Bq))), (4, .int (nI (rs * 2 ^ 8 + g2 (i - 1)))), (0, .ref mx), (1, .int (nI Bq)), (3, .int (nI (i - 1)))]) hx hb dX4_divided_37 rfl hl (by decide) rfl (fun ls hl => ?_)
        obtain ⟨x38, e38⟩ : ∃ zz9 : Int32, zz9 = (nI (i - 1)) + (-1) := ⟨_, rfl⟩
        refine lv_iinc (v := x38) (lv' := [(3, .int x38), (2, .int (nI ((rs * 2 ^ 8 + g2 (i - 1)) % Bq))), (4, .int (nI (rs * 2 ^ 8 + g2 (i - 1)))), (0, .ref mx), (1, .int (nI Bq))]) hx hb dX4_divided_38 hl (k := 4) rfl (by rw [e38]; rfl) (by decide) rfl (fun ls hl => ?_)
        refine lv_goto (tgt := 6) hx hb dX4_divided_41 (by decide) ?_
        have hb := hg2 (i - 1)
        exact ih6 (i - 1) x38 (va_up g2 (i - 1) ((rs * 2 ^ 8 + g2 (i - 1)) / Bq)) ((rs * 2 ^ 8 + g2 (i - 1)) % Bq) (by omega) (by omega) (e38.trans (Int32.sub_eq_add_neg _ _).symm) (Nat.mod_lt _ (by omega)) (up_lt hg2 (dd_lt hr2 hb)) (fun j h => by rw [va_up_ne _ _ (by omega)]; exact hlo j (by omega)) (dv_stepG (by omega) hi1 hi hlo hv) _ _ _ (hP.sub [0, 1] rfl) (hD.sub [0, 1] (by decide) rfl) hS (lv_sub hl [3, 4, 1, 0] rfl)
  exact LP6 _ 210 (nI 209) rw 0 (Nat.lt_succ_self _) (by omega) (by decide) (by omega) hrw (fun j h => rfl) (by rw [Nat.sub_self]; rfl) _ _ _ (hP.sub [0, 1] rfl) (hD.sub [0, 1] (by decide) rfl) hS (lv_sub hl [2, 3, 1, 0] rfl)

