theorem sb_ge : ∀ c, c < 256 → ((0 : Int32) ≤ sb_b c ↔ c < 128) := by decide +kernel
theorem sb_lt0 : ∀ c, c < 256 → (sb_b c < 0 ↔ 128 ≤ c) := by decide +kernel
theorem sb_and {c : Nat} (h : c < 256) : sb_b c &&& 255 = nI c := (sb_byte c h).1
theorem sb_small : ∀ c, c < 128 → sb_b c = nI c := by decide +kernel
theorem sb_nar (c : Nat) : vp_nar .byte (sb_b c) = sb_b c := pk_vb _
theorem sb_of (x : Int32) : x.toInt8.toInt32 = sb_b (x.toBitVec.toNat % 2 ^ 8) := by
  have h : x.toInt8 = (nI (x.toBitVec.toNat % 2 ^ 8)).toInt8 := by
    apply Int8.toInt_inj.mp
    rw [Int32.toInt_toInt8, Int32.toInt_toInt8, nI_toInt (Nat.lt_of_lt_of_le (m8lt _) (by decide)), low8, show (((x.toInt % 256).toNat : Nat) : Int) = x.toInt % 256 from by omega]
    exact (Int.emod_bmod (x := x.toInt) (n := 256)).symm
  rw [h]
  rfl
theorem atsb {g : Nat → Nat} {k : Nat} (h : k < 2 ^ 31) : (fun j => sb_b (g j)) (nI k).toNatClampNeg = sb_b (g k) := by
  show sb_b (g _) = _
  rw [nI_clamp h]
theorem upsb {g : Nat → Nat} {k v : Nat} (h : k < 2 ^ 31) : upd (fun j => sb_b (g j)) (nI k).toNatClampNeg (vp_nar .byte (sb_b v)) = fun j => sb_b (va_up g k v j) := by
  rw [nI_clamp h, sb_nar]
  funext j
  by_cases h : j = k
  · subst h; rw [pk_us, va_up_self]
  · rw [pk_un h, va_up_ne _ _ h]
def mval (g z : Nat → Nat) (a : Nat) : Int := sv (fun j => g (200 * a + (z a - 1 - j))) (z a)
theorem ext_sv {w r : Nat → Nat} {k fl N : Nat} (hk : 1 ≤ k) (hN : k < N) (hs : (fl = 255 ∧ 128 ≤ r (k - 1)) ∨ (fl = 0 ∧ r (k - 1) < 128)) (hlo : ∀ j, j < k → w j = r j) (hhi : ∀ j, k ≤ j → j < N → w j = fl) : sv w N = sv r k := by
  have hs2 : (fl = 255 ∧ 128 ≤ r (0 + (k - 1))) ∨ (fl = 0 ∧ r (0 + (k - 1)) < 128) := by rw [Nat.zero_add]; exact hs
  have e := ext_bv (g := r) (b := 0) hk hs2 (N - k)
  rw [show k + (N - k) = N from by omega] at e
  have e2 : bv w N = bv (ext r 0 k fl) N := bv_congr (fun j hj => by
    by_cases h : j < k
    · rw [hlo j h, ext_lo h, Nat.zero_add]
    · rw [hhi j (by omega) hj, ext_hi h])
  rw [show (fun j => r (0 + j)) = r from funext (fun j => by rw [Nat.zero_add]), ← e2] at e
  have e3 : sv w N = if 128 ≤ fl then (bv w N : Int) - ((256 ^ N : Nat) : Int) else bv w N := by
    unfold sv; rw [hhi (N - 1) (by omega) (by omega)]
  rw [e3]
  generalize ((256 ^ N : Nat) : Int) = M at *
  rcases hs with ⟨rfl, _⟩ | ⟨rfl, _⟩
  · rw [if_pos (show 128 ≤ 255 by decide)]; rw [if_pos rfl] at e; omega
  · rw [if_neg (show ¬ 128 ≤ 0 by decide)]; rw [if_neg (show ¬ (0 : Nat) = 255 by decide)] at e; omega
def XM (n : Nat) (g z : Nat → Nat) : Prop := (∀ j, g j < 256) ∧ n ≤ 40 ∧ (∀ a, a < n → 1 ≤ z a ∧ z a ≤ 200) ∧ (∀ a, a < n → isz (mval g z a) (z a))
def KEPTM (n : Nat) (g z g3 z3 : Nat → Nat) (y : Int) (r : Int32) : Prop := r = nI n ∧ n < 40 ∧ (∃ k, isz y k ∧ k ≤ 200) ∧ XM (n + 1) g3 z3 ∧ (∀ a, a < n → mval g3 z3 a = mval g z a ∧ z3 a = z a) ∧ mval g3 z3 n = y
theorem keptm_of {g z g3 w : Nat → Nat} {n k : Nat} {y : Int} (hI : XM n g z) (hn : n < 40) (hk : isz y k) (hk2 : k ≤ 200) (hw : ∀ j, w j < 256) (hk3 : sv w k = y) (h2 : ∀ j, j < k → g3 (200 * n + j) = w (k - 1 - j)) (h3 : ∀ i, i < 200 * n ∨ 200 * n + k ≤ i → g3 i = g i) : KEPTM n g z g3 (va_up z n k) y (nI n) := by
  obtain ⟨hg, hn0, hz, hq⟩ := hI
  have k1 := hk.1
  have e6 : ∀ a, a < n → va_up z n k a = z a := fun a ha => va_up_ne _ _ (by omega)
  have e7 : ∀ a, a < n → mval g3 (va_up z n k) a = mval g z a := fun a ha => by
    have hza := hz a ha
    unfold mval
    rw [e6 a ha]
    exact sv_congr hza.1 (fun j hj => h3 _ (Or.inl (by omega)))
  have e8 : mval g3 (va_up z n k) n = y := by
    unfold mval
    rw [va_up_self, ← hk3]
    exact sv_congr k1 (fun j hj => by rw [h2 _ (by omega), show k - 1 - (k - 1 - j) = j from by omega])
  refine ⟨rfl, hn, ⟨k, hk, hk2⟩, ⟨fun j => ?_, by omega, fun a ha => ?_, fun a ha => ?_⟩, fun a ha => ⟨e7 a ha, e6 a ha⟩, e8⟩
  · by_cases hj : j < 200 * n ∨ 200 * n + k ≤ j
    · rw [h3 j hj]; exact hg j
    · obtain ⟨i, rfl⟩ : ∃ i, j = 200 * n + i := ⟨j - 200 * n, by omega⟩
      rw [h2 i (by omega)]; exact hw _
  · rcases Nat.lt_or_ge a n with h | h
    · rw [e6 a h]; exact hz a h
    · rw [show a = n from by omega, va_up_self]; exact ⟨k1, hk2⟩
  · rcases Nat.lt_or_ge a n with h | h
    · rw [e7 a h, e6 a h]; exact hq a h
    · rw [show a = n from by omega, e8, va_up_self]; exact hk
theorem mval_fit {g z : Nat → Nat} {a : Nat} (hg : ∀ j, g j < 256) (hz : 1 ≤ z a ∧ z a ≤ 200) : fitz (mval g z a) 200 := fitz_mono (sv_fit (fun i => hg _) hz.1) hz.2
theorem dv_stepG {g g2 : Nat → Nat} {i n rs B : Nat} (hB : 0 < B) (hi1 : 1 ≤ i) (hi : i ≤ n) (hlo : ∀ j, j < i → g2 j = g j) (hv : bv (fun j => g (i + j)) (n - i) = B * bv (fun j => g2 (i + j)) (n - i) + rs) :
    bv (fun j => g (i - 1 + j)) (n - (i - 1)) = B * bv (fun j => va_up g2 (i - 1) ((rs * 256 + g2 (i - 1)) / B) (i - 1 + j)) (n - (i - 1)) + (rs * 256 + g2 (i - 1)) % B := by
  obtain ⟨k, rfl⟩ : ∃ k, i = k + 1 := ⟨i - 1, by omega⟩
  obtain ⟨d, rfl⟩ : ∃ d, n = k + 1 + d := ⟨n - (k + 1), by omega⟩
  rw [show k + 1 + d - (k + 1) = d from by omega] at hv
  rw [Nat.add_sub_cancel, show k + 1 + d - k = d + 1 from by omega, bv_cons, bv_cons, Nat.add_zero, va_up_self]
  have e1 : bv (fun j => g (k + (j + 1))) d = bv (fun j => g (k + 1 + j)) d := bv_congr (fun j _ => by rw [show k + (j + 1) = k + 1 + j from by omega])
  have e2 : bv (fun j => va_up g2 k ((rs * 256 + g2 k) / B) (k + (j + 1))) d = bv (fun j => g2 (k + 1 + j)) d := bv_congr (fun j _ => by rw [va_up_ne _ _ (by omega), show k + (j + 1) = k + 1 + j from by omega])
  rw [e1, e2, hv, hlo k (by omega)]
  have h := Nat.div_add_mod (rs * 256 + g k) B
  generalize bv (fun j => g2 (k + 1 + j)) d = Q at *
  generalize (rs * 256 + g k) / B = u at *
  generalize (rs * 256 + g k) % B = v at *
  rw [Nat.mul_add, Nat.mul_add, ← Nat.mul_assoc, Nat.mul_comm 256 B, Nat.mul_assoc]
  generalize B * (256 * Q) = w at *
  generalize B * u = x at *
  omega
theorem tg_step {w w2 x : Nat → Nat} {i b : Nat} {c0 c y r : Int} (hv : (bv w2 i : Int) + c * ((256 ^ i : Nat) : Int) = bv w i + bv x i + c0) (hs : w2 i = w i) (hy : y = c + (w2 i + x i)) (h : y = 256 * r + b) :
    (bv (va_up w2 i b) (i + 1) : Int) + r * ((256 ^ (i + 1) : Nat) : Int) = bv w (i + 1) + bv x (i + 1) + c0 := by
  have e1 : bv (va_up w2 i b) i = bv w2 i := bv_congr (fun j hj => va_up_ne _ _ (by omega))
  rw [bv_s, bv_s, bv_s, e1, va_up_self, pw_s]
  rw [hs] at hy
  generalize 256 ^ i = P at hv ⊢
  rw [show ((256 * P : Nat) : Int) = 256 * (P : Int) from by omega]
  simp only [Int.natCast_add, Int.natCast_mul]
  grind
theorem bv_neg {w : Nat → Nat} (hw : ∀ j, w j < 256) (n : Nat) : bv (fun j => 255 - w j) n + bv w n + 1 = 256 ^ n := by
  induction n with
  | zero => rfl
  | succ n ih =>
    rw [bv_s, bv_s, pw_s]
    have h := hw n
    generalize 256 ^ n = P at *
    have e : (255 - w n) * P + w n * P = 255 * P := by rw [← Nat.add_mul]; congr 1; omega
    generalize (255 - w n) * P = u at *
    generalize w n * P = v at *
    omega
theorem tg_end {w w3 o : Nat → Nat} {c : Int} {mi : Int32} (ho : ∀ j, o j < 256) (hv : (bv w3 210 : Int) + c * ((256 ^ 210 : Nat) : Int) = bv w 210 + bv (fun j => if mi = 0 then o j else 255 - o j) 210 + (if mi = 0 then 0 else 1)) :
    ∃ q : Int, sv w3 210 + q * ((256 ^ 210 : Nat) : Int) = sv w 210 + (if mi = 0 then 1 else -1) * sv o 210 := by
  obtain ⟨q1, h1⟩ := sv_bv o 210
  obtain ⟨q2, h2⟩ := sv_bv w 210
  obtain ⟨q3, h3⟩ := sv_bv w3 210
  by_cases hm : mi = 0
  · simp only [if_pos hm] at *
    rw [h1, h2, h3] at hv
    generalize ((256 ^ 210 : Nat) : Int) = M at *
    exact ⟨q3 + c - q2 - q1, by grind⟩
  · simp only [if_neg hm] at *
    have hn := bv_neg ho 210
    have hn2 : (bv (fun j => 255 - o j) 210 : Int) = ((256 ^ 210 : Nat) : Int) - bv o 210 - 1 := by rw [← hn]; omega
    rw [hn2, h1, h2, h3] at hv
    generalize ((256 ^ 210 : Nat) : Int) = M at *
    exact ⟨q3 + c - q2 - 1 + q1, by grind⟩
