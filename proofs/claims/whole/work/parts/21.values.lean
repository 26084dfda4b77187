def nval (g z : Nat → Nat) (a : Nat) : Int := sv (fun j => g (a * 200 + j)) (z a)
def ext (g : Nat → Nat) (b k fl : Nat) : Nat → Nat := fun j => if j < k then g (b + j) else fl
theorem ext_lo {g : Nat → Nat} {b k fl j : Nat} (h : j < k) : ext g b k fl j = g (b + j) := if_pos h
theorem ext_hi {g : Nat → Nat} {b k fl j : Nat} (h : ¬ j < k) : ext g b k fl j = fl := if_neg h
theorem ext_bv {g : Nat → Nat} {b k fl : Nat} (hk : 1 ≤ k) (hs : (fl = 255 ∧ 128 ≤ g (b + (k - 1))) ∨ (fl = 0 ∧ g (b + (k - 1)) < 128)) (d : Nat) :
    (bv (ext g b k fl) (k + d) : Int) = sv (fun j => g (b + j)) k + if fl = 255 then ((256 ^ (k + d) : Nat) : Int) else 0 := by
  induction d with
  | zero =>
    rw [Nat.add_zero, bv_congr (g2 := fun j => g (b + j)) (fun i hi => ext_lo hi)]
    unfold sv
    dsimp only
    rcases hs with ⟨rfl, h⟩ | ⟨rfl, h⟩
    · rw [if_pos h, if_pos rfl]; omega
    · rw [if_neg (by omega), if_neg (by decide)]; omega
  | succ d ih =>
    rw [← Nat.add_assoc, bv_s, ext_hi (by omega), Int.natCast_add, ih, pw_s]
    generalize 256 ^ (k + d) = P
    rcases hs with ⟨rfl, h⟩ | ⟨rfl, h⟩
    · rw [if_pos rfl, if_pos rfl]; omega
    · rw [if_neg (by decide), if_neg (by decide)]; omega
theorem sv_bv (w : Nat → Nat) (n : Nat) : ∃ q : Int, (bv w n : Int) = sv w n + q * ((256 ^ n : Nat) : Int) := by
  unfold sv
  by_cases h : 128 ≤ w (n - 1)
  · rw [if_pos h]; exact ⟨1, by omega⟩
  · rw [if_neg h]; exact ⟨0, by omega⟩
theorem ext_md {g : Nat → Nat} {b k fl n : Nat} (hk : 1 ≤ k) (hn : k ≤ n) (hs : (fl = 255 ∧ 128 ≤ g (b + (k - 1))) ∨ (fl = 0 ∧ g (b + (k - 1)) < 128)) :
    ∃ q : Int, (bv (ext g b k fl) n : Int) = sv (fun j => g (b + j)) k + q * ((256 ^ n : Nat) : Int) := by
  obtain ⟨d, rfl⟩ : ∃ d, n = k + d := ⟨n - k, by omega⟩
  rw [ext_bv hk hs d]
  by_cases h : fl = 255
  · rw [if_pos h]; exact ⟨1, by omega⟩
  · rw [if_neg h]; exact ⟨0, by omega⟩
theorem md_eq {x y q M : Int} (hM : 0 < M) (h : x + q * M = y) (h1 : -M < y - x) (h2 : y - x < M) : x = y := by
  have e : y - x = q * M := by omega
  rw [e] at h1 h2
  have hq1 : q < 1 := Int.lt_of_mul_lt_mul_right (a := M) (by omega) (by omega)
  have hq2 : -1 < q := Int.lt_of_mul_lt_mul_right (a := M) (by omega) (by omega)
  have : q = 0 := by omega
  subst this
  omega
theorem sv_of_md {w : Nat → Nat} {n : Nat} {y q : Int} (hw : ∀ i, w i < 256) (hn : 1 ≤ n) (h : sv w n + q * ((256 ^ n : Nat) : Int) = y) (hy : fitz y n) : sv w n = y := by
  obtain ⟨a, b⟩ := sv_fit hw hn
  obtain ⟨c, d⟩ := hy
  obtain ⟨k, rfl⟩ : ∃ k, n = k + 1 := ⟨n - 1, by omega⟩
  rw [Nat.add_sub_cancel] at a b c d
  have hp := pw_pos k
  rw [pw_s] at h
  refine md_eq (M := ((256 * 256 ^ k : Nat) : Int)) (by omega) h ?_ ?_ <;> omega
theorem fitz_mono {y : Int} {a b : Nat} (h : fitz y a) (hab : a ≤ b) : fitz y b := by
  obtain ⟨c, d⟩ := h
  have m : 256 ^ (a - 1) ≤ 256 ^ (b - 1) := Nat.pow_le_pow_right (by decide) (by omega)
  unfold fitz
  generalize 256 ^ (a - 1) = u at *
  generalize 256 ^ (b - 1) = v at *
  exact ⟨by omega, by omega⟩
theorem ma_sv {g g3 : Nat → Nat} {n : Nat} {v w : Int} (h : ∃ q : Int, (bv g3 n : Int) + q * ((256 ^ n : Nat) : Int) = bv g n * v + w) :
    ∃ q : Int, sv g3 n + q * ((256 ^ n : Nat) : Int) = sv g n * v + w := by
  obtain ⟨q, h⟩ := h
  obtain ⟨a, ha⟩ := sv_bv g3 n
  obtain ⟨b, hb⟩ := sv_bv g n
  rw [ha, hb] at h
  generalize ((256 ^ n : Nat) : Int) = M at *
  exact ⟨a + q - b * v, by grind⟩
theorem ma_ex {g g3 : Nat → Nat} {n : Nat} {v w y : Int} (hg3 : ∀ i, g3 i < 256) (hn : 1 ≤ n) (h : ∃ q : Int, (bv g3 n : Int) + q * ((256 ^ n : Nat) : Int) = bv g n * v + w) (e : sv g n * v + w = y) (hy : fitz y n) : sv g3 n = y := by
  obtain ⟨q, h⟩ := ma_sv h
  exact sv_of_md hg3 hn (h.trans e) hy
theorem fill_lt {g g3 : Nat → Nat} {v n : Nat} (h : (∀ j, j < n → g3 j = v) ∧ (∀ j, n ≤ j → g3 j = g j)) (hg : ∀ j, g j < 256) (hv : v < 256) (j : Nat) : g3 j < 256 := by
  rcases Nat.lt_or_ge j n with h1 | h1
  · rw [h.1 j h1]; exact hv
  · rw [h.2 j h1]; exact hg j
theorem bv_zero {w : Nat → Nat} {n : Nat} (h : ∀ j, j < n → w j = 0) : bv w n = 0 := by
  induction n with
  | zero => rfl
  | succ n ih => rw [bv_s, ih (fun j hj => h j (by omega)), h n (by omega)]; omega
theorem sv_zero {w : Nat → Nat} {n : Nat} (hn : 1 ≤ n) (h : ∀ j, j < n → w j = 0) : sv w n = 0 := by
  unfold sv
  rw [h (n - 1) (by omega), if_neg (by decide), bv_zero h]
  rfl
theorem an_y {t c x75 x78 : Int32} {it : Nat} (ht : t = 1 ∨ t = -1) (hit : it < 256) (hc : -2 ≤ c.toInt ∧ c.toInt ≤ 2) (e75 : x75 = t * nI it) (e78 : x78 = x75 + c) :
    x78.toInt = t.toInt * it + c.toInt ∧ (-70000 ≤ x78.toInt ∧ x78.toInt ≤ 70000) := by
  have ht2 : t.toInt = 1 ∨ t.toInt = -1 := by rcases ht with rfl | rfl <;> decide
  have q1 : (nI it).toInt = it := nI_toInt (by omega)
  have q2 : x75.toInt = t.toInt * it := by
    rw [e75, i_mul (by rw [q1]; rcases ht2 with h | h <;> rw [h] <;> omega) (by rw [q1]; rcases ht2 with h | h <;> rw [h] <;> omega), q1]
  have q3 : x78.toInt = t.toInt * it + c.toInt := by
    rw [e78, i_add (by rw [q2]; rcases ht2 with h | h <;> rw [h] <;> omega) (by rw [q2]; rcases ht2 with h | h <;> rw [h] <;> omega), q2]
  refine ⟨q3, ?_⟩
  rw [q3]
  rcases ht2 with h | h <;> rw [h] <;> omega
theorem an_c {t c y r : Int} {it wi b : Nat} (ht : t = 1 ∨ t = -1) (hit : it < 256) (hwi : wi < 256) (hb : b < 256) (hc : -2 ≤ c ∧ c ≤ 2) (hy : y = t * it + c) (h : (wi : Int) + y = 256 * r + b) : -2 ≤ r ∧ r ≤ 2 := by
  rcases ht with rfl | rfl <;> omega
theorem an_step {w w2 x : Nat → Nat} {i b : Nat} {t c y r : Int} (hv : (bv w2 i : Int) + c * ((256 ^ i : Nat) : Int) = bv w i + t * bv x i) (hs : w2 i = w i) (hy : y = t * x i + c) (h : (w2 i : Int) + y = 256 * r + b) :
    (bv (va_up w2 i b) (i + 1) : Int) + r * ((256 ^ (i + 1) : Nat) : Int) = bv w (i + 1) + t * bv x (i + 1) := by
  have e1 : bv (va_up w2 i b) i = bv w2 i := bv_congr (fun j hj => va_up_ne _ _ (by omega))
  rw [bv_s, bv_s, bv_s, e1, va_up_self, pw_s]
  rw [hs] at h
  generalize 256 ^ i = P at hv ⊢
  rw [show ((256 * P : Nat) : Int) = 256 * (P : Int) from by omega]
  simp only [Int.natCast_add, Int.natCast_mul]
  grind
theorem an_end {g z w w3 : Nat → Nat} {a fl : Nat} {t c : Int} (hz : 1 ≤ z a ∧ z a ≤ 200) (hs : (fl = 255 ∧ 128 ≤ g (a * 200 + (z a - 1))) ∨ (fl = 0 ∧ g (a * 200 + (z a - 1)) < 128))
    (hv : (bv w3 204 : Int) + c * ((256 ^ 204 : Nat) : Int) = bv w 204 + t * bv (ext g (a * 200) (z a) fl) 204) :
    ∃ q : Int, sv w3 204 + q * ((256 ^ 204 : Nat) : Int) = sv w 204 + t * nval g z a := by
  obtain ⟨q1, h1⟩ := ext_md (n := 204) hz.1 (by omega) hs
  obtain ⟨q2, h2⟩ := sv_bv w 204
  obtain ⟨q3, h3⟩ := sv_bv w3 204
  rw [h1, h2, h3] at hv
  unfold nval
  generalize ((256 ^ 204 : Nat) : Int) = M at *
  exact ⟨q3 + c - q2 - t * q1, by grind⟩
theorem nval_fit {g z : Nat → Nat} {a : Nat} (hg : ∀ j, g j < 256) (hz : 1 ≤ z a ∧ z a ≤ 200) : fitz (nval g z a) 200 := fitz_mono (sv_fit (fun i => hg _) hz.1) hz.2
def dval (d : Nat → Nat) : Nat → Nat
  | 0 => 0
  | n + 1 => dval d n * 10 + d n
theorem dval_lt {d : Nat → Nat} (h : ∀ j, d j < 10) (n : Nat) : dval d n < 10 ^ n := by
  induction n with
  | zero => exact Nat.zero_lt_one
  | succ n ih =>
    show dval d n * 10 + d n < 10 ^ (n + 1)
    have := h n
    rw [Nat.pow_succ]
    omega
theorem dval_fit {d : Nat → Nat} (h : ∀ j, d j < 10) {n : Nat} (hn : n ≤ 480) : fitz (dval d n : Int) 200 := by
  have h1 := dval_lt h n
  have h2 : 10 ^ n ≤ 10 ^ 480 := Nat.pow_le_pow_right (by decide) hn
  have h3 : 10 ^ 480 < 128 * 256 ^ 199 := by decide +kernel
  unfold fitz
  rw [show 200 - 1 = 199 from rfl]
  generalize 10 ^ 480 = u at *
  generalize 256 ^ 199 = v at *
  omega
theorem it_at {f : Nat → Nat} {i n : Nat} {r : Int32} (hi : i < n) (hn : n < 2 ^ 31) (h : (vp_in (nI i) n ∧ r = (fun j => nI (f j)) (nI i).toNatClampNeg) ∨ (¬ vp_in (nI i) n ∧ r = 0)) : r = nI (f i) := by
  rcases h with ⟨_, h⟩ | ⟨h, _⟩
  · exact h.trans (atg (by omega))
  · exact absurd (vp_in_nI hi hn) h
theorem p10_9 : ∀ p, p < 9 → (nI (10 ^ (p + 1)) = 1000000000 ↔ p = 8) := by decide +kernel
theorem p10_lt {p : Nat} (h : p ≤ 9) : 10 ^ p ≤ 1000000000 := Nat.pow_le_pow_right (n := 10) (by decide) h
theorem p10_toInt {p : Nat} (h : p ≤ 9) : (nI (10 ^ p)).toInt = ((10 ^ p : Nat) : Int) := nI_toInt (Nat.lt_of_le_of_lt (p10_lt h) (by decide))
theorem ld_vl {p vl d : Nat} (hvl : vl < 10 ^ p) (hd : d < 10) : vl * 10 + d < 10 ^ (p + 1) := by
  rw [Nat.pow_succ]; omega
theorem ld_hv {s : Int} {p vl : Nat} {dg : Nat → Nat} {i : Nat} (hv : s * ((10 ^ p : Nat) : Int) + vl = dval dg i) : s * ((10 ^ (p + 1) : Nat) : Int) + ((vl * 10 + dg i : Nat) : Int) = dval dg (i + 1) := by
  show _ = ((dval dg i * 10 + dg i : Nat) : Int)
  rw [Nat.pow_succ]
  generalize 10 ^ p = P at *
  simp only [Int.natCast_add, Int.natCast_mul]
  grind
