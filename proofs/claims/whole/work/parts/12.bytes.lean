def bv (g : Nat → Nat) : Nat → Nat
  | 0 => 0
  | n + 1 => bv g n + g n * 256 ^ n
theorem bv_s (g : Nat → Nat) (n : Nat) : bv g (n + 1) = bv g n + g n * 256 ^ n := rfl
theorem pw_s (n : Nat) : 256 ^ (n + 1) = 256 * 256 ^ n := by rw [Nat.pow_succ, Nat.mul_comm]
theorem pw_pos (n : Nat) : 0 < 256 ^ n := Nat.pow_pos (by decide)
theorem bv_lt {g : Nat → Nat} (h : ∀ i, g i < 256) (n : Nat) : bv g n < 256 ^ n := by
  induction n with
  | zero => exact Nat.zero_lt_one
  | succ n ih =>
    rw [bv_s, pw_s]
    have h2 : g n * 256 ^ n ≤ 255 * 256 ^ n := Nat.mul_le_mul_right _ (by have := h n; omega)
    omega
theorem bv_congr {g g2 : Nat → Nat} {n : Nat} (h : ∀ i, i < n → g i = g2 i) : bv g n = bv g2 n := by
  induction n with
  | zero => rfl
  | succ n ih => rw [bv_s, bv_s, ih (fun i hi => h i (by omega)), h n (by omega)]
theorem upg {g : Nat → Nat} {k v : Nat} (h : k < 2 ^ 31) : upd (fun j => nI (g j)) (nI k).toNatClampNeg (nI v) = fun j => nI (va_up g k v j) := by
  rw [nI_clamp h]
  funext j
  by_cases h : j = k
  · subst h; rw [pk_us, va_up_self]
  · rw [pk_un h, va_up_ne _ _ h]
theorem atg {g : Nat → Nat} {k : Nat} (h : k < 2 ^ 31) : (fun j => nI (g j)) (nI k).toNatClampNeg = nI (g k) := by
  show nI (g _) = _
  rw [nI_clamp h]
theorem up_lt {g : Nat → Nat} {k v B : Nat} (h : ∀ i, g i < B) (hv : v < B) (i : Nat) : va_up g k v i < B := by
  by_cases e : i = k
  · subst e; rw [va_up_self]; exact hv
  · rw [va_up_ne _ _ e]; exact h i
theorem bo_at {g : Nat → Nat} {k : Nat} {r : Int32} (hk : k < 204) (h : (vp_in (nI k) 204 ∧ r = nI (g (nI k).toNatClampNeg)) ∨ (¬ vp_in (nI k) 204 ∧ r = 0)) : r = nI (g k) := by
  rcases h with ⟨_, h⟩ | ⟨h, _⟩
  · rw [h, nI_clamp (by omega)]
  · exact absurd (vp_in_nI hk (by decide)) h
theorem sh8 (x : Int32) : x.toInt = 256 * (x >>> ((8 : Int32) &&& 31)).toInt + ((x.toBitVec.toNat % 2 ^ 8 : Nat) : Int) := by
  rw [pk_shr x _ 8 (by decide), Int.shiftRight_eq_div_pow]
  have h1 : x.toInt = x.toBitVec.toInt := rfl
  rw [h1, BitVec.toInt_eq_toNat_cond]
  have h2 := x.toBitVec.isLt
  split <;> omega
theorem l_shr (a s : Int64) (k : Nat) (hs : (s.toBitVec.smod 64).toNat = k) : (a >>> s).toInt = a.toInt >>> k := by
  show (a.toBitVec.sshiftRight (s.toBitVec.smod 64).toNat).toInt = _
  rw [hs, BitVec.toInt_sshiftRight]
  rfl
theorem sh8l (x : Int64) : x.toInt = 256 * (x >>> ((8 : Int32).toInt64 &&& 63)).toInt + ((x.toBitVec.toNat % 2 ^ 8 : Nat) : Int) := by
  rw [l_shr x _ 8 (by decide), Int.shiftRight_eq_div_pow]
  have h1 : x.toInt = x.toBitVec.toInt := rfl
  rw [h1, BitVec.toInt_eq_toNat_cond]
  have h2 := x.toBitVec.isLt
  split <;> omega
theorem l_and (x : Int64) : x &&& 255 = lN (x.toBitVec.toNat % 2 ^ 8) := by
  apply Int64.toBitVec_inj.mp
  apply BitVec.eq_of_toNat_eq
  rw [Int64.toBitVec_and, BitVec.toNat_and, show (255 : Int64).toBitVec.toNat = 2 ^ 8 - 1 from by decide, Nat.and_two_pow_sub_one_eq_mod]
  show _ = (BitVec.ofNat 64 _).toNat
  rw [BitVec.toNat_ofNat]
  exact (Nat.mod_eq_of_lt (Nat.lt_of_le_of_lt (Nat.mod_le _ _) x.toBitVec.isLt)).symm
theorem l2i255 (x : Int64) : (x &&& 255).toInt32 = nI (x.toBitVec.toNat % 2 ^ 8) := by
  rw [l_and, lN_i]
theorem m8lt (x : Nat) : x % 2 ^ 8 < 256 := Nat.mod_lt _ (by decide)
theorem l_add {a b : Int64} (h1 : -9223372036854775808 ≤ a.toInt + b.toInt) (h2 : a.toInt + b.toInt < 9223372036854775808) : (a + b).toInt = a.toInt + b.toInt := by
  rw [Int64.toInt_add]
  exact Int.bmod_eq_of_le (by omega) (by omega)
theorem l_mul {a b : Int64} (h1 : -9223372036854775808 ≤ a.toInt * b.toInt) (h2 : a.toInt * b.toInt < 9223372036854775808) : (a * b).toInt = a.toInt * b.toInt := by
  rw [Int64.toInt_mul]
  exact Int.bmod_eq_of_le (by omega) (by omega)
theorem i_add {a b : Int32} (h1 : -2147483648 ≤ a.toInt + b.toInt) (h2 : a.toInt + b.toInt < 2147483648) : (a + b).toInt = a.toInt + b.toInt := by
  rw [Int32.toInt_add]
  exact Int.bmod_eq_of_le (by omega) (by omega)
theorem i_sub {a b : Int32} (h1 : -2147483648 ≤ a.toInt - b.toInt) (h2 : a.toInt - b.toInt < 2147483648) : (a - b).toInt = a.toInt - b.toInt := by
  rw [Int32.toInt_sub]
  exact Int.bmod_eq_of_le (by omega) (by omega)
theorem i_mul {a b : Int32} (h1 : -2147483648 ≤ a.toInt * b.toInt) (h2 : a.toInt * b.toInt < 2147483648) : (a * b).toInt = a.toInt * b.toInt := by
  rw [Int32.toInt_mul]
  exact Int.bmod_eq_of_le (by omega) (by omega)
theorem i_rng (v : Int32) : -2147483648 ≤ v.toInt ∧ v.toInt < 2147483648 := ⟨Int32.le_toInt v, Int32.toInt_lt v⟩
theorem i_l (v : Int32) : v.toInt64.toInt = v.toInt := Int32.toInt_toInt64 v
theorem ma_tot {b : Nat} {v : Int32} {cr x21 x23 x24 x26 : Int64} (hb : b < 256) (e21 : x21 = (nI b).toInt64) (e23 : x23 = v.toInt64) (e24 : x24 = x21 * x23) (e26 : x26 = x24 + cr) (h1 : -4294967296 ≤ cr.toInt) (h2 : cr.toInt ≤ 4294967296) :
    x26.toInt = b * v.toInt + cr.toInt ∧ -551903297536 ≤ x26.toInt ∧ x26.toInt ≤ 551903297536 := by
  have hv := i_rng v
  have p1 : (b : Int) * v.toInt ≤ b * 2147483648 := Int.mul_le_mul_of_nonneg_left (by omega) (by omega)
  have p2 : (b : Int) * (-2147483648) ≤ b * v.toInt := Int.mul_le_mul_of_nonneg_left (by omega) (by omega)
  have q1 : x21.toInt = b := by rw [e21, i_l, nI_toInt (by omega)]
  have q2 : x23.toInt = v.toInt := by rw [e23, i_l]
  have q3 : x24.toInt = b * v.toInt := by rw [e24, l_mul (by rw [q1, q2]; omega) (by rw [q1, q2]; omega), q1, q2]
  have q4 : x26.toInt = b * v.toInt + cr.toInt := by rw [e26, l_add (by rw [q3]; omega) (by rw [q3]; omega), q3]
  exact ⟨q4, by omega, by omega⟩
theorem ma_step {g g2 : Nat → Nat} {i b : Nat} {v w c c' t : Int} (hv : (bv g2 i : Int) + c * ((256 ^ i : Nat) : Int) = bv g i * v + w) (ht : t = g i * v + c) (hs : t = 256 * c' + b) :
    (bv (va_up g2 i b) (i + 1) : Int) + c' * ((256 ^ (i + 1) : Nat) : Int) = bv g (i + 1) * v + w := by
  have e1 : bv (va_up g2 i b) i = bv g2 i := bv_congr (fun j hj => va_up_ne _ _ (by omega))
  rw [bv_s, bv_s, e1, va_up_self, pw_s]
  generalize 256 ^ i = P at hv ⊢
  rw [show ((256 * P : Nat) : Int) = 256 * (P : Int) from by omega]
  simp only [Int.natCast_add, Int.natCast_mul]
  grind
def sv (g : Nat → Nat) (n : Nat) : Int := if 128 ≤ g (n - 1) then (bv g n : Int) - ((256 ^ n : Nat) : Int) else bv g n
def fitz (z : Int) (k : Nat) : Prop := -(128 * ((256 ^ (k - 1) : Nat) : Int)) ≤ z ∧ z < 128 * ((256 ^ (k - 1) : Nat) : Int)
def isz (z : Int) (k : Nat) : Prop := 1 ≤ k ∧ fitz z k ∧ (2 ≤ k → ¬ fitz z (k - 1))
theorem sv_fit {g : Nat → Nat} (hg : ∀ i, g i < 256) {n : Nat} (hn : 1 ≤ n) : fitz (sv g n) n := by
  obtain ⟨k, rfl⟩ : ∃ k, n = k + 1 := ⟨n - 1, by omega⟩
  have h1 := bv_lt hg k
  have h2 := hg k
  unfold fitz sv
  rw [Nat.add_sub_cancel, bv_s, pw_s]
  generalize 256 ^ k = P at *
  by_cases h : 128 ≤ g k
  · rw [if_pos h]
    have a : 128 * P ≤ g k * P := Nat.mul_le_mul_right _ h
    have b : g k * P ≤ 255 * P := Nat.mul_le_mul_right _ (by omega)
    generalize g k * P = G at *
    omega
  · rw [if_neg h]
    have b : g k * P ≤ 127 * P := Nat.mul_le_mul_right _ (by omega)
    generalize g k * P = G at *
    omega
theorem and128 : ∀ a, a < 256 → (nI a &&& 128 = if 128 ≤ a then 128 else 0) := by decide +kernel
theorem sv_step {g : Nat → Nat} {n fl : Nat} (hn : 2 ≤ n) (hf : (fl = 255 ∧ 128 ≤ g (n - 2)) ∨ (fl = 0 ∧ g (n - 2) < 128)) (h : g (n - 1) = fl) : sv g (n - 1) = sv g n := by
  obtain ⟨k, rfl⟩ : ∃ k, n = k + 2 := ⟨n - 2, by omega⟩
  have e1 : k + 2 - 1 = k + 1 := rfl
  have e2 : k + 2 - 2 = k := rfl
  rw [e1] at h ⊢
  rw [e2] at hf
  unfold sv
  rw [e1, Nat.add_sub_cancel, show bv g (k + 2) = bv g (k + 1) + g (k + 1) * 256 ^ (k + 1) from rfl, h, pw_s (k + 1)]
  generalize hP : 256 ^ (k + 1) = P
  rcases hf with ⟨rfl, h2⟩ | ⟨rfl, h2⟩
  · rw [if_pos h2, if_pos (by decide)]
    omega
  · rw [if_neg (by omega), if_neg (by decide)]
    omega
theorem few_exit {g : Nat → Nat} (hg : ∀ i, g i < 256) {n fl : Nat} (hn : 1 ≤ n) (hs : (fl = 255 ∧ 128 ≤ g (n - 1)) ∨ (fl = 0 ∧ g (n - 1) < 128))
    (h : n ≤ 1 ∨ g (n - 1) ≠ fl ∨ (fl = 255 ∧ g (n - 2) < 128) ∨ (fl = 0 ∧ 128 ≤ g (n - 2))) : isz (sv g n) n := by
  refine ⟨hn, sv_fit hg hn, fun h2 => ?_⟩
  obtain ⟨k, rfl⟩ : ∃ k, n = k + 2 := ⟨n - 2, by omega⟩
  have e1 : k + 2 - 1 = k + 1 := rfl
  have e2 : k + 2 - 2 = k := rfl
  have e3 : k + 1 - 1 = k := rfl
  rw [e1] at hs h ⊢
  rw [e2] at h
  have h1 := bv_lt hg k
  have b0 := hg k
  have b1 := hg (k + 1)
  unfold fitz sv
  rw [e1, e3, bv_s, bv_s, pw_s (k + 1), pw_s k]
  have hp := pw_pos k
  generalize 256 ^ k = P at *
  generalize g k = a at *
  generalize g (k + 1) = b at *
  have m1 : a * P ≤ 255 * P := Nat.mul_le_mul_right _ (by omega)
  rw [show b * (256 * P) = 256 * (b * P) from by grind]
  rcases hs with ⟨rfl, hb⟩ | ⟨rfl, hb⟩
  · rw [if_pos hb]
    intro ⟨z1, z2⟩
    rcases h with h | h | ⟨-, h⟩ | ⟨h, -⟩
    · omega
    · have m2 : b * P ≤ 254 * P := Nat.mul_le_mul_right _ (by omega)
      generalize a * P = u at *
      generalize b * P = v at *
      omega
    · have m2 : b * P ≤ 255 * P := Nat.mul_le_mul_right _ (by omega)
      have m3 : a * P ≤ 127 * P := Nat.mul_le_mul_right _ (by omega)
      generalize a * P = u at *
      generalize b * P = v at *
      omega
    · omega
  · rw [if_neg (by omega)]
    intro ⟨z1, z2⟩
    rcases h with h | h | ⟨h, -⟩ | ⟨-, h⟩
    · omega
    · have m2 : 1 * P ≤ b * P := Nat.mul_le_mul_right _ (by omega)
      generalize a * P = u at *
      generalize b * P = v at *
      omega
    · omega
    · have m3 : 128 * P ≤ a * P := Nat.mul_le_mul_right _ (by omega)
      generalize a * P = u at *
      generalize b * P = v at *
      omega
theorem isz_uniq {z : Int} {a b : Nat} (ha : isz z a) (hb : isz z b) : a = b := by
  have key : ∀ {a b : Nat}, isz z a → isz z b → ¬ a < b := by
    intro a b ha hb h
    have h2 := hb.2.2 (by have := ha.1; omega)
    apply h2
    have ha1 := ha.1
    obtain ⟨l1, l2⟩ := ha.2.1
    have m : 256 ^ (a - 1) ≤ 256 ^ (b - 1 - 1) := Nat.pow_le_pow_right (by decide) (by omega)
    generalize 256 ^ (a - 1) = u at *
    generalize hv : 256 ^ (b - 1 - 1) = v at *
    refine ⟨?_, ?_⟩ <;> rw [hv] <;> omega
  have h1 := key ha hb
  have h2 := key hb ha
  omega
