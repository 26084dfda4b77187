theorem vi_neg {i : Int32} {n : Nat} (h : i < 0) : ¬ vp_in i n := fun hh => hh (Or.inl h)
theorem vi_ge {i : Int32} {n : Nat} (hn : n < 2 ^ 31) (h : nI n ≤ i) : ¬ vp_in i n := by
  rw [vp_in_iff]
  have h1 : (nI n).toInt ≤ i.toInt := Int32.le_iff_toInt_le.mp h
  rw [nI_toInt hn] at h1
  omega
theorem vi_lt {i : Int32} {n : Nat} (h0 : ¬ i < 0) (hn : n < 2 ^ 31) (h : ¬ nI n ≤ i) : vp_in i n := by
  rw [vp_in_iff]
  have h1 : ¬ i.toInt < (0 : Int32).toInt := fun z => h0 (Int32.lt_iff_toInt_lt.mpr z)
  have h2 : ¬ (nI n).toInt ≤ i.toInt := fun z => h (Int32.le_iff_toInt_le.mpr z)
  rw [nI_toInt hn] at h2
  have h3 : (0 : Int32).toInt = 0 := by decide
  omega
theorem vi_mono {i : Int32} {n L : Nat} (h : vp_in i n) (hL : n ≤ L) : vp_in i L := by
  rw [vp_in_iff] at h ⊢
  omega
theorem nI_le1 {k : Nat} (hk : k < 2 ^ 31) : nI k ≤ 1 ↔ k ≤ 1 := nI_leI (b := 1) hk (by decide)
theorem nI_m1 {k : Nat} (h : 1 ≤ k) : nI k - 1 = nI (k - 1) := pk_sub (b := 1) h
theorem nI_m2 {k : Nat} (h : 2 ≤ k) : nI k - 2 = nI (k - 2) := pk_sub (b := 2) h
theorem nI_lt1 {k : Nat} (h : 1 ≤ k) (hk : k < 2 ^ 31) : ¬ nI k < 1 := nI_nlt (b := 1) h hk
theorem nI_d2 {k : Nat} (hk : k < 2 ^ 31) : nI k / 2 = nI (k / 2) := pk_div (d := 2) hk (by decide) (by decide)
theorem ite_r {r : Int32} {P : Prop} (h : (r = 1 ∧ P) ∨ (r = 0 ∧ ¬ P)) (h0 : r = 0) : ¬ P := by
  rcases h with ⟨h, _⟩ | ⟨_, h⟩
  · rw [h] at h0; exact absurd h0 (by decide)
  · exact h
theorem ite_s {r : Int32} {P : Prop} (h : (r = 1 ∧ P) ∨ (r = 0 ∧ ¬ P)) (h0 : ¬ r = 0) : P := by
  rcases h with ⟨_, h⟩ | ⟨h, _⟩
  · exact h
  · exact absurd h h0
theorem upd_at {f : Nat → Int32} {k : Nat} {x : Int32} (h : k < 2 ^ 31) : upd f (nI k).toNatClampNeg x = upd f k x := by rw [nI_clamp h]
theorem at_nI {f : Nat → Int32} {k : Nat} (h : k < 2 ^ 31) : f (nI k).toNatClampNeg = f k := by rw [nI_clamp h]
