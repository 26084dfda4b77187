def RK (n : Nat) (g z g' z' : Nat → Nat) : Prop := XK n g z ∧ XM n g' z' ∧ ∀ a, a < n → nval g z a = mval g' z' a
def RD (n : Nat) (d d' : Nat → Nat) : Prop := n ≤ 480 ∧ (∀ j, d j < 10) ∧ (∀ j, d' j < 10) ∧ ∀ j, j < n → d j = d' j
def RB (n : Nat) (d d' : Nat → Nat) : Prop := n ≤ 200 ∧ (∀ j, d j < 256) ∧ (∀ j, d' j < 256) ∧ ∀ j, j < n → d j = d' j
def RO (n : Nat) (d d' : Nat → Nat) : Prop := n ≤ 487 ∧ (∀ j, d j < 256) ∧ (∀ j, d' j < 256) ∧ (∀ j, j < n → d j = d' j) ∧ (n ≤ 229 ∨ ∀ j, j < n → d' j < 128)
theorem bv_inj {u v : Nat → Nat} (hu : ∀ j, u j < 256) (hv : ∀ j, v j < 256) : ∀ n, bv u n = bv v n → ∀ j, j < n → u j = v j := by
  intro n
  induction n with
  | zero => intro _ j hj; omega
  | succ n ih =>
    intro h j hj
    rw [bv_s, bv_s] at h
    have h1 := bv_lt hu n
    have h2 := bv_lt hv n
    have hn : u n = v n := by
      have a1 : (bv u n + u n * 256 ^ n) / 256 ^ n = u n := by rw [Nat.add_mul_div_right _ _ (pw_pos n), Nat.div_eq_of_lt h1, Nat.zero_add]
      have a2 : (bv v n + v n * 256 ^ n) / 256 ^ n = v n := by rw [Nat.add_mul_div_right _ _ (pw_pos n), Nat.div_eq_of_lt h2, Nat.zero_add]
      rw [← a1, h, a2]
    by_cases e : j = n
    · rw [e, hn]
    · rw [hn] at h
      exact ih (by omega) j (by omega)
theorem sv_inj {u v : Nat → Nat} {n : Nat} (hu : ∀ j, u j < 256) (hv : ∀ j, v j < 256) (h : sv u n = sv v n) : ∀ j, j < n → u j = v j := by
  refine bv_inj hu hv n ?_
  have h1 := bv_lt hu n
  have h2 := bv_lt hv n
  unfold sv at h
  generalize 256 ^ n = P at *
  split at h <;> split at h <;> omega
theorem rk_z {n a : Nat} {g z g' z' : Nat → Nat} (h : RK n g z g' z') (ha : a < n) : z a = z' a := by
  obtain ⟨h1, h2, h3⟩ := h
  have q1 := h1.2.2.2 a ha
  have q2 := h2.2.2.2 a ha
  rw [h3 a ha] at q1
  exact isz_uniq q1 q2
theorem rk_b {n a i : Nat} {g z g' z' : Nat → Nat} (h : RK n g z g' z') (ha : a < n) (hi : i < z a) : g (a * 200 + (z a - 1 - i)) = g' (200 * a + i) := by
  have hz := rk_z h ha
  obtain ⟨h1, h2, h3⟩ := h
  have e := h3 a ha
  unfold nval mval at e
  rw [← hz] at e
  have q := sv_inj (fun j => h1.1 _) (fun j => h2.1 _) e (z a - 1 - i) (by omega)
  rw [q, show z a - 1 - (z a - 1 - i) = i from by omega]
theorem rk_0 {n : Nat} {g z g' z' : Nat → Nat} (h : RK n g z g' z') : RK 0 g z g' z' :=
  ⟨⟨h.1.1, by omega, fun a ha => absurd ha (by omega), fun a ha => absurd ha (by omega)⟩, ⟨h.2.1.1, by omega, fun a ha => absurd ha (by omega), fun a ha => absurd ha (by omega)⟩, fun a ha => absurd ha (by omega)⟩
theorem rk_kept {n : Nat} {g z g' z' g3 z3 g3' z3' : Nat → Nat} {y y' : Int} {r r' : Int32} (h : RK n g z g' z') (e : y = y') (h1 : KEPT n g z g3 z3 y r) (h2 : KEPTM n g' z' g3' z3' y' r') : r = r' ∧ RK (n + 1) g3 z3 g3' z3' := by
  obtain ⟨a1, a2, a3, a4, a5, a6⟩ := h1
  obtain ⟨b1, b2, b3, b4, b5, b6⟩ := h2
  refine ⟨a1.trans b1.symm, a4, b4, fun a ha => ?_⟩
  by_cases c : a = n
  · rw [c, a6, b6, e]
  · rw [(a5 a (by omega)).1, (b5 a (by omega)).1]; exact h.2.2 a (by omega)
theorem kept_no {n : Nat} {g z g3 z3 : Nat → Nat} {y y' : Int} {r : Int32} (e : y = y') (h1 : KEPT n g z g3 z3 y r) (h2 : NOKEEP n y') : False := by
  obtain ⟨a1, a2, ⟨k, a3, a4⟩, _⟩ := h1
  rcases h2 with h2 | ⟨k2, h2, h3⟩
  · omega
  · rw [← e] at h2
    have := isz_uniq a3 h2
    omega
theorem keptm_no {n : Nat} {g z g3 z3 : Nat → Nat} {y y' : Int} {r : Int32} (e : y = y') (h1 : KEPTM n g z g3 z3 y r) (h2 : NOKEEP n y') : False := by
  obtain ⟨a1, a2, ⟨k, a3, a4⟩, _⟩ := h1
  rcases h2 with h2 | ⟨k2, h2, h3⟩
  · omega
  · rw [← e] at h2
    have := isz_uniq a3 h2
    omega
theorem ru3 {r th r' : Int32} {n n3 n3' : Nat} {g z g3 z3 g' z' g3' z3' : Nat → Nat} {fo : Nat → Int64} {B N B' K' N' : Prop} {K : Int32 → Prop} (hR : RK n g z g' z')
    (hc : (r = 1 ∧ n3 = n ∧ g3 = g ∧ z3 = z ∧ B) ∨ (r = 0 ∧ n3 = n + 1 ∧ ∃ vR : Int32, fo 0 = vR.toInt64 ∧ K vR) ∨ (r = 2 ∧ n3 = n ∧ g3 = g ∧ z3 = z ∧ N))
    (hm : (th = 1 ∧ n3' = n ∧ g3' = g' ∧ z3' = z' ∧ B') ∨ (th = 0 ∧ n3' = n + 1 ∧ K') ∨ (th = 2 ∧ n3' = n ∧ g3' = g' ∧ z3' = z' ∧ N'))
    (bk : B → K' → False) (bn : B → N' → False) (kb : ∀ v, K v → B' → False) (kn : ∀ v, K v → N' → False) (nb : N → B' → False) (nk : N → K' → False) (kk : ∀ v, K v → K' → v = r' ∧ RK (n + 1) g3 z3 g3' z3') :
    r = th ∧ (r = 0 → fo 0 = r'.toInt64) ∧ n3' = n3 ∧ RK n3 g3 z3 g3' z3' := by
  rcases hc with ⟨a1, a2, a3, a4, a5⟩ | ⟨a1, a2, v, a3, a4⟩ | ⟨a1, a2, a3, a4, a5⟩ <;> rcases hm with ⟨b1, b2, b3, b4, b5⟩ | ⟨b1, b2, b3⟩ | ⟨b1, b2, b3, b4, b5⟩
  · subst a1 a2 a3 a4 b1 b2 b3 b4
    exact ⟨rfl, fun y => absurd y (by decide), rfl, hR⟩
  · exact (bk a5 b3).elim
  · exact (bn a5 b5).elim
  · exact (kb v a4 b5).elim
  · obtain ⟨c1, c2⟩ := kk v a4 b3
    subst a1 a2 b1 b2 c1
    exact ⟨rfl, fun _ => a3, rfl, c2⟩
  · exact (kn v a4 b5).elim
  · exact (nb a5 b5).elim
  · exact (nk a5 b3).elim
  · subst a1 a2 a3 a4 b1 b2 b3 b4
    exact ⟨rfl, fun y => absurd y (by decide), rfl, hR⟩
theorem ix_eq {a b n m : Nat} {x : Int32} (h1 : x = nI a) (h2 : x = nI b) (ha : a < n) (hb : b < m) (hn : n ≤ 500) (hm : m ≤ 500) : a = b := (nI_eq (by omega) (by omega)).mp (h1.symm.trans h2)
theorem ix_in {a n : Nat} {x : Int32} (h1 : x = nI a) (ha : a < n) (hn : n ≤ 500) : vp_in x n := by rw [h1]; exact vp_in_nI ha (by omega)
theorem ru_sum {r th r' a9 b9 mi : Int32} {n n3 n3' : Nat} {g z g3 z3 g' z' g3' z3' : Nat → Nat} {fo : Nat → Int64} (hR : RK n g z g' z')
    (hc : (r = 1 ∧ n3 = n ∧ g3 = g ∧ z3 = z ∧ ¬ (vp_in a9 n ∧ vp_in b9 n)) ∨ (r = 0 ∧ n3 = n + 1 ∧ ∃ vR : Int32, fo 0 = vR.toInt64 ∧ ∃ a b, a9 = nI a ∧ a < n ∧ b9 = nI b ∧ b < n ∧ KEPT n g z g3 z3 (nval g z a + (if mi = 0 then 1 else -1) * nval g z b) vR) ∨ (r = 2 ∧ n3 = n ∧ g3 = g ∧ z3 = z ∧ ∃ a b, a9 = nI a ∧ a < n ∧ b9 = nI b ∧ b < n ∧ NOKEEP n (nval g z a + (if mi = 0 then 1 else -1) * nval g z b)))
    (hm : (th = 1 ∧ n3' = n ∧ g3' = g' ∧ z3' = z' ∧ ¬ (vp_in a9 n ∧ vp_in b9 n)) ∨ (th = 0 ∧ n3' = n + 1 ∧ ∃ a b, a9 = nI a ∧ a < n ∧ b9 = nI b ∧ b < n ∧ KEPTM n g' z' g3' z3' (mval g' z' a + (if mi = 0 then 1 else -1) * mval g' z' b) r') ∨ (th = 2 ∧ n3' = n ∧ g3' = g' ∧ z3' = z' ∧ ∃ a b, a9 = nI a ∧ a < n ∧ b9 = nI b ∧ b < n ∧ NOKEEP n (mval g' z' a + (if mi = 0 then 1 else -1) * mval g' z' b))) :
    r = th ∧ (r = 0 → fo 0 = r'.toInt64) ∧ n3' = n3 ∧ RK n3 g3 z3 g3' z3' := by
  have hn : n ≤ 40 := hR.1.2.1
  have key : ∀ {a b a2 b2 : Nat}, a9 = nI a → a < n → b9 = nI b → b < n → a9 = nI a2 → a2 < n → b9 = nI b2 → b2 < n → nval g z a + (if mi = 0 then 1 else -1) * nval g z b = mval g' z' a2 + (if mi = 0 then 1 else -1) * mval g' z' b2 := by
    intro a b a2 b2 e1 e2 e3 e4 f1 f2 f3 f4
    rw [ix_eq e1 f1 e2 f2 (by omega) (by omega), ix_eq e3 f3 e4 f4 (by omega) (by omega), hR.2.2 a2 f2, hR.2.2 b2 f4]
  refine ru3 hR hc hm ?_ ?_ ?_ ?_ ?_ ?_ ?_
  · rintro h ⟨a, b, e1, e2, e3, e4, _⟩; exact h ⟨ix_in e1 e2 (by omega), ix_in e3 e4 (by omega)⟩
  · rintro h ⟨a, b, e1, e2, e3, e4, _⟩; exact h ⟨ix_in e1 e2 (by omega), ix_in e3 e4 (by omega)⟩
  · rintro v ⟨a, b, e1, e2, e3, e4, _⟩ h; exact h ⟨ix_in e1 e2 (by omega), ix_in e3 e4 (by omega)⟩
  · rintro v ⟨a, b, e1, e2, e3, e4, e5⟩ ⟨a2, b2, f1, f2, f3, f4, f5⟩; exact kept_no (key e1 e2 e3 e4 f1 f2 f3 f4) e5 f5
  · rintro ⟨a, b, e1, e2, e3, e4, _⟩ h; exact h ⟨ix_in e1 e2 (by omega), ix_in e3 e4 (by omega)⟩
  · rintro ⟨a, b, e1, e2, e3, e4, e5⟩ ⟨a2, b2, f1, f2, f3, f4, f5⟩; exact keptm_no (key e1 e2 e3 e4 f1 f2 f3 f4).symm f5 e5
  · rintro v ⟨a, b, e1, e2, e3, e4, e5⟩ ⟨a2, b2, f1, f2, f3, f4, f5⟩; exact rk_kept hR (key e1 e2 e3 e4 f1 f2 f3 f4) e5 f5
theorem ru_grow {r th r' a9 v9 u9 : Int32} {n n3 n3' : Nat} {g z g3 z3 g' z' g3' z3' : Nat → Nat} {fo : Nat → Int64} (hR : RK n g z g' z')
    (hc : (r = 1 ∧ n3 = n ∧ g3 = g ∧ z3 = z ∧ ¬ vp_in a9 n) ∨ (r = 0 ∧ n3 = n + 1 ∧ ∃ vR : Int32, fo 0 = vR.toInt64 ∧ ∃ a, a9 = nI a ∧ a < n ∧ KEPT n g z g3 z3 (nval g z a * v9.toInt + u9.toInt) vR) ∨ (r = 2 ∧ n3 = n ∧ g3 = g ∧ z3 = z ∧ ∃ a, a9 = nI a ∧ a < n ∧ NOKEEP n (nval g z a * v9.toInt + u9.toInt)))
    (hm : (th = 1 ∧ n3' = n ∧ g3' = g' ∧ z3' = z' ∧ ¬ vp_in a9 n) ∨ (th = 0 ∧ n3' = n + 1 ∧ ∃ a, a9 = nI a ∧ a < n ∧ KEPTM n g' z' g3' z3' (mval g' z' a * v9.toInt + u9.toInt) r') ∨ (th = 2 ∧ n3' = n ∧ g3' = g' ∧ z3' = z' ∧ ∃ a, a9 = nI a ∧ a < n ∧ NOKEEP n (mval g' z' a * v9.toInt + u9.toInt))) :
    r = th ∧ (r = 0 → fo 0 = r'.toInt64) ∧ n3' = n3 ∧ RK n3 g3 z3 g3' z3' := by
  have hn : n ≤ 40 := hR.1.2.1
  have key : ∀ {a a2 : Nat}, a9 = nI a → a < n → a9 = nI a2 → a2 < n → nval g z a * v9.toInt + u9.toInt = mval g' z' a2 * v9.toInt + u9.toInt := by
    intro a a2 e1 e2 f1 f2
    rw [ix_eq e1 f1 e2 f2 (by omega) (by omega), hR.2.2 a2 f2]
  refine ru3 hR hc hm ?_ ?_ ?_ ?_ ?_ ?_ ?_
  · rintro h ⟨a, e1, e2, _⟩; exact h (ix_in e1 e2 (by omega))
  · rintro h ⟨a, e1, e2, _⟩; exact h (ix_in e1 e2 (by omega))
  · rintro v ⟨a, e1, e2, _⟩ h; exact h (ix_in e1 e2 (by omega))
  · rintro v ⟨a, e1, e2, e5⟩ ⟨a2, f1, f2, f5⟩; exact kept_no (key e1 e2 f1 f2) e5 f5
  · rintro ⟨a, e1, e2, _⟩ h; exact h (ix_in e1 e2 (by omega))
  · rintro ⟨a, e1, e2, e5⟩ ⟨a2, f1, f2, f5⟩; exact keptm_no (key e1 e2 f1 f2).symm f5 e5
  · rintro v ⟨a, e1, e2, e5⟩ ⟨a2, f1, f2, f5⟩; exact rk_kept hR (key e1 e2 f1 f2) e5 f5
theorem dval_cg {d d' : Nat → Nat} : ∀ n, (∀ j, j < n → d j = d' j) → dval d n = dval d' n := by
  intro n
  induction n with
  | zero => intro _; rfl
  | succ n ih =>
    intro h
    show dval d n * 10 + d n = dval d' n * 10 + d' n
    rw [ih (fun j hj => h j (by omega)), h n (by omega)]
theorem ru_number {r th r' m9 : Int32} {n n3 n3' dn dn3 dn3' : Nat} {g z g3 z3 g' z' g3' z3' dg dg' : Nat → Nat} {fo : Nat → Int64} (hR : RK n g z g' z') (hD : RD dn dg dg')
    (hc : dn3 = 0 ∧ ((r = 1 ∧ n3 = n ∧ g3 = g ∧ z3 = z ∧ dn = 0) ∨ (r = 0 ∧ n3 = n + 1 ∧ ∃ vR : Int32, fo 0 = vR.toInt64 ∧ 1 ≤ dn ∧ KEPT n g z g3 z3 (if m9 = 0 then (dval dg dn : Int) else -(dval dg dn : Int)) vR) ∨ (r = 2 ∧ n3 = n ∧ g3 = g ∧ z3 = z ∧ 1 ≤ dn ∧ NOKEEP n (if m9 = 0 then (dval dg dn : Int) else -(dval dg dn : Int)))))
    (hm : dn3' = 0 ∧ ((th = 1 ∧ n3' = n ∧ g3' = g' ∧ z3' = z' ∧ dn = 0) ∨ (th = 0 ∧ n3' = n + 1 ∧ 1 ≤ dn ∧ KEPTM n g' z' g3' z3' (if m9 = 0 then (dval dg' dn : Int) else -(dval dg' dn : Int)) r') ∨ (th = 2 ∧ n3' = n ∧ g3' = g' ∧ z3' = z' ∧ 1 ≤ dn ∧ NOKEEP n (if m9 = 0 then (dval dg' dn : Int) else -(dval dg' dn : Int))))) :
    (r = th ∧ (r = 0 → fo 0 = r'.toInt64) ∧ n3' = n3 ∧ RK n3 g3 z3 g3' z3') ∧ dn3' = dn3 ∧ RD dn3 dg dg' := by
  have key : (if m9 = 0 then (dval dg dn : Int) else -(dval dg dn : Int)) = (if m9 = 0 then (dval dg' dn : Int) else -(dval dg' dn : Int)) := by rw [dval_cg dn hD.2.2.2]
  obtain ⟨hc0, hc⟩ := hc
  obtain ⟨hm0, hm⟩ := hm
  refine ⟨ru3 hR hc hm ?_ ?_ ?_ ?_ ?_ ?_ ?_, hm0.trans hc0.symm, by omega, hD.2.1, hD.2.2.1, fun j hj => absurd hj (by omega)⟩
  · rintro h ⟨a, _⟩; omega
  · rintro h ⟨a, _⟩; omega
  · rintro v ⟨a, _⟩ h; omega
  · rintro v ⟨a, b⟩ ⟨c, d⟩; exact kept_no key b d
  · rintro ⟨a, _⟩ h; omega
  · rintro ⟨a, b⟩ ⟨c, d⟩; exact keptm_no key.symm d b
  · rintro v ⟨a, b⟩ ⟨c, d⟩; exact rk_kept hR key b d
theorem gr_cg {n : Nat} {d d' : Nat → Nat} (h : ∀ j, j < n → d j = d' j) : GR n d → GR n d' := by
  rintro ⟨a, b, c⟩
  exact ⟨a, by rw [← h 0 (by omega)]; exact b, fun i hi => by rw [← h i hi]; exact c i hi⟩
theorem hn7_cg {d d' : Nat → Nat} : ∀ n, (∀ j, j < n → d j = d' j) → hn7 d n = hn7 d' n := by
  intro n
  induction n with
  | zero => intro _; rfl
  | succ n ih =>
    intro h
    show hn7 d n * 128 + d n % 128 = hn7 d' n * 128 + d' n % 128
    rw [ih (fun j hj => h j (by omega)), h n (by omega)]
theorem ru_back {r th r' : Int32} {n n3 n3' wn : Nat} {g z g3 z3 g' z' g3' z3' wr wr' : Nat → Nat} {fo : Nat → Int64} (hR : RK n g z g' z') (hO : RO wn wr wr')
    (hc : (r = 1 ∧ n3 = n ∧ g3 = g ∧ z3 = z ∧ ¬ (wn ≤ 229 ∧ GR wn wr)) ∨ (r = 0 ∧ n3 = n + 1 ∧ ∃ vR : Int32, fo 0 = vR.toInt64 ∧ (wn ≤ 229 ∧ GR wn wr) ∧ KEPT n g z g3 z3 (hn7 wr wn) vR) ∨ (r = 2 ∧ n3 = n ∧ g3 = g ∧ z3 = z ∧ (wn ≤ 229 ∧ GR wn wr) ∧ NOKEEP n (hn7 wr wn)))
    (hm : (th = 1 ∧ n3' = n ∧ g3' = g' ∧ z3' = z' ∧ ¬ (wn ≤ 229 ∧ GR wn wr')) ∨ (th = 0 ∧ n3' = n + 1 ∧ (wn ≤ 229 ∧ GR wn wr') ∧ KEPTM n g' z' g3' z3' (hn7 wr' wn) r') ∨ (th = 2 ∧ n3' = n ∧ g3' = g' ∧ z3' = z' ∧ (wn ≤ 229 ∧ GR wn wr') ∧ NOKEEP n (hn7 wr' wn))) :
    r = th ∧ (r = 0 → fo 0 = r'.toInt64) ∧ n3' = n3 ∧ RK n3 g3 z3 g3' z3' := by
  have e := hO.2.2.2.1
  have key : (hn7 wr wn : Int) = (hn7 wr' wn : Int) := by rw [hn7_cg wn e]
  have e1 : GR wn wr → GR wn wr' := gr_cg e
  have e2 : GR wn wr' → GR wn wr := gr_cg (fun j hj => (e j hj).symm)
  refine ru3 hR hc hm ?_ ?_ ?_ ?_ ?_ ?_ ?_
  · rintro h ⟨a, _⟩; exact h ⟨a.1, e2 a.2⟩
  · rintro h ⟨a, _⟩; exact h ⟨a.1, e2 a.2⟩
  · rintro v ⟨a, _⟩ h; exact h ⟨a.1, e1 a.2⟩
  · rintro v ⟨a, b⟩ ⟨c, d⟩; exact kept_no key b d
  · rintro ⟨a, _⟩ h; exact h ⟨a.1, e1 a.2⟩
  · rintro ⟨a, b⟩ ⟨c, d⟩; exact keptm_no key.symm d b
  · rintro v ⟨a, b⟩ ⟨c, d⟩; exact rk_kept hR key b d
theorem ru_contents {r th r' : Int32} {n n3 n3' bn bn3 : Nat} {g z g3 z3 g' z' g3' z3' by9 by9' : Nat → Nat} {fo : Nat → Int64} (hR : RK n g z g' z') (hB : RB bn by9 by9')
    (hc : bn3 = 0 ∧ ((r = 1 ∧ n3 = n ∧ g3 = g ∧ z3 = z ∧ bn = 0) ∨ (r = 2 ∧ n3 = n ∧ g3 = g ∧ z3 = z ∧ 1 ≤ bn ∧ ¬ isz (sv (fun j => by9 (bn - 1 - j)) bn) bn) ∨ (r = 0 ∧ n3 = n + 1 ∧ ∃ vR : Int32, fo 0 = vR.toInt64 ∧ 1 ≤ bn ∧ isz (sv (fun j => by9 (bn - 1 - j)) bn) bn ∧ KEPT n g z g3 z3 (sv (fun j => by9 (bn - 1 - j)) bn) vR) ∨ (r = 3 ∧ n3 = n ∧ g3 = g ∧ z3 = z ∧ 1 ≤ bn ∧ isz (sv (fun j => by9 (bn - 1 - j)) bn) bn ∧ NOKEEP n (sv (fun j => by9 (bn - 1 - j)) bn))))
    (hm : (th = 1 ∧ n3' = n ∧ g3' = g' ∧ z3' = z' ∧ bn = 0) ∨ (th = 2 ∧ n3' = n ∧ g3' = g' ∧ z3' = z' ∧ 1 ≤ bn ∧ ¬ isz (sv (fun j => by9' (bn - 1 - j)) bn) bn) ∨ (th = 0 ∧ n3' = n + 1 ∧ 1 ≤ bn ∧ isz (sv (fun j => by9' (bn - 1 - j)) bn) bn ∧ KEPTM n g' z' g3' z3' (sv (fun j => by9' (bn - 1 - j)) bn) r') ∨ (th = 3 ∧ n3' = n ∧ g3' = g' ∧ z3' = z' ∧ 1 ≤ bn ∧ isz (sv (fun j => by9' (bn - 1 - j)) bn) bn ∧ NOKEEP n (sv (fun j => by9' (bn - 1 - j)) bn))) :
    (r = th ∧ (r = 0 → fo 0 = r'.toInt64) ∧ n3' = n3 ∧ RK n3 g3 z3 g3' z3') ∧ bn3 = 0 ∧ RB 0 by9 by9' := by
  obtain ⟨hc0, hc⟩ := hc
  refine ⟨?_, hc0, by omega, hB.2.1, hB.2.2.1, fun j hj => absurd hj (by omega)⟩
  by_cases h0 : bn = 0
  · rcases hc with ⟨a1, a2, a3, a4, a5⟩ | ⟨a1, a2, a3, a4, a5, _⟩ | ⟨a1, a2, v, a3, a4, _⟩ | ⟨a1, a2, a3, a4, a5, _⟩
    · rcases hm with ⟨b1, b2, b3, b4, b5⟩ | ⟨b1, b2, b3, b4, b5, _⟩ | ⟨b1, b2, b4, _⟩ | ⟨b1, b2, b3, b4, b5, _⟩
      · subst a1 a2 a3 a4 b1 b2 b3 b4
        exact ⟨rfl, fun y => absurd y (by decide), rfl, hR⟩
      · omega
      · omega
      · omega
    · omega
    · omega
    · omega
  · have key : sv (fun j => by9 (bn - 1 - j)) bn = sv (fun j => by9' (bn - 1 - j)) bn := sv_congr (by omega) (fun j hj => hB.2.2.2 _ (by omega))
    rw [← key] at hm
    rcases hc with ⟨a1, a2, a3, a4, a5⟩ | ⟨a1, a2, a3, a4, a5, a6⟩ | ⟨a1, a2, v, a3, a4, a5, a6⟩ | ⟨a1, a2, a3, a4, a5, a6, a7⟩ <;> rcases hm with ⟨b1, b2, b3, b4, b5⟩ | ⟨b1, b2, b3, b4, b5, b6⟩ | ⟨b1, b2, b4, b5, b6⟩ | ⟨b1, b2, b3, b4, b5, b6, b7⟩
    · omega
    · omega
    · omega
    · omega
    · omega
    · subst a1 a2 a3 a4 b1 b2 b3 b4
      exact ⟨rfl, fun y => absurd y (by decide), rfl, hR⟩
    · exact absurd b5 a6
    · exact absurd b6 a6
    · omega
    · exact absurd a5 b6
    · obtain ⟨c1, c2⟩ := rk_kept hR rfl a6 b6
      subst a1 a2 b1 b2 c1
      exact ⟨rfl, fun _ => a3, rfl, c2⟩
    · exact (kept_no rfl a6 b7).elim
    · omega
    · exact absurd a6 b6
    · exact (keptm_no rfl b6 a7).elim
    · subst a1 a2 a3 a4 b1 b2 b3 b4
      exact ⟨rfl, fun y => absurd y (by decide), rfl, hR⟩
theorem dg_uq {v9 n9 : Int32} {v k v2 k2 : Nat} (h : dgood v9 n9 v k) (h2 : dgood v9 n9 v2 k2) : v = v2 ∧ k = k2 := by
  obtain ⟨a1, a2, a3, a4, a5⟩ := h
  obtain ⟨b1, b2, b3, b4, b5⟩ := h2
  have p1 := p10_lt a4
  have p2 := p10_lt b4
  exact ⟨(nI_eq (by omega) (by omega)).mp (a1.symm.trans b1), (nI_eq (by omega) (by omega)).mp (a2.symm.trans b2)⟩
theorem ru_new {dn k : Nat} {dg dg' d3 d3' : Nat → Nat} {F : Nat → Nat} (h : ∀ j, j < dn → dg j = dg' j) (a1 : ∀ j, j < dn → d3 j = dg j) (a2 : ∀ j, j < k → d3 (dn + j) = F j) (b1 : ∀ j, j < dn → d3' j = dg' j) (b2 : ∀ j, j < k → d3' (dn + j) = F j) : ∀ j, j < dn + k → d3 j = d3' j := by
  intro j hj
  rcases Nat.lt_or_ge j dn with c | c
  · rw [a1 j c, b1 j c, h j c]
  · obtain ⟨i, rfl⟩ : ∃ i, j = dn + i := ⟨j - dn, by omega⟩
    rw [a2 i (by omega), b2 i (by omega)]
theorem ru_digits {r th r' v9 n9 : Int32} {dn dn3 dn3' : Nat} {dg dg' dg3 dg3' : Nat → Nat} {fo : Nat → Int64} (hD : RD dn dg dg')
    (hc : (r = 0 ∧ ∃ vR : Int32, fo 0 = vR.toInt64 ∧ ∃ vV kK, dgood v9 n9 vV kK ∧ dn + kK ≤ 480 ∧ dn3 = dn + kK ∧ vR = nI (dn + kK) ∧ (∀ j, dg3 j < 10) ∧ (∀ j, j < dn → dg3 j = dg j) ∧ (∀ j, j < kK → dg3 (dn + j) = vV / 10 ^ (kK - 1 - j) % 10)) ∨ (r = 1 ∧ dn3 = dn ∧ dg3 = dg ∧ ¬ ∃ vV kK, dgood v9 n9 vV kK) ∨ (r = 2 ∧ dn3 = dn ∧ dg3 = dg ∧ ∃ vV kK, dgood v9 n9 vV kK ∧ 480 < dn + kK))
    (hm : (th = 0 ∧ ∃ vV kK, dgood v9 n9 vV kK ∧ dn + kK ≤ 480 ∧ dn3' = dn + kK ∧ r' = nI (dn + kK) ∧ (∀ j, dg3' j < 10) ∧ (∀ j, j < dn → dg3' j = dg' j) ∧ (∀ j, j < kK → dg3' (dn + j) = vV / 10 ^ (kK - 1 - j) % 10)) ∨ (th = 1 ∧ dn3' = dn ∧ dg3' = dg' ∧ ¬ ∃ vV kK, dgood v9 n9 vV kK) ∨ (th = 2 ∧ dn3' = dn ∧ dg3' = dg' ∧ ∃ vV kK, dgood v9 n9 vV kK ∧ 480 < dn + kK)) :
    r = th ∧ (r = 0 → fo 0 = r'.toInt64) ∧ dn3' = dn3 ∧ RD dn3 dg3 dg3' := by
  rcases hc with ⟨a1, w, a2, v, k, a3, a4, a5, a6, a7, a8, a9⟩ | ⟨a1, a2, a3, a4⟩ | ⟨a1, a2, a3, v, k, a4, a5⟩ <;> rcases hm with ⟨b1, v2, k2, b3, b4, b5, b6, b7, b8, b9⟩ | ⟨b1, b2, b3, b4⟩ | ⟨b1, b2, b3, v2, k2, b4, b5⟩
  · obtain ⟨rfl, rfl⟩ := dg_uq a3 b3
    subst a1 a5 a6 b1 b5 b6
    exact ⟨rfl, fun _ => a2, rfl, a4, a7, b7, ru_new hD.2.2.2 a8 a9 b8 b9⟩
  · exact absurd ⟨v, k, a3⟩ b4
  · obtain ⟨rfl, rfl⟩ := dg_uq a3 b4; omega
  · exact absurd ⟨v2, k2, b3⟩ a4
  · subst a1 a2 a3 b1 b2 b3
    exact ⟨rfl, fun y => absurd y (by decide), rfl, hD⟩
  · exact absurd ⟨v2, k2, b4⟩ a4
  · obtain ⟨rfl, rfl⟩ := dg_uq a4 b3; omega
  · exact absurd ⟨v, k, a4⟩ b4
  · subst a1 a2 a3 b1 b2 b3
    exact ⟨rfl, fun y => absurd y (by decide), rfl, hD⟩
theorem ru_bytes {r th r' v9 n9 : Int32} {bn bn3 bn3' : Nat} {by9 by9' by3 by3' : Nat → Nat} {fo : Nat → Int64} (hB : RB bn by9 by9')
    (hc : (r = 0 ∧ ∃ vR : Int32, fo 0 = vR.toInt64 ∧ ∃ kK, n9 = nI kK ∧ 1 ≤ kK ∧ kK ≤ 4 ∧ bn + kK ≤ 200 ∧ bn3 = bn + kK ∧ vR = nI (bn + kK) ∧ (∀ j, by3 j < 256) ∧ (∀ j, j < bn → by3 j = by9 j) ∧ (∀ j, j < kK → by3 (bn + j) = byt v9 (8 * (kK - 1 - j)))) ∨ (r = 1 ∧ bn3 = bn ∧ by3 = by9 ∧ ¬ ∃ kK, n9 = nI kK ∧ 1 ≤ kK ∧ kK ≤ 4) ∨ (r = 2 ∧ bn3 = bn ∧ by3 = by9 ∧ ∃ kK, n9 = nI kK ∧ 1 ≤ kK ∧ kK ≤ 4 ∧ 200 < bn + kK))
    (hm : (th = 0 ∧ ∃ kK, n9 = nI kK ∧ 1 ≤ kK ∧ kK ≤ 4 ∧ bn + kK ≤ 200 ∧ bn3' = bn + kK ∧ r' = nI (bn + kK) ∧ (∀ j, by3' j < 256) ∧ (∀ j, j < bn → by3' j = by9' j) ∧ (∀ j, j < kK → by3' (bn + j) = byt v9 (8 * (kK - 1 - j)))) ∨ (th = 1 ∧ bn3' = bn ∧ by3' = by9' ∧ ¬ ∃ kK, n9 = nI kK ∧ 1 ≤ kK ∧ kK ≤ 4) ∨ (th = 2 ∧ bn3' = bn ∧ by3' = by9' ∧ ∃ kK, n9 = nI kK ∧ 1 ≤ kK ∧ kK ≤ 4 ∧ 200 < bn + kK)) :
    r = th ∧ (r = 0 → fo 0 = r'.toInt64) ∧ bn3' = bn3 ∧ RB bn3 by3 by3' := by
  rcases hc with ⟨a1, w, a2, k, x1, x2, x3, a4, a5, a6, a7, a8, a9⟩ | ⟨a1, a2, a3, a4⟩ | ⟨a1, a2, a3, k, x1, x2, x3, a5⟩ <;> rcases hm with ⟨b1, k2, y1, y2, y3, b4, b5, b6, b7, b8, b9⟩ | ⟨b1, b2, b3, b4⟩ | ⟨b1, b2, b3, k2, y1, y2, y3, b5⟩
  · obtain rfl : k = k2 := (nI_eq (by omega) (by omega)).mp (x1.symm.trans y1)
    subst a1 a5 a6 b1 b5 b6
    exact ⟨rfl, fun _ => a2, rfl, a4, a7, b7, ru_new hB.2.2.2 a8 a9 b8 b9⟩
  · exact absurd ⟨k, x1, x2, x3⟩ b4
  · have : k = k2 := (nI_eq (by omega) (by omega)).mp (x1.symm.trans y1)
    omega
  · exact absurd ⟨k2, y1, y2, y3⟩ a4
  · subst a1 a2 a3 b1 b2 b3
    exact ⟨rfl, fun y => absurd y (by decide), rfl, hB⟩
  · exact absurd ⟨k2, y1, y2, y3⟩ a4
  · have : k = k2 := (nI_eq (by omega) (by omega)).mp (x1.symm.trans y1)
    omega
  · exact absurd ⟨k, x1, x2, x3⟩ b4
  · subst a1 a2 a3 b1 b2 b3
    exact ⟨rfl, fun y => absurd y (by decide), rfl, hB⟩
theorem ru_size {r th r' a9 : Int32} {n : Nat} {g z g' z' : Nat → Nat} {fo : Nat → Int64} (hR : RK n g z g' z') (hc : (r = 0 ∧ ∃ vR : Int32, fo 0 = vR.toInt64 ∧ ∃ a, a9 = nI a ∧ a < n ∧ vR = nI (z a)) ∨ (r = 1 ∧ ¬ vp_in a9 n))
    (hm : (th = 0 ∧ ∃ a, a9 = nI a ∧ a < n ∧ r' = nI (z' a)) ∨ (th = 1 ∧ ¬ vp_in a9 n)) : r = th ∧ (r = 0 → fo 0 = r'.toInt64) := by
  have hn : n ≤ 40 := hR.1.2.1
  rcases hc with ⟨a1, v, a2, a, a3, a4, a5⟩ | ⟨a1, a2⟩ <;> rcases hm with ⟨b1, a', b3, b4, b5⟩ | ⟨b1, b2⟩
  · obtain rfl := ix_eq a3 b3 a4 b4 (by omega) (by omega)
    exact ⟨a1.trans b1.symm, fun _ => by rw [a2, a5, b5, rk_z hR a4]⟩
  · exact absurd (ix_in a3 a4 (by omega)) b2
  · exact absurd (ix_in b3 b4 (by omega)) a2
  · exact ⟨a1.trans b1.symm, fun y => absurd (a1.symm.trans y) (by decide)⟩
theorem ru_byteAt {r th r' a9 i9 : Int32} {n : Nat} {g z g' z' : Nat → Nat} {fo : Nat → Int64} (hR : RK n g z g' z') (hc : (r = 0 ∧ ∃ vR : Int32, fo 0 = vR.toInt64 ∧ ∃ a i, a9 = nI a ∧ a < n ∧ i9 = nI i ∧ i < z a ∧ vR = nI (g (a * 200 + (z a - 1 - i)))) ∨ (r = 1 ∧ ¬ ∃ a i, a9 = nI a ∧ a < n ∧ i9 = nI i ∧ i < z a))
    (hm : (th = 0 ∧ ∃ a i, a9 = nI a ∧ a < n ∧ i9 = nI i ∧ i < z' a ∧ r' = nI (g' (200 * a + i))) ∨ (th = 1 ∧ ¬ ∃ a i, a9 = nI a ∧ a < n ∧ i9 = nI i ∧ i < z' a)) : r = th ∧ (r = 0 → fo 0 = r'.toInt64) := by
  have hn : n ≤ 40 := hR.1.2.1
  rcases hc with ⟨a1, v, a2, a, i, a3, a4, a5, a6, a7⟩ | ⟨a1, a2⟩ <;> rcases hm with ⟨b1, a', i', b3, b4, b5, b6, b7⟩ | ⟨b1, b2⟩
  · obtain rfl := ix_eq a3 b3 a4 b4 (by omega) (by omega)
    have hz := hR.1.2.2.1 a a4
    have hz2 := hR.2.1.2.2.1 a a4
    obtain rfl := ix_eq a5 b5 a6 b6 (by omega) (by omega)
    exact ⟨a1.trans b1.symm, fun _ => by rw [a2, a7, b7, rk_b hR a4 a6]⟩
  · exact absurd ⟨a, i, a3, a4, a5, by rw [← rk_z hR a4]; exact a6⟩ b2
  · exact absurd ⟨a', i', b3, b4, b5, by rw [rk_z hR b4]; exact b6⟩ a2
  · exact ⟨a1.trans b1.symm, fun y => absurd (a1.symm.trans y) (by decide)⟩
theorem cmp_uq {x y : Int} {r r' : Int32} (h : CMP x y r) (h2 : CMP x y r') : r = r' := by
  rcases h with ⟨a, b⟩ | ⟨a, b⟩ | ⟨a, b⟩ <;> rcases h2 with ⟨c, d⟩ | ⟨c, d⟩ | ⟨c, d⟩ <;> first | exact a.trans c.symm | (exfalso; omega)
theorem ru_compare {r th r' a9 b9 : Int32} {n : Nat} {g z g' z' : Nat → Nat} {fo : Nat → Int64} (hR : RK n g z g' z') (hc : (r = 0 ∧ ∃ vR : Int32, fo 0 = vR.toInt64 ∧ ∃ a b, a9 = nI a ∧ a < n ∧ b9 = nI b ∧ b < n ∧ CMP (nval g z a) (nval g z b) vR) ∨ (r = 1 ∧ ¬ (vp_in a9 n ∧ vp_in b9 n)))
    (hm : (th = 1 ∧ ¬ (vp_in a9 n ∧ vp_in b9 n)) ∨ (th = 0 ∧ ∃ a b, a9 = nI a ∧ a < n ∧ b9 = nI b ∧ b < n ∧ CMP (mval g' z' a) (mval g' z' b) r')) : r = th ∧ (r = 0 → fo 0 = r'.toInt64) := by
  have hn : n ≤ 40 := hR.1.2.1
  rcases hc with ⟨a1, v, a2, a, b, a3, a4, a5, a6, a7⟩ | ⟨a1, a2⟩ <;> rcases hm with ⟨b1, b2⟩ | ⟨b1, a', b', b3, b4, b5, b6, b7⟩
  · exact absurd ⟨ix_in a3 a4 (by omega), ix_in a5 a6 (by omega)⟩ b2
  · obtain rfl := ix_eq a3 b3 a4 b4 (by omega) (by omega)
    obtain rfl := ix_eq a5 b5 a6 b6 (by omega) (by omega)
    rw [hR.2.2 a a4, hR.2.2 b a6] at a7
    exact ⟨a1.trans b1.symm, fun _ => by rw [a2, cmp_uq a7 b7]⟩
  · exact ⟨a1.trans b1.symm, fun y => absurd (a1.symm.trans y) (by decide)⟩
  · exact absurd ⟨ix_in b3 b4 (by omega), ix_in b5 b6 (by omega)⟩ a2
theorem ru_small {r th r' a9 : Int32} {n : Nat} {g z g' z' : Nat → Nat} {fo : Nat → Int64} (hR : RK n g z g' z') (hc : (r = 0 ∧ ∃ vR : Int32, fo 0 = vR.toInt64 ∧ ∃ a, a9 = nI a ∧ a < n ∧ z a ≤ 4 ∧ vR.toInt = nval g z a) ∨ (r = 1 ∧ ¬ vp_in a9 n) ∨ (r = 2 ∧ ∃ a, a9 = nI a ∧ a < n ∧ 4 < z a))
    (hm : (th = 1 ∧ ¬ vp_in a9 n) ∨ (th = 2 ∧ ∃ a, a9 = nI a ∧ a < n ∧ 4 < z' a) ∨ (th = 0 ∧ ∃ a, a9 = nI a ∧ a < n ∧ z' a ≤ 4 ∧ r'.toInt = mval g' z' a)) : r = th ∧ (r = 0 → fo 0 = r'.toInt64) := by
  have hn : n ≤ 40 := hR.1.2.1
  rcases hc with ⟨a1, v, a2, a, a3, a4, a5, a6⟩ | ⟨a1, a2⟩ | ⟨a1, a, a3, a4, a5⟩ <;> rcases hm with ⟨b1, b2⟩ | ⟨b1, a', b3, b4, b5⟩ | ⟨b1, a', b3, b4, b5, b6⟩
  · exact absurd (ix_in a3 a4 (by omega)) b2
  · obtain rfl := ix_eq a3 b3 a4 b4 (by omega) (by omega)
    have := rk_z hR a4
    omega
  · obtain rfl := ix_eq a3 b3 a4 b4 (by omega) (by omega)
    have e : v = r' := Int32.toInt_inj.mp (by rw [a6, b6, hR.2.2 a a4])
    exact ⟨a1.trans b1.symm, fun _ => by rw [a2, e]⟩
  · exact ⟨a1.trans b1.symm, fun y => absurd (a1.symm.trans y) (by decide)⟩
  · exact absurd (ix_in b3 b4 (by omega)) a2
  · exact absurd (ix_in b3 b4 (by omega)) a2
  · exact absurd (ix_in a3 a4 (by omega)) b2
  · exact ⟨a1.trans b1.symm, fun y => absurd (a1.symm.trans y) (by decide)⟩
  · obtain rfl := ix_eq a3 b3 a4 b4 (by omega) (by omega)
    have := rk_z hR a4
    omega
theorem ru_out {r th r' i9 : Int32} {wn : Nat} {wr wr' : Nat → Nat} {fo : Nat → Int64} (hO : RO wn wr wr') (hc : (r = 0 ∧ ∃ vR : Int32, fo 0 = vR.toInt64 ∧ ∃ i, i9 = nI i ∧ i < wn ∧ vR = nI (wr i)) ∨ (r = 1 ∧ ¬ vp_in i9 wn))
    (hm : (th = 0 ∧ ∃ i, i9 = nI i ∧ i < wn ∧ r' = nI (wr' i)) ∨ (th = 1 ∧ ¬ vp_in i9 wn)) : r = th ∧ (r = 0 → fo 0 = r'.toInt64) := by
  have hn := hO.1
  rcases hc with ⟨a1, v, a2, a, a3, a4, a5⟩ | ⟨a1, a2⟩ <;> rcases hm with ⟨b1, a', b3, b4, b5⟩ | ⟨b1, b2⟩
  · obtain rfl := ix_eq a3 b3 a4 b4 (by omega) (by omega)
    exact ⟨a1.trans b1.symm, fun _ => by rw [a2, a5, b5, hO.2.2.2.1 a a4]⟩
  · exact absurd (ix_in a3 a4 (by omega)) b2
  · exact absurd (ix_in b3 b4 (by omega)) a2
  · exact ⟨a1.trans b1.symm, fun y => absurd (a1.symm.trans y) (by decide)⟩
theorem kd_uq {B N k k2 : Nat} (hB : 0 < B) (h1 : 1 ≤ k) (h2 : N < B ^ k) (h3 : k = 1 ∨ B ^ (k - 1) ≤ N) (g1 : 1 ≤ k2) (g2 : N < B ^ k2) (g3 : k2 = 1 ∨ B ^ (k2 - 1) ≤ N) : k = k2 := by
  rcases Nat.lt_trichotomy k k2 with h | h | h
  · have m := Nat.pow_le_pow_right hB (show k ≤ k2 - 1 by omega)
    rcases g3 with g3 | g3 <;> omega
  · exact h
  · have m := Nat.pow_le_pow_right hB (show k2 ≤ k - 1 by omega)
    rcases h3 with h3 | h3 <;> omega
theorem pr_uq {y : Int} {wn wn' : Nat} {wr wr' : Nat → Nat} (h : PR y wn wr) (h2 : PR y wn' wr') : wn' = wn ∧ wn ≤ 487 ∧ (∀ j, j < wn → wr j = wr' j) ∧ ∀ j, j < wn → wr' j < 128 := by
  obtain ⟨k, a1, a2, a3, a4, a5, a6, a7⟩ := h
  obtain ⟨k2, b1, b2, b3, b4, b5, b6, b7⟩ := h2
  obtain rfl := kd_uq (by decide) a1 a3 a4 b1 b3 b4
  refine ⟨b5.trans a5.symm, by rw [a5]; split <;> omega, fun j hj => ?_, fun j hj => ?_⟩
  · rw [a5] at hj
    by_cases c : y < 0
    · rw [if_pos c] at hj a7 b7
      by_cases d : j = 0
      · rw [d, a6 c, b6 c]
      · obtain ⟨i, rfl⟩ : ∃ i, j = i + 1 := ⟨j - 1, by omega⟩
        rw [a7 i (by omega), b7 i (by omega)]
    · rw [if_neg c] at hj a7 b7
      have q1 := a7 j (by omega)
      have q2 := b7 j (by omega)
      rw [Nat.add_zero] at q1 q2
      rw [q1, q2]
  · rw [a5] at hj
    by_cases c : y < 0
    · rw [if_pos c] at hj b7
      by_cases d : j = 0
      · rw [d, b6 c]; decide
      · obtain ⟨i, rfl⟩ : ∃ i, j = i + 1 := ⟨j - 1, by omega⟩
        rw [b7 i (by omega)]; omega
    · rw [if_neg c] at hj b7
      have q2 := b7 j (by omega)
      rw [Nat.add_zero] at q2
      rw [q2]; omega
theorem gp_uq {N wn wn' : Nat} {wr wr' : Nat → Nat} (h : GP N wn wr) (h2 : GP N wn' wr') : wn' = wn ∧ wn ≤ 229 ∧ (∀ j, j < wn → wr j = wr' j) := by
  obtain ⟨a1, a2, a3, a4, a5⟩ := h
  obtain ⟨b1, b2, b3, b4, b5⟩ := h2
  obtain rfl := kd_uq (by decide) a1 a3 a4 b1 b3 b4
  exact ⟨rfl, a2, fun j hj => by rw [a5 j hj, b5 j hj]⟩
theorem ru_print {r th r' a9 : Int32} {n wn wn3 wn3' : Nat} {g z g' z' wr wr' wr3 wr3' : Nat → Nat} {fo : Nat → Int64} (hR : RK n g z g' z') (hO : RO wn wr wr')
    (hc : (∀ j, wr3 j < 256) ∧ ((r = 0 ∧ ∃ vR : Int32, fo 0 = vR.toInt64 ∧ ∃ a, a9 = nI a ∧ a < n ∧ vR = nI wn3 ∧ PR (nval g z a) wn3 wr3) ∨ (r = 1 ∧ wn3 = wn ∧ wr3 = wr ∧ ¬ vp_in a9 n)))
    (hm : (∀ j, wr3' j < 256) ∧ ((th = 1 ∧ wn3' = wn ∧ wr3' = wr' ∧ ¬ vp_in a9 n) ∨ (th = 0 ∧ ∃ a, a9 = nI a ∧ a < n ∧ r' = nI wn3' ∧ PR (mval g' z' a) wn3' wr3'))) : r = th ∧ (r = 0 → fo 0 = r'.toInt64) ∧ wn3' = wn3 ∧ RO wn3 wr3 wr3' := by
  have hn : n ≤ 40 := hR.1.2.1
  obtain ⟨hc0, hc⟩ := hc
  obtain ⟨hm0, hm⟩ := hm
  rcases hc with ⟨a1, v, a2, a, a3, a4, a5, a6⟩ | ⟨a1, a2, a3, a4⟩ <;> rcases hm with ⟨b1, b2, b3, b4⟩ | ⟨b1, a', b3, b4, b5, b6⟩
  · exact absurd (ix_in a3 a4 (by omega)) b4
  · obtain rfl := ix_eq a3 b3 a4 b4 (by omega) (by omega)
    rw [hR.2.2 a a4] at a6
    obtain ⟨rfl, c2, c3, c4⟩ := pr_uq a6 b6
    exact ⟨a1.trans b1.symm, fun _ => by rw [a2, a5, b5], rfl, c2, hc0, hm0, c3, Or.inr c4⟩
  · subst a2 a3 b2 b3
    exact ⟨a1.trans b1.symm, fun y => absurd (a1.symm.trans y) (by decide), rfl, hO⟩
  · exact absurd (ix_in b3 b4 (by omega)) a4
theorem ru_groups {r th r' a9 : Int32} {n wn wn3 wn3' : Nat} {g z g' z' wr wr' wr3 wr3' : Nat → Nat} {fo : Nat → Int64} (hR : RK n g z g' z') (hO : RO wn wr wr')
    (hc : (∀ j, wr3 j < 256) ∧ ((r = 0 ∧ ∃ vR : Int32, fo 0 = vR.toInt64 ∧ ∃ a, a9 = nI a ∧ a < n ∧ 0 ≤ nval g z a ∧ vR = nI wn3 ∧ GP (nval g z a).natAbs wn3 wr3) ∨ (r = 1 ∧ wn3 = wn ∧ wr3 = wr ∧ ¬ vp_in a9 n) ∨ (r = 2 ∧ wn3 = wn ∧ wr3 = wr ∧ ∃ a, a9 = nI a ∧ a < n ∧ nval g z a < 0)))
    (hm : (∀ j, wr3' j < 256) ∧ ((th = 1 ∧ wn3' = wn ∧ wr3' = wr' ∧ ¬ vp_in a9 n) ∨ (th = 2 ∧ wn3' = wn ∧ wr3' = wr' ∧ ∃ a, a9 = nI a ∧ a < n ∧ mval g' z' a < 0) ∨ (th = 0 ∧ ∃ a, a9 = nI a ∧ a < n ∧ 0 ≤ mval g' z' a ∧ r' = nI wn3' ∧ GP (mval g' z' a).natAbs wn3' wr3'))) : r = th ∧ (r = 0 → fo 0 = r'.toInt64) ∧ wn3' = wn3 ∧ RO wn3 wr3 wr3' := by
  have hn : n ≤ 40 := hR.1.2.1
  obtain ⟨hc0, hc⟩ := hc
  obtain ⟨hm0, hm⟩ := hm
  rcases hc with ⟨a1, v, a2, a, a3, a4, x5, a5, a6⟩ | ⟨a1, a2, a3, a4⟩ | ⟨a1, a2, a3, a, x3, x4, x5⟩ <;> rcases hm with ⟨b1, b2, b3, b4⟩ | ⟨b1, b2, b3, a', y3, y4, y5⟩ | ⟨b1, a', b3, b4, y5, b5, b6⟩
  · exact absurd (ix_in a3 a4 (by omega)) b4
  · obtain rfl := ix_eq a3 y3 a4 y4 (by omega) (by omega)
    rw [hR.2.2 a a4] at x5; omega
  · obtain rfl := ix_eq a3 b3 a4 b4 (by omega) (by omega)
    rw [hR.2.2 a a4] at a6
    obtain ⟨rfl, c2, c3⟩ := gp_uq a6 b6
    exact ⟨a1.trans b1.symm, fun _ => by rw [a2, a5, b5], rfl, by omega, hc0, hm0, c3, Or.inl c2⟩
  · subst a2 a3 b2 b3
    exact ⟨a1.trans b1.symm, fun y => absurd (a1.symm.trans y) (by decide), rfl, hO⟩
  · exact absurd (ix_in y3 y4 (by omega)) a4
  · exact absurd (ix_in b3 b4 (by omega)) a4
  · exact absurd (ix_in x3 x4 (by omega)) b4
  · subst a2 a3 b2 b3
    exact ⟨a1.trans b1.symm, fun y => absurd (a1.symm.trans y) (by decide), rfl, hO⟩
  · obtain rfl := ix_eq x3 b3 x4 b4 (by omega) (by omega)
    rw [hR.2.2 a x4] at x5; omega
theorem ru_count {w9 r r' : Int32} {n dn bn wn : Nat} (hc : (w9 = 0 ∧ r = nI n) ∨ (w9 = 1 ∧ r = nI dn) ∨ (w9 = 2 ∧ r = nI bn) ∨ (w9 = 3 ∧ r = nI wn) ∨ (¬ w9 = 0 ∧ ¬ w9 = 1 ∧ ¬ w9 = 2 ∧ ¬ w9 = 3 ∧ r = -1))
    (hm : (w9 = 0 ∧ r' = nI n) ∨ (w9 = 1 ∧ r' = nI dn) ∨ (w9 = 2 ∧ r' = nI bn) ∨ (w9 = 3 ∧ r' = nI wn) ∨ (¬ w9 = 0 ∧ ¬ w9 = 1 ∧ ¬ w9 = 2 ∧ ¬ w9 = 3 ∧ r' = -1)) : r = r' := by
  rcases hc with ⟨a, b⟩ | ⟨a, b⟩ | ⟨a, b⟩ | ⟨a, b⟩ | ⟨a1, a2, a3, a4, b⟩ <;> rcases hm with ⟨c, d⟩ | ⟨c, d⟩ | ⟨c, d⟩ | ⟨c, d⟩ | ⟨c1, c2, c3, c4, d⟩ <;> first | exact b.trans d.symm | exact absurd (a.symm.trans c) (by decide) | contradiction
