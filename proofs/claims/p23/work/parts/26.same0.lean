/-! the last comparison: what stands on both sides -/
theorem sd_cases (x : Nat) : (x < 6 ∧ sdN x = 0) ∨ (6 ≤ x ∧ sdN x = 1) := by
  unfold sdN
  by_cases h : x < 6
  · rw [if_pos h]; exact Or.inl ⟨h, rfl⟩
  · rw [if_neg h]; exact Or.inr ⟨by omega, rfl⟩
theorem see0_t {w0 w1 : Wv} {bf : Nat → Nat} {ho un x y : Nat} (h : x < 6 ∨ (x = 6 ∧ y < vM w0 / 6)) : aSees (w0, w1, bf, ho, un) 0 x y = ktN w0 w1 x y := by
  have hs := sd_cases x
  unfold aSees
  rw [show gW (w0, w1, bf, ho, un) 0 = w0 from rfl, if_pos (by omega)]
theorem see0_f {w0 w1 : Wv} {bf : Nat → Nat} {ho un x y : Nat} (h : ¬ (x < 6 ∨ (x = 6 ∧ y < vM w0 / 6))) : aSees (w0, w1, bf, ho, un) 0 x y = (-2) := by
  have hs := sd_cases x
  unfold aSees
  rw [show gW (w0, w1, bf, ho, un) 0 = w0 from rfl, if_neg (by omega)]
theorem see1_t {w0 w1 : Wv} {bf : Nat → Nat} {ho un x y : Nat} (h : 6 ≤ x ∨ (x = 5 ∧ y < vM w1 / 6)) : aSees (w0, w1, bf, ho, un) 1 x y = ktN w0 w1 x y := by
  have hs := sd_cases x
  unfold aSees
  rw [show gW (w0, w1, bf, ho, un) 1 = w1 from rfl, if_pos (by omega)]
theorem see1_f {w0 w1 : Wv} {bf : Nat → Nat} {ho un x y : Nat} (h : ¬ (6 ≤ x ∨ (x = 5 ∧ y < vM w1 / 6))) : aSees (w0, w1, bf, ho, un) 1 x y = (-2) := by
  have hs := sd_cases x
  unfold aSees
  rw [show gW (w0, w1, bf, ho, un) 1 = w1 from rfl, if_neg (by omega)]
theorem k_updI {f : Nat → Int32} {k : Nat} {v : Int32} (h : k < 2 ^ 31) : upd f (nI k).toNatClampNeg v = upd f k v := by rw [nI_clamp h]
theorem nx_f {J md : Nat} (h : md = 60) : (-1 : Int32) = nxN J md := by unfold nxN; rw [if_neg (by omega)]
theorem nx_t {J md : Nat} (h : ¬ md = 60) (hm : md ≤ 60) : nI (colOf J md) = nxN J md := by unfold nxN; rw [if_pos (by omega)]; rfl
def ryN (md : Nat) : Int32 := if md < 60 then nI (md / 6) else (-1)
theorem ry_f {md : Nat} (h : md = 60) : (-1 : Int32) = ryN md := by unfold ryN; rw [if_neg (by omega)]
theorem ry_t {md : Nat} (h : ¬ md = 60) (hm : md ≤ 60) : nI (md / 6) = ryN md := by unfold ryN; rw [if_pos (by omega)]
theorem tw7 {J : Nat} {w : Wv} {f : Nat → Nat} : ∀ k, k < 7 → upd (upd (upd (nR (updN (updN (updN (updN f 0 (vS w)) 1 (vT w)) 2 (sumN (vN w) (vT w))) 3 (vM w))) 4 (nxN J (vM w))) 5 (ryN (vM w))) 6 (nI (vO w)) k = wNumW J w k := by
  intro k hk
  rcases (show k = 0 ∨ k = 1 ∨ k = 2 ∨ k = 3 ∨ k = 4 ∨ k = 5 ∨ k = 6 by omega) with rfl | rfl | rfl | rfl | rfl | rfl | rfl <;> rfl
theorem ct8 {w0 w1 : Wv} {bf f : Nat → Nat} {ho un : Nat} : ∀ k, k < 8 → nR (updN (updN (updN (updN (updN (updN (updN (updN f 0 ho) 1 (vM w0 + vM w1)) 2 (ofN w0 w1)) 3 (rwN w0 w1)) 4 (tornN w0 w1 (rwN w0 w1))) 5 (sumN bf 8)) 6 (zeroN bf 8)) 7 un) k = nR (rNum w0 w1 bf ho un) k := by
  intro k hk
  rcases (show k = 0 ∨ k = 1 ∨ k = 2 ∨ k = 3 ∨ k = 4 ∨ k = 5 ∨ k = 6 ∨ k = 7 by omega) with rfl | rfl | rfl | rfl | rfl | rfl | rfl | rfl <;> rfl
