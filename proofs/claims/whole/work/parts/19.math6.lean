/-! the model's rows, of the same state -/
theorem isIn_G {x : Int32} {a b : Nat} (ha : a < 2 ^ 31) (hb : b < 2 ^ 31 - 1) : (nI a ≤ x ∧ x ≤ nI b) ↔ inG x a b := by
  constructor
  · rintro ⟨h1, h2⟩
    exact inG_of ha hb (Int32.not_lt.mpr h1) h2
  · rintro ⟨j, h1, h2, rfl⟩
    exact ⟨(nI_leI ha (by omega)).mpr h1, (nI_leI (by omega) (by omega)).mpr h2⟩
theorem isIn_R {x : Int32} {b : Nat} (hb : b < 2 ^ 31 - 1) : (nI 0 ≤ x ∧ x ≤ nI b) ↔ inR x (b + 1) := (isIn_G (by decide) hb).trans inG0
theorem isIn_T {x : Int32} {t : Nat} (ht : t < 2 ^ 31 - 1) : (nI 0 ≤ x ∧ x ≤ nI t - nI 1) ↔ inR x t := by
  by_cases h : t = 0
  · subst h
    constructor
    · rintro ⟨h1, h2⟩
      have h3 : (nI 0 : Int32) ≤ nI 0 - nI 1 := Int32.le_trans h1 h2
      exact absurd h3 (by decide)
    · rintro ⟨j, h1, -⟩
      omega
  · rw [pk_sub (by omega), isIn_R (by omega), show t - 1 + 1 = t by omega]
def atN (x y : Nat) : Nat := if x < 6 then 6 * y + x else 60 + 6 * y + 12 - 1 - x
theorem atN_0 {x y : Nat} (h : x < 6) : atN x y = plN x y := by unfold atN plN; rw [if_pos h, if_pos h]
theorem atN_1 {x y : Nat} (h : 6 ≤ x) (hx : x < 12) : atN x y = 60 + plN x y := by unfold atN plN; rw [if_neg (by omega), if_neg (by omega)]; omega
theorem atN_lt {x y : Nat} (hx : x < 12) (hy : y < 10) : atN x y < 120 := by unfold atN; split <;> omega
def peF (w0 w1 : Wv) : Nat → Nat := fun j => if j = 0 then vS w0 else if j = 1 then vM w0 else if j = 2 then vT w0 else if j = 3 then vO w0 else if j = 4 then vS w1 else if j = 5 then vM w1 else if j = 6 then vT w1 else if j = 7 then vO w1 else 0
def knF (w0 w1 : Wv) : Nat → Nat := fun j => if j < 60 then vK w0 j else vK w1 (j - 60)
def plF (w0 w1 : Wv) : Nat → Nat := fun j => if j < 60 then vP w0 j else vP w1 (j - 60)
def nuF (ho un : Nat) : Nat → Nat := fun j => if j = 0 then ho else if j = 1 then un else 0
theorem knF_lo {w0 w1 : Wv} {j : Nat} (h : j < 60) : knF w0 w1 j = vK w0 j := if_pos h
theorem knF_lo0 {w0 w1 : Wv} {j : Nat} (h : j < 60) : knF w0 w1 (0 + j) = vK w0 j := by rw [Nat.zero_add]; exact if_pos h
theorem knF_hi {w0 w1 : Wv} {j : Nat} : knF w0 w1 (60 + j) = vK w1 j := by unfold knF; rw [if_neg (by omega), show 60 + j - 60 = j by omega]
theorem plF_lo {w0 w1 : Wv} {j : Nat} (h : j < 60) : plF w0 w1 j = vP w0 j := if_pos h
theorem plF_lo0 {w0 w1 : Wv} {j : Nat} (h : j < 60) : plF w0 w1 (0 + j) = vP w0 j := by rw [Nat.zero_add]; exact if_pos h
theorem plF_hi {w0 w1 : Wv} {j : Nat} : plF w0 w1 (60 + j) = vP w1 j := by unfold plF; rw [if_neg (by omega), show 60 + j - 60 = j by omega]
def wMade (w : Wv) (v : Nat) : Wv := (vP w, vK w, vC w, vN w, vS w, vT w, v, vO w)
def wTold (w : Wv) (v : Nat) : Wv := (vP w, vK w, vC w, vN w, vS w, v, vM w, vO w)
def wOth (w : Wv) (v : Nat) : Wv := (vP w, vK w, vC w, vN w, vS w, vT w, vM w, v)
theorem pe_0 {w0 w1 : Wv} {v : Nat} : updN (peF w0 w1) (4 * 0 + 0) v = peF (wSpeed w0 v) w1 := by funext j; unfold updN peF; (repeat' split) <;> first | rfl | (exfalso; omega)
theorem pe_1 {w0 w1 : Wv} {v : Nat} : updN (peF w0 w1) (4 * 0 + 1) v = peF (wMade w0 v) w1 := by funext j; unfold updN peF; (repeat' split) <;> first | rfl | (exfalso; omega)
theorem pe_2 {w0 w1 : Wv} {v : Nat} : updN (peF w0 w1) (4 * 0 + 2) v = peF (wTold w0 v) w1 := by funext j; unfold updN peF; (repeat' split) <;> first | rfl | (exfalso; omega)
theorem pe_3 {w0 w1 : Wv} {v : Nat} : updN (peF w0 w1) (4 * 0 + 3) v = peF (wOth w0 v) w1 := by funext j; unfold updN peF; (repeat' split) <;> first | rfl | (exfalso; omega)
theorem pe_4 {w0 w1 : Wv} {v : Nat} : updN (peF w0 w1) (4 * 1 + 0) v = peF w0 (wSpeed w1 v) := by funext j; unfold updN peF; (repeat' split) <;> first | rfl | (exfalso; omega)
theorem pe_5 {w0 w1 : Wv} {v : Nat} : updN (peF w0 w1) (4 * 1 + 1) v = peF w0 (wMade w1 v) := by funext j; unfold updN peF; (repeat' split) <;> first | rfl | (exfalso; omega)
theorem pe_6 {w0 w1 : Wv} {v : Nat} : updN (peF w0 w1) (4 * 1 + 2) v = peF w0 (wTold w1 v) := by funext j; unfold updN peF; (repeat' split) <;> first | rfl | (exfalso; omega)
theorem pe_7 {w0 w1 : Wv} {v : Nat} : updN (peF w0 w1) (4 * 1 + 3) v = peF w0 (wOth w1 v) := by funext j; unfold updN peF; (repeat' split) <;> first | rfl | (exfalso; omega)
/-- the runs that the model holds, as far as they are told -/
def ruOk (w0 w1 : Wv) (ru : Nat → Nat) : Prop := (∀ i, i < vT w0 → ru (2 * (0 + i)) = vC w0 i ∧ ru (2 * (0 + i) + 1) = vN w0 i) ∧ (∀ i, i < vT w1 → ru (2 * (20 + i)) = vC w1 i ∧ ru (2 * (20 + i) + 1) = vN w1 i)
theorem kt5 {w0 w1 : Wv} {y : Nat} (h : y < vM w0 / 6) : ktN w0 w1 5 y = nI (vK w0 (plN 6 y)) := by
  unfold ktN rgW
  rw [if_pos (by decide), show plN 5 y = plN 6 y by unfold plN; rw [if_pos (by decide), if_neg (by decide)]]
  exact (kaN_t (by unfold plN; rw [if_neg (by decide)]; omega)).symm
theorem kt6 {w0 w1 : Wv} {y : Nat} (h : y < vM w1 / 6) : ktN w0 w1 6 y = nI (vK w1 (plN 6 y)) := by
  unfold ktN rgW
  rw [if_neg (by decide)]
  exact (kaN_t (by unfold plN; rw [if_neg (by decide)]; omega)).symm
theorem pl56 {y : Nat} : plN 5 y = plN 6 y := by unfold plN; rw [if_pos (by decide), if_neg (by decide)]
theorem rwN_eq {w0 w1 : Wv} : min (vM w0) (vM w1) / 6 = rwN w0 w1 := by unfold rwN; omega
