/-! a part of the plan: the cells of a predicate get a colour -/
def colOf (sd i : Nat) : Nat := if sd = 0 then i % 6 else 11 - i % 6
def plW (D : Nat → Nat → Bool) (sd co : Nat) (P : Nat → Nat) : Nat → Nat := fun i => if D (colOf sd i) (i / 6) = true then co else P i
abbrev wPl (D : Nat → Nat → Bool) (sd co : Nat) (w : Wv) : Wv := (plW D sd co (vP w), vK w, vC w, vN w, vS w, vT w, vM w, vO w)
theorem wPl_ok {D : Nat → Nat → Bool} {sd co : Nat} {w : Wv} (hc : co < 8) (h : wOk w) : wOk (wPl D sd co w) := by
  obtain ⟨h1, h2, h3, h4, h5, h6⟩ := h
  refine ⟨h1, h2, h3, h4, ?_, h6⟩
  intro i hi
  show plW D sd co (vP w) i < 8
  unfold plW
  split
  · exact hc
  · exact h5 i hi
def dC (x y wd a b : Nat) : Nat → Nat → Bool := fun col row => decide ((x ≤ col ∧ col < x + wd ∧ y ≤ row ∧ row < y + a) ∨ (x ≤ col ∧ col < x + b ∧ row = y + a))
def dF (x y wd hg : Nat) : Nat → Nat → Bool := fun col row => decide (x ≤ col ∧ col < x + wd ∧ y ≤ row ∧ row < y + hg)
theorem dC_0 {x y wd sd co : Nat} {P : Nat → Nat} : plW (dC x y wd 0 0) sd co P = P := by
  funext i
  unfold plW dC
  rw [if_neg]
  simp only [decide_eq_true_eq]
  omega
theorem dC_end {x y wd a : Nat} : dC x y wd a wd = dC x y wd (a + 1) 0 := by
  funext col row
  unfold dC
  apply decide_eq_decide.mpr
  omega
theorem dC_fin {x y wd hg : Nat} : dC x y wd hg 0 = dF x y wd hg := by
  funext col row
  unfold dC dF
  apply decide_eq_decide.mpr
  omega
theorem dC_at {x y wd a b : Nat} : dC x y wd a b (x + b) (y + a) = false := by
  unfold dC
  apply decide_eq_false
  omega
theorem colOf_pl {x y sd : Nat} (hx : x < 12) (hs : sd = sdN x) : colOf sd (plN x y) = x ∧ plN x y / 6 = y := by
  subst hs
  unfold colOf plN sdN
  by_cases h : x < 6
  · rw [if_pos h, if_pos h, if_pos rfl]; omega
  · rw [if_neg h, if_neg h, if_neg (by omega)]; omega
theorem colOf_inj {x y sd i : Nat} (hx : x < 12) (hs : sd ≤ 1) (h1 : colOf sd i = x) (h2 : i / 6 = y) : sd = sdN x ∧ i = plN x y := by
  unfold colOf at h1
  unfold plN sdN
  by_cases e : sd = 0
  · rw [if_pos e] at h1
    have : x < 6 := by omega
    rw [if_pos this, if_pos this]; omega
  · rw [if_neg e] at h1
    have : ¬ x < 6 := by omega
    rw [if_neg this, if_neg this]; omega
theorem dC_s {x y wd a b col row : Nat} (h : ¬ (col = x + b ∧ row = y + a)) : dC x y wd a (b + 1) col row = dC x y wd a b col row := by
  unfold dC
  apply decide_eq_decide.mpr
  omega
theorem dC_n {x y wd a b : Nat} : dC x y wd a (b + 1) (x + b) (y + a) = true := by
  unfold dC
  apply decide_eq_true
  omega
/-- the owner's half gets one cell more -/
theorem pl_own {x y wd a b sd co : Nat} {P : Nat → Nat} (hx : x + b < 12) (hs : sd = sdN (x + b)) : updN (plW (dC x y wd a b) sd co P) (plN (x + b) (y + a)) co = plW (dC x y wd a (b + 1)) sd co P := by
  have hs1 : sd ≤ 1 := by rw [hs]; unfold sdN; split <;> omega
  funext i
  unfold updN
  by_cases e : i = plN (x + b) (y + a)
  · rw [if_pos e]
    have h := colOf_pl (y := y + a) hx hs
    unfold plW
    rw [e, h.1, h.2, dC_n, if_pos rfl]
  · rw [if_neg e]
    unfold plW
    rw [dC_s (fun q => e (colOf_inj hx hs1 q.1 q.2).2)]
/-- the other half stays -/
theorem pl_oth {x y wd a b sd co : Nat} {P : Nat → Nat} (hx : x + b < 12) (hs1 : sd ≤ 1) (hs : ¬ sd = sdN (x + b)) : plW (dC x y wd a b) sd co P = plW (dC x y wd a (b + 1)) sd co P := by
  funext i
  unfold plW
  rw [dC_s (fun q => hs (colOf_inj hx hs1 q.1 q.2).1)]
theorem pl_at {x y wd a b sd co : Nat} {P : Nat → Nat} (hx : x + b < 12) (hs : sd = sdN (x + b)) : plW (dC x y wd a b) sd co P (plN (x + b) (y + a)) = P (plN (x + b) (y + a)) := by
  have h := colOf_pl (y := y + a) hx hs
  unfold plW
  rw [h.1, h.2, dC_at, if_neg (by decide)]
/-- one cell's share of the answer, by the plan before -/
def plE (w0 w1 : Wv) (co x y : Nat) : Nat := if ptN w0 w1 x y = co then 0 else 1
def plR (w0 w1 : Wv) (co x y wd : Nat) (a : Nat) : Nat := sumN (fun b => plE w0 w1 co (x + b) (y + a)) wd
def plC (w0 w1 : Wv) (co x y hg : Nat) (b : Nat) : Nat := sumN (fun a => plE w0 w1 co (x + b) (y + a)) hg
theorem sumN_add {f g : Nat → Nat} : ∀ n, sumN (fun i => f i + g i) n = sumN f n + sumN g n
  | 0 => rfl
  | n + 1 => by rw [sumN, sumN_add n, sumN, sumN]; omega
theorem sumN_zero : ∀ n, sumN (fun _ => 0) n = 0
  | 0 => rfl
  | n + 1 => by rw [sumN, sumN_zero n]
theorem sum_swap {f : Nat → Nat → Nat} {n : Nat} : ∀ m, sumN (fun i => sumN (fun j => f i j) n) m = sumN (fun j => sumN (fun i => f i j) m) n
  | 0 => (sumN_zero n).symm
  | m + 1 => by
    rw [sumN, sum_swap m, ← sumN_add]
    rfl
def aPlan (w0 w1 : Wv) (co x y wd hg : Nat) : Nat := sumN (plR w0 w1 co x y wd) hg
theorem aPlan_c {w0 w1 : Wv} {co x y wd hg : Nat} : sumN (plC w0 w1 co x y hg) wd = aPlan w0 w1 co x y wd hg := sum_swap (f := fun b a => plE w0 w1 co (x + b) (y + a)) wd
def sPlan (s : Sg) (x y wd hg co : Nat) : Sg := (wPl (dF x y wd hg) 0 co (gA s), wPl (dF x y wd hg) 1 co (gB s), gK s, gH s, gU s)
