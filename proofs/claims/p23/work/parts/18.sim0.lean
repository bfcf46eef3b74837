/-! the Sim's picture: what its rows hold, in the weavers' numbers -/
abbrev kaW (w : Wv) (k : Nat) : Int32 := kaN (vK w) (vM w) k
def rugF (w0 w1 : Wv) : Fn2 := fun x y => if x < 12 ∧ y < 10 then ktN w0 w1 x y else 0
def planF (w0 w1 : Wv) : Fn2 := fun x y => if x < 12 ∧ y < 10 then nI (ptN w0 w1 x y) else 0
def runF (w : Wv) : Fn2 := fun i => nR (w2 (vC w i) (vN w i))
theorem rugF_at {w0 w1 : Wv} {x y : Nat} (hx : x < 12) (hy : y < 10) : rugF w0 w1 x y = ktN w0 w1 x y := if_pos ⟨hx, hy⟩
theorem planF_at {w0 w1 : Wv} {x y : Nat} (hx : x < 12) (hy : y < 10) : planF w0 w1 x y = nI (ptN w0 w1 x y) := if_pos ⟨hx, hy⟩
theorem colOf_lt {sd k : Nat} : colOf sd k < 12 := by unfold colOf; split <;> omega
theorem colOf_0 {k : Nat} : colOf 0 k = k % 6 := rfl
theorem colOf_1 {k : Nat} : colOf 1 k = 11 - k % 6 := rfl
theorem pl_col0 {k : Nat} : plN (colOf 0 k) (k / 6) = k := by
  unfold plN colOf
  rw [if_pos rfl, if_pos (by omega)]; omega
theorem pl_col1 {k : Nat} : plN (colOf 1 k) (k / 6) = k := by
  unfold plN colOf
  rw [if_neg (show ¬ (1 : Nat) = 0 by decide), if_neg (by omega)]; omega
theorem rg_col0 {w0 w1 : Wv} {k : Nat} : rgW w0 w1 (colOf 0 k) = w0 := by
  unfold rgW colOf
  rw [if_pos rfl, if_pos (by omega)]
theorem rg_col1 {w0 w1 : Wv} {k : Nat} : rgW w0 w1 (colOf 1 k) = w1 := by
  unfold rgW colOf
  rw [if_neg (show ¬ (1 : Nat) = 0 by decide), if_neg (by omega)]
theorem rug_c0 {w0 w1 : Wv} {k : Nat} (h : k < 60) : rugF w0 w1 (colOf 0 k) (k / 6) = kaW w0 k := by
  rw [rugF_at colOf_lt (by omega)]
  unfold ktN
  rw [rg_col0, pl_col0]
theorem rug_c1 {w0 w1 : Wv} {k : Nat} (h : k < 60) : rugF w0 w1 (colOf 1 k) (k / 6) = kaW w1 k := by
  rw [rugF_at colOf_lt (by omega)]
  unfold ktN
  rw [rg_col1, pl_col1]
theorem updR_at {R : Fn2} {x y : Nat} {v : Int32} : updR R x y v x y = v := by unfold updR upd; simp
theorem updR_ne {R : Fn2} {x y i j : Nat} {v : Int32} (h : ¬ (i = x ∧ j = y)) : updR R x y v i j = R i j := by
  unfold updR
  by_cases h1 : i = x
  · rw [if_pos h1]
    unfold upd
    rw [if_neg (fun q => h ⟨h1, q⟩), h1]
  · rw [if_neg h1]
/-- a cell of the left half anew -/
theorem rug_u0 {w0 w0' w1 : Wv} {k : Nat} {v : Int32} (hk : k < 60) (hv : v = kaW w0' k) (ho : ∀ j, j < 60 → j ≠ k → kaW w0' j = kaW w0 j) : updR (rugF w0 w1) (colOf 0 k) (k / 6) v = rugF w0' w1 := by
  funext x y
  by_cases h : x = colOf 0 k ∧ y = k / 6
  · obtain ⟨rfl, rfl⟩ := h
    rw [updR_at, rug_c0 hk, hv]
  · rw [updR_ne h]
    unfold rugF
    by_cases hxy : x < 12 ∧ y < 10
    · rw [if_pos hxy, if_pos hxy]
      unfold ktN rgW
      by_cases h6 : x < 6
      · rw [if_pos h6, if_pos h6]
        refine (ho _ (plN_lt hxy.1 hxy.2) (fun q => h ?_)).symm
        have hc := colOf_pl (y := y) hxy.1 (show 0 = sdN x by unfold sdN; rw [if_pos h6])
        rw [q] at hc
        exact ⟨hc.1.symm, hc.2.symm⟩
      · rw [if_neg h6, if_neg h6]
    · rw [if_neg hxy, if_neg hxy]
theorem rug_u1 {w0 w1 w1' : Wv} {k : Nat} {v : Int32} (hk : k < 60) (hv : v = kaW w1' k) (ho : ∀ j, j < 60 → j ≠ k → kaW w1' j = kaW w1 j) : updR (rugF w0 w1) (colOf 1 k) (k / 6) v = rugF w0 w1' := by
  funext x y
  by_cases h : x = colOf 1 k ∧ y = k / 6
  · obtain ⟨rfl, rfl⟩ := h
    rw [updR_at, rug_c1 hk, hv]
  · rw [updR_ne h]
    unfold rugF
    by_cases hxy : x < 12 ∧ y < 10
    · rw [if_pos hxy, if_pos hxy]
      unfold ktN rgW
      by_cases h6 : x < 6
      · rw [if_pos h6, if_pos h6]
      · rw [if_neg h6, if_neg h6]
        refine (ho _ (plN_lt hxy.1 hxy.2) (fun q => h ?_)).symm
        have hc := colOf_pl (y := y) hxy.1 (show 1 = sdN x by unfold sdN; rw [if_neg h6])
        rw [q] at hc
        exact ⟨hc.1.symm, hc.2.symm⟩
    · rw [if_neg hxy, if_neg hxy]
theorem kaW_knot {w : Wv} {B : Nat → Nat} : nI ((vC w 0 + takeBy B (vC w 0)) % 8) = kaW (knW w B) (vM w) := by
  show _ = kaN (updN (vK w) (vM w) _) (vM w + 1) (vM w)
  rw [← kaN_t (Nat.lt_succ_self _), updN_self]
theorem kaW_knot_o {w : Wv} {B : Nat → Nat} {j : Nat} (h : j ≠ vM w) : kaW (knW w B) j = kaW w j := by
  show kaN (updN (vK w) (vM w) _) (vM w + 1) j = kaN (vK w) (vM w) j
  unfold kaN
  rw [updN_ne h]
  by_cases h2 : j < vM w
  · rw [if_pos h2, if_pos (by omega)]
  · rw [if_neg h2, if_neg (by omega)]
theorem kaW_made {w : Wv} {v k : Nat} : kaW (wUn w v) k = kaN (vK w) (vM w - v) k := rfl
theorem kaW_un {w : Wv} {i : Nat} (h : i < vM w) : (-1 : Int32) = kaW (wUn w (i + 1)) (vM w - (i + 1)) := kaN_f (by show ¬ _ < vM w - (i + 1); omega)
theorem kaW_un_o {w : Wv} {i j : Nat} (hi : i < vM w) (h : j ≠ vM w - (i + 1)) : kaW (wUn w (i + 1)) j = kaW (wUn w i) j := by
  show kaN (vK w) (vM w - (i + 1)) j = kaN (vK w) (vM w - i) j
  unfold kaN
  by_cases h2 : j < vM w - (i + 1)
  · rw [if_pos h2, if_pos (by omega)]
  · rw [if_neg h2, if_neg (by omega)]
/-- a knot's colour isn't below 0, no knot is -/
theorem kaN_nn {K : Nat → Nat} {m k : Nat} (h : k < m) (hK : K k < 8) : ¬ kaN K m k < 0 := by
  rw [← kaN_t h]
  exact nI_pos (by omega)
theorem kaN_neg {K : Nat → Nat} {m k : Nat} (h : ¬ k < m) : kaN K m k < 0 := by
  rw [← kaN_f h]; decide
theorem kaW_iff {w : Wv} {k : Nat} (hw : wOk w) (hk : k < 60) : kaW w k < 0 ↔ ¬ k < vM w :=
  ⟨fun h q => kaN_nn q (hw.2.2.2.2.2.1 k hk) h, fun h => kaN_neg h⟩
/-- the plan's rows -/
theorem plan_rug {w0 w1 v0 v1 : Wv} (h0 : ∀ i, i < 60 → vP w0 i = vP v0 i) (h1 : ∀ i, i < 60 → vP w1 i = vP v1 i) : planF w0 w1 = planF v0 v1 := by
  funext x y
  unfold planF
  by_cases hxy : x < 12 ∧ y < 10
  · rw [if_pos hxy, if_pos hxy]
    unfold ptN rgW
    by_cases h6 : x < 6
    · rw [if_pos h6, if_pos h6, h0 _ (plN_lt hxy.1 hxy.2)]
    · rw [if_neg h6, if_neg h6, h1 _ (plN_lt hxy.1 hxy.2)]
  · rw [if_neg hxy, if_neg hxy]
theorem rug_eq {w0 w1 v0 v1 : Wv} (h0 : ∀ i, i < 60 → kaW w0 i = kaW v0 i) (h1 : ∀ i, i < 60 → kaW w1 i = kaW v1 i) : rugF w0 w1 = rugF v0 v1 := by
  funext x y
  unfold rugF
  by_cases hxy : x < 12 ∧ y < 10
  · rw [if_pos hxy, if_pos hxy]
    unfold ktN rgW
    by_cases h6 : x < 6
    · rw [if_pos h6, if_pos h6]; exact h0 _ (plN_lt hxy.1 hxy.2)
    · rw [if_neg h6, if_neg h6]; exact h1 _ (plN_lt hxy.1 hxy.2)
  · rw [if_neg hxy, if_neg hxy]
/-- in the plan one cell more, column by column -/
theorem plan_u {w0 w1 : Wv} {D D' : Nat → Nat → Bool} {x y co : Nat} (hx : x < 12) (hy : y < 10) (hc : D' x y = true) (ho : ∀ i j, ¬ (i = x ∧ j = y) → D' i j = D i j) : updR (planF (wPl D 0 co w0) (wPl D 1 co w1)) x y (nI co) = planF (wPl D' 0 co w0) (wPl D' 1 co w1) := by
  funext i j
  by_cases h : i = x ∧ j = y
  · obtain ⟨rfl, rfl⟩ := h
    rw [updR_at, planF_at hx hy]
    unfold ptN rgW
    by_cases h6 : i < 6
    · have hcc := colOf_pl (y := j) hx (show 0 = sdN i by unfold sdN; rw [if_pos h6])
      rw [if_pos h6]
      show _ = nI (plW D' 0 co (vP w0) (plN i j))
      unfold plW
      rw [hcc.1, hcc.2, if_pos hc]
    · have hcc := colOf_pl (y := j) hx (show 1 = sdN i by unfold sdN; rw [if_neg h6])
      rw [if_neg h6]
      show _ = nI (plW D' 1 co (vP w1) (plN i j))
      unfold plW
      rw [hcc.1, hcc.2, if_pos hc]
  · rw [updR_ne h]
    unfold planF
    by_cases hxy : i < 12 ∧ j < 10
    · rw [if_pos hxy, if_pos hxy]
      unfold ptN rgW
      by_cases h6 : i < 6
      · have hcc := colOf_pl (y := j) hxy.1 (show 0 = sdN i by unfold sdN; rw [if_pos h6])
        rw [if_pos h6, if_pos h6]
        show nI (plW D 0 co (vP w0) (plN i j)) = nI (plW D' 0 co (vP w0) (plN i j))
        unfold plW
        rw [hcc.1, hcc.2, ho i j h]
      · have hcc := colOf_pl (y := j) hxy.1 (show 1 = sdN i by unfold sdN; rw [if_neg h6])
        rw [if_neg h6, if_neg h6]
        show nI (plW D 1 co (vP w1) (plN i j)) = nI (plW D' 1 co (vP w1) (plN i j))
        unfold plW
        rw [hcc.1, hcc.2, ho i j h]
    · rw [if_neg hxy, if_neg hxy]
/-- the plan's part by columns: a whole columns, and b cells of the next -/
def eC (x y hg a b : Nat) : Nat → Nat → Bool := fun col row => decide ((x ≤ col ∧ col < x + a ∧ y ≤ row ∧ row < y + hg) ∨ (col = x + a ∧ y ≤ row ∧ row < y + b))
theorem eC_0 {x y hg sd co : Nat} {P : Nat → Nat} : plW (eC x y hg 0 0) sd co P = P := by
  funext i
  unfold plW eC
  rw [if_neg]
  simp only [decide_eq_true_eq]
  omega
theorem eC_end {x y hg a : Nat} : eC x y hg a hg = eC x y hg (a + 1) 0 := by
  funext col row
  unfold eC
  apply decide_eq_decide.mpr
  omega
theorem eC_fin {x y wd hg : Nat} : eC x y hg wd 0 = dF x y wd hg := by
  funext col row
  unfold eC dF
  apply decide_eq_decide.mpr
  omega
theorem eC_at {x y hg a b : Nat} : eC x y hg a b (x + a) (y + b) = false := by
  unfold eC
  apply decide_eq_false
  omega
theorem eC_n {x y hg a b : Nat} : eC x y hg a (b + 1) (x + a) (y + b) = true := by
  unfold eC
  apply decide_eq_true
  omega
theorem eC_s {x y hg a b col row : Nat} (h : ¬ (col = x + a ∧ row = y + b)) : eC x y hg a (b + 1) col row = eC x y hg a b col row := by
  unfold eC
  apply decide_eq_decide.mpr
  omega
theorem eC_pt {w0 w1 : Wv} {x y hg a b co : Nat} (hx : x + a < 12) : ptN (wPl (eC x y hg a b) 0 co w0) (wPl (eC x y hg a b) 1 co w1) (x + a) (y + b) = ptN w0 w1 (x + a) (y + b) := by
  unfold ptN rgW
  by_cases h6 : x + a < 6
  · have hcc := colOf_pl (y := y + b) hx (show 0 = sdN (x + a) by unfold sdN; rw [if_pos h6])
    rw [if_pos h6, if_pos h6]
    show plW _ 0 co (vP w0) _ = _
    unfold plW
    rw [hcc.1, hcc.2, eC_at, if_neg (by decide)]
  · have hcc := colOf_pl (y := y + b) hx (show 1 = sdN (x + a) by unfold sdN; rw [if_neg h6])
    rw [if_neg h6, if_neg h6]
    show plW _ 1 co (vP w1) _ = _
    unfold plW
    rw [hcc.1, hcc.2, eC_at, if_neg (by decide)]
/-- told runs -/
theorem runF_tell {w : Wv} {c k : Nat} : va_up (runF w) (vT w) (nR (w2 c k)) = runF (wTell w c k) := by
  funext i
  unfold va_up runF
  by_cases h : i = vT w
  · subst h
    rw [if_pos rfl]
    show _ = nR (w2 (updN (vC w) (vT w) c (vT w)) (updN (vN w) (vT w) k (vT w)))
    rw [updN_self, updN_self]
  · rw [if_neg h]
    show _ = nR (w2 (updN (vC w) (vT w) c i) (updN (vN w) (vT w) k i))
    rw [updN_ne h, updN_ne h]
theorem runF_knotS {w : Wv} {B : Nat → Nat} (h : ¬ vN w 0 = 1) : updR (runF w) 0 1 (nI (vN w 0 - 1)) = runF (knW w B) := by
  have e1 : vC (knW w B) = vC w := by show shC (vC w) (vN w) (vT w) = _; unfold shC; rw [if_neg h]
  have e2 : vN (knW w B) = updN (vN w) 0 (vN w 0 - 1) := by show shN (vN w) (vT w) = _; unfold shN; rw [if_neg h]
  funext i
  unfold updR
  unfold runF
  rw [e1, e2]
  by_cases h0 : i = 0
  · subst h0
    rw [if_pos rfl, updN_self]
    funext j
    unfold upd nR w2
    by_cases h1 : j = 1
    · subst h1; simp
    · by_cases h2 : j = 0 <;> simp [h1, h2]
  · rw [if_neg h0, updN_ne h0]
theorem runF_knotD {w : Wv} {B : Nat → Nat} {v : Int32} {i : Nat} (h : vN w 0 = 1) (hi : i + 1 < vT w) : updR (runF w) 0 1 v (i + 1) = runF (knW w B) i := by
  have e1 : vC (knW w B) = shf (vC w) (vT w) := by show shC (vC w) (vN w) (vT w) = _; unfold shC; rw [if_pos h]
  have e2 : vN (knW w B) = shf (updN (vN w) 0 (vN w 0 - 1)) (vT w) := by show shN (vN w) (vT w) = _; unfold shN; rw [if_pos h]
  unfold updR
  rw [if_neg (by omega)]
  unfold runF
  rw [e1, e2]
  unfold shf
  rw [if_pos hi, if_pos hi, updN_ne (by omega)]
theorem knT_D {w : Wv} {B : Nat → Nat} (h : vN w 0 = 1) : vT (knW w B) = vT w - 1 := by show shT (vN w) (vT w) = _; unfold shT; rw [if_pos h]
theorem knT_S {w : Wv} {B : Nat → Nat} (h : ¬ vN w 0 = 1) : vT (knW w B) = vT w := by show shT (vN w) (vT w) = _; unfold shT; rw [if_neg h]
