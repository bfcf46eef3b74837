/-! the model's runs and plan, in its own order -/
theorem ofN_le {w0 w1 : Wv} : ofN w0 w1 ≤ vM w0 + vM w1 := Nat.add_le_add (offN_le _) (offN_le _)
def rkF (w : Wv) : Nat → Nat := fun k => if k % 2 = 0 then vC w (k / 2) else vN w (k / 2)
theorem rk_mrF {w : Wv} {d : Int64} : ∀ n, mxF (fun k => nI (rkF w k)) (2 * n) d = mrF (vC w) (vN w) n d
  | 0 => rfl
  | n + 1 => by
    rw [show 2 * (n + 1) = 2 * n + 1 + 1 by omega, mxF, mxF, rk_mrF n, mrF]
    show mx (mx _ (nI (rkF w (2 * n)))) (nI (rkF w (2 * n + 1))) = _
    unfold rkF
    rw [if_pos (by omega), if_neg (by omega), show 2 * n / 2 = n by omega, show (2 * n + 1) / 2 = n by omega]
theorem rk_0 {w0 w1 : Wv} {ru : Nat → Nat} (h : ruOk w0 w1 ru) {k : Nat} (hk : k < 2 * vT w0) : ru (2 * (0 + 0) + k) = rkF w0 k := by
  unfold rkF
  have h9 := h.1 (k / 2) (by omega)
  by_cases e : k % 2 = 0
  · rw [if_pos e, ← h9.1]; congr 1; omega
  · rw [if_neg e, ← h9.2]; congr 1; omega
theorem rk_1 {w0 w1 : Wv} {ru : Nat → Nat} (h : ruOk w0 w1 ru) {k : Nat} (hk : k < 2 * vT w1) : ru (2 * (20 + 0) + k) = rkF w1 k := by
  unfold rkF
  have h9 := h.2 (k / 2) (by omega)
  by_cases e : k % 2 = 0
  · rw [if_pos e, ← h9.1]; congr 1; omega
  · rw [if_neg e, ← h9.2]; congr 1; omega
/-- columns first: a whole columns and b cells of the next -/
def eC (x y hg a b : Nat) : Nat → Nat → Bool := fun col row => decide ((x ≤ col ∧ col < x + a ∧ y ≤ row ∧ row < y + hg) ∨ (col = x + a ∧ y ≤ row ∧ row < y + b))
theorem eC_0 {x y hg sd co : Nat} {P : Nat → Nat} : plW (eC x y hg 0 0) sd co P = P := by
  funext i
  unfold plW eC
  rw [if_neg]
  simp only [decide_eq_true_eq]
  omega
theorem eC_end {x y hg a : Nat} : eC x y hg a hg = eC x y hg (a + 1) 0 := by
  funext col row
  unfold eC
  apply decide_eq_decide.mpr
  omega
theorem eC_fin {x y wd hg : Nat} : eC x y hg wd 0 = dF x y wd hg := by
  funext col row
  unfold eC dF
  apply decide_eq_decide.mpr
  omega
theorem eC_at {x y hg a b : Nat} : eC x y hg a b (x + a) (y + b) = false := by
  unfold eC
  apply decide_eq_false
  omega
theorem eC_s {x y hg a b col row : Nat} (h : ¬ (col = x + a ∧ row = y + b)) : eC x y hg a (b + 1) col row = eC x y hg a b col row := by
  unfold eC
  apply decide_eq_decide.mpr
  omega
theorem eC_n {x y hg a b : Nat} : eC x y hg a (b + 1) (x + a) (y + b) = true := by
  unfold eC
  apply decide_eq_true
  omega
theorem el_own {x y hg a b sd co : Nat} {P : Nat → Nat} (hx : x + a < 12) (hs : sd = sdN (x + a)) : updN (plW (eC x y hg a b) sd co P) (plN (x + a) (y + b)) co = plW (eC x y hg a (b + 1)) sd co P := by
  have hs1 : sd ≤ 1 := by rw [hs]; unfold sdN; split <;> omega
  funext i
  unfold updN
  by_cases e : i = plN (x + a) (y + b)
  · rw [if_pos e]
    have h := colOf_pl (y := y + b) hx hs
    unfold plW
    rw [e, h.1, h.2, eC_n, if_pos rfl]
  · rw [if_neg e]
    unfold plW
    rw [eC_s (fun q => e (colOf_inj hx hs1 q.1 q.2).2)]
theorem el_oth {x y hg a b sd co : Nat} {P : Nat → Nat} (hx : x + a < 12) (hs1 : sd ≤ 1) (hs : ¬ sd = sdN (x + a)) : plW (eC x y hg a b) sd co P = plW (eC x y hg a (b + 1)) sd co P := by
  funext i
  unfold plW
  rw [eC_s (fun q => hs (colOf_inj hx hs1 q.1 q.2).1)]
theorem el_at {x y hg a b sd co : Nat} {P : Nat → Nat} (hx : x + a < 12) (hs : sd = sdN (x + a)) : plW (eC x y hg a b) sd co P (plN (x + a) (y + b)) = P (plN (x + a) (y + b)) := by
  have h := colOf_pl (y := y + b) hx hs
  unfold plW
  rw [h.1, h.2, eC_at, if_neg (by decide)]
theorem pf_lo {w0 w1 : Wv} {k v : Nat} (h : k < 60) : updN (plF w0 w1) k v = plF (updN (vP w0) k v, vK w0, vC w0, vN w0, vS w0, vT w0, vM w0, vO w0) w1 := by
  funext j
  show (if j = k then v else if j < 60 then vP w0 j else vP w1 (j - 60)) = (if j < 60 then (if j = k then v else vP w0 j) else vP w1 (j - 60))
  (repeat' split) <;> first | rfl | (exfalso; omega)
theorem pf_hi {w0 w1 : Wv} {k v : Nat} : updN (plF w0 w1) (60 + k) v = plF w0 (updN (vP w1) k v, vK w1, vC w1, vN w1, vS w1, vT w1, vM w1, vO w1) := by
  funext j
  show (if j = 60 + k then v else if j < 60 then vP w0 j else vP w1 (j - 60)) = (if j < 60 then vP w0 j else (if j - 60 = k then v else vP w1 (j - 60)))
  (repeat' split) <;> first | rfl | (exfalso; omega)
