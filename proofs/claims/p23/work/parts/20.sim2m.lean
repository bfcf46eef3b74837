/-! what a run told, a knot, a knot taken back do to the Sim's rows -/
theorem oA_up1 {k : Nat} {a : Nat → Nat} : va_up (oA k a) k (some (a k)) = oA (k + 1) a := by
  rw [oA_up]
  exact oA_eq (fun j hj => by unfold va_up; by_cases h : j = k <;> simp [h])
theorem un_lt {K B : Nat → Nat} {a n x : Nat} (hx : K a = x) (h : B x ≤ 200) (hl : unB K B (a + 1) n x < 200) : updN (unB K B (a + 1) n) x (unB K B (a + 1) n x + 1) = unB K B a (n + 1) := by
  rw [← unB_d hx h, Nat.min_eq_right (by omega)]
theorem un_ge {K B : Nat → Nat} {a n x : Nat} (hx : K a = x) (h : B x ≤ 200) (hl : ¬ unB K B (a + 1) n x < 200) : unB K B (a + 1) n = unB K B a (n + 1) := by
  rw [← unB_d hx h, Nat.min_eq_left (by omega)]
  funext j
  unfold updN
  by_cases e : j = x
  · subst e
    rw [if_pos rfl]
    have : unB K B (a + 1) n j ≤ 200 := by unfold unB; omega
    omega
  · rw [if_neg e]
theorem plan_knot0 {w0 w1 : Wv} {B : Nat → Nat} : planF w0 w1 = planF (knW w0 B) w1 := plan_rug (fun _ _ => rfl) (fun _ _ => rfl)
theorem plan_knot1 {w0 w1 : Wv} {B : Nat → Nat} : planF w0 w1 = planF w0 (knW w1 B) := plan_rug (fun _ _ => rfl) (fun _ _ => rfl)
theorem knO_t {w : Wv} {B : Nat → Nat} (h : takeBy B (vC w 0) = 0) : vO w + 0 = vO (knW w B) := by
  show _ = (if takeBy B (vC w 0) = 0 then vO w else vO w + 1)
  rw [if_pos h]; rfl
theorem knO_f {w : Wv} {B : Nat → Nat} (h : ¬ takeBy B (vC w 0) = 0) : vO w + 1 = vO (knW w B) := by
  show _ = (if takeBy B (vC w 0) = 0 then vO w else vO w + 1)
  rw [if_neg h]
theorem rug_tell0 {w0 w1 : Wv} {c k : Nat} : rugF w0 w1 = rugF (wTell w0 c k) w1 := rug_eq (fun _ _ => rfl) (fun _ _ => rfl)
theorem rug_tell1 {w0 w1 : Wv} {c k : Nat} : rugF w0 w1 = rugF w0 (wTell w1 c k) := rug_eq (fun _ _ => rfl) (fun _ _ => rfl)
theorem plan_tell0 {w0 w1 : Wv} {c k : Nat} : planF w0 w1 = planF (wTell w0 c k) w1 := plan_rug (fun _ _ => rfl) (fun _ _ => rfl)
theorem plan_tell1 {w0 w1 : Wv} {c k : Nat} : planF w0 w1 = planF w0 (wTell w1 c k) := plan_rug (fun _ _ => rfl) (fun _ _ => rfl)
theorem rug_un0 {w0 w1 : Wv} : rugF w0 w1 = rugF (wUn w0 0) w1 := rug_eq (fun _ _ => rfl) (fun _ _ => rfl)
theorem rug_un1 {w0 w1 : Wv} : rugF w0 w1 = rugF w0 (wUn w1 0) := rug_eq (fun _ _ => rfl) (fun _ _ => rfl)
theorem plan_un0 {w0 w1 : Wv} {k : Nat} : planF w0 w1 = planF (wUn w0 k) w1 := plan_rug (fun _ _ => rfl) (fun _ _ => rfl)
theorem plan_un1 {w0 w1 : Wv} {k : Nat} : planF w0 w1 = planF w0 (wUn w1 k) := plan_rug (fun _ _ => rfl) (fun _ _ => rfl)
theorem tail_D0 {G : kG} {ra pa qa qb : Nat → Nat} {R P RB : Fn2} {nb : Nat} {w : Wv} {B : Nat → Nat} {v : Int32} (h : vN w 0 = 1) : sT G ra pa (fun i => qa (i + 1)) qb R P (vT w - 1) (fun i => updR (runF w) 0 1 v (i + 1)) nb RB = sT G ra pa (fun i => qa (i + 1)) qb R P (vT w - 1) (runF (knW w B)) nb RB :=
  sT_eq (fun _ _ => rfl) (fun _ _ => rfl) (fun i hi => ⟨rfl, runF_knotD h (by omega)⟩) (fun _ _ => ⟨rfl, rfl⟩)
theorem tail_D1 {G : kG} {ra pa qa qb : Nat → Nat} {R P RA : Fn2} {na : Nat} {w : Wv} {B : Nat → Nat} {v : Int32} (h : vN w 0 = 1) : sT G ra pa qa (fun i => qb (i + 1)) R P na RA (vT w - 1) (fun i => updR (runF w) 0 1 v (i + 1)) = sT G ra pa qa (fun i => qb (i + 1)) R P na RA (vT w - 1) (runF (knW w B)) :=
  sT_eq (fun _ _ => rfl) (fun _ _ => rfl) (fun _ _ => ⟨rfl, rfl⟩) (fun i hi => ⟨rfl, runF_knotD h (by omega)⟩)
/-! rows done -/
theorem pl_row0 {k y : Nat} (hk : k < 6) : plN (colOf 0 k) y = 6 * y + k := by
  unfold plN colOf
  rw [if_pos rfl, if_pos (by omega)]; omega
theorem pl_row1 {k y : Nat} (hk : k < 6) : plN (colOf 1 k) y = 6 * y + k := by
  unfold plN colOf
  rw [if_neg (show ¬ (1 : Nat) = 0 by decide), if_neg (by omega)]; omega
theorem rug_r0 {w0 w1 : Wv} {k y : Nat} (hk : k < 6) (hy : y < 10) : rugF w0 w1 (colOf 0 k) y = kaW w0 (6 * y + k) := by
  rw [rugF_at colOf_lt hy]
  unfold ktN
  rw [rg_col0, pl_row0 hk]
theorem rug_r1 {w0 w1 : Wv} {k y : Nat} (hk : k < 6) (hy : y < 10) : rugF w0 w1 (colOf 1 k) y = kaW w1 (6 * y + k) := by
  rw [rugF_at colOf_lt hy]
  unfold ktN
  rw [rg_col1, pl_row1 hk]
theorem rug_5 {w0 w1 : Wv} {y : Nat} (h : y < vM w0 / 6) (hy : y < 10) : rugF w0 w1 5 y = nI (vK w0 (plN 6 y)) := by
  rw [rugF_at (by decide) hy, kt5 h]
theorem rug_6 {w0 w1 : Wv} {y : Nat} (h : y < vM w1 / 6) (hy : y < 10) : rugF w0 w1 6 y = nI (vK w1 (plN 6 y)) := by
  rw [rugF_at (by decide) hy, kt6 h]
theorem pt_5 {w0 w1 : Wv} {y : Nat} : ptN w0 w1 5 y = vP w0 (plN 6 y) := by
  unfold ptN rgW
  rw [if_pos (by decide), pl56]
theorem pt_6 {w0 w1 : Wv} {y : Nat} : ptN w0 w1 6 y = vP w1 (plN 6 y) := by
  unfold ptN rgW
  rw [if_neg (by decide)]
theorem tq_e {w0 w1 : Wv} {y : Nat} (hy : y < rwN w0 w1) (h : vK w0 (plN 6 y) = vK w1 (plN 6 y) ↔ vP w0 (plN 6 y) = vP w1 (plN 6 y)) : tornN w0 w1 (min y (rwN w0 w1)) + 0 = tornN w0 w1 (min (y + 1) (rwN w0 w1)) := by
  rw [Nat.min_eq_left (by omega), Nat.min_eq_left (by omega), tornN_e h]; rfl
theorem tq_n {w0 w1 : Wv} {y : Nat} (hy : y < rwN w0 w1) (h : ¬ (vK w0 (plN 6 y) = vK w1 (plN 6 y) ↔ vP w0 (plN 6 y) = vP w1 (plN 6 y))) : tornN w0 w1 (min y (rwN w0 w1)) + 1 = tornN w0 w1 (min (y + 1) (rwN w0 w1)) := by
  rw [Nat.min_eq_left (by omega), Nat.min_eq_left (by omega), tornN_n h]
theorem tq_o {w0 w1 : Wv} {y : Nat} (hy : ¬ y < rwN w0 w1) : tornN w0 w1 (min y (rwN w0 w1)) = tornN w0 w1 (min (y + 1) (rwN w0 w1)) := by
  rw [Nat.min_eq_right (by omega), Nat.min_eq_right (by omega)]
/-! knots that differ, cell by cell -/
def dfE (w0 w1 : Wv) (x y : Nat) : Nat := if ¬ ktN w0 w1 x y < 0 ∧ ¬ ktN w0 w1 x y = nI (ptN w0 w1 x y) then 1 else 0
theorem dfE_1 {w0 w1 : Wv} {x y : Nat} (h1 : ¬ ktN w0 w1 x y < 0) (h2 : ¬ ktN w0 w1 x y = nI (ptN w0 w1 x y)) : dfE w0 w1 x y = 1 := if_pos ⟨h1, h2⟩
theorem dfE_a {w0 w1 : Wv} {x y : Nat} (h1 : ktN w0 w1 x y < 0) : dfE w0 w1 x y = 0 := if_neg (fun q => q.1 h1)
theorem dfE_b {w0 w1 : Wv} {x y : Nat} (h1 : ktN w0 w1 x y = nI (ptN w0 w1 x y)) : dfE w0 w1 x y = 0 := if_neg (fun q => q.2 h1)
def dfN (w0 w1 : Wv) : Nat := sumN (fun x => sumN (fun y => dfE w0 w1 x y) 10) 12
def dfH (w : Wv) (k : Nat) : Nat := if k < vM w ∧ ¬ vK w k = vP w k then 1 else 0
theorem sumN_congr {f g : Nat → Nat} : ∀ {n : Nat}, (∀ i, i < n → f i = g i) → sumN f n = sumN g n
  | 0, _ => rfl
  | n + 1, h => by rw [sumN, sumN, sumN_congr (fun i hi => h i (by omega)), h n (by omega)]
theorem sumN_split {f : Nat → Nat} : ∀ (a b : Nat), sumN f (a + b) = sumN f a + sumN (fun i => f (a + i)) b
  | a, 0 => rfl
  | a, b + 1 => by
    show sumN f (a + b) + f (a + b) = sumN f a + (sumN (fun i => f (a + i)) b + f (a + b))
    rw [sumN_split a b]; omega
theorem sumN_rows {f : Nat → Nat} : ∀ n, sumN f (6 * n) = sumN (fun y => sumN (fun x => f (6 * y + x)) 6) n
  | 0 => rfl
  | n + 1 => by
    rw [show 6 * (n + 1) = 6 * n + 6 by omega, sumN_split, sumN_rows n]
    rfl
theorem sumN_rev {f : Nat → Nat} : sumN (fun x => f (5 - x)) 6 = sumN f 6 := by
  show 0 + f 5 + f 4 + f 3 + f 2 + f 1 + f 0 = 0 + f 0 + f 1 + f 2 + f 3 + f 4 + f 5
  omega
theorem off_sum {w : Wv} : ∀ (n : Nat), n ≤ vM w → offN (vK w) (vP w) n = sumN (dfH w) n
  | 0, _ => rfl
  | n + 1, h => by
    rw [sumN, ← off_sum n (by omega)]
    unfold dfH
    by_cases e : vK w n = vP w n
    · rw [offN_s e, if_neg (fun q => q.2 e)]; rfl
    · rw [offN_d e, if_pos ⟨by omega, e⟩]
theorem off_sum60 {w : Wv} (h : vM w ≤ 60) : offN (vK w) (vP w) (vM w) = sumN (dfH w) 60 := by
  have hs := sumN_split (f := dfH w) (vM w) (60 - vM w)
  rw [show vM w + (60 - vM w) = 60 by omega] at hs
  have : sumN (fun i => dfH w (vM w + i)) (60 - vM w) = sumN (fun _ => 0) (60 - vM w) := sumN_congr (fun i _ => if_neg (by omega))
  rw [off_sum _ (Nat.le_refl _), hs, this, sumN_zero]; rfl
theorem df_e0 {w0 w1 : Wv} (h0 : wOk w0) {x y : Nat} (hx : x < 6) (hy : y < 10) : dfE w0 w1 x y = dfH w0 (6 * y + x) := by
  have hk : ktN w0 w1 x y = kaW w0 (6 * y + x) := by
    unfold ktN rgW plN
    rw [if_pos hx, if_pos hx]
  have hp : ptN w0 w1 x y = vP w0 (6 * y + x) := by
    unfold ptN rgW plN
    rw [if_pos hx, if_pos hx]
  unfold dfE dfH
  rw [hk, hp]
  have h1 := kaW_iff h0 (show 6 * y + x < 60 by omega)
  by_cases hm : 6 * y + x < vM w0
  · have e : kaW w0 (6 * y + x) = nI (vK w0 (6 * y + x)) := (kaN_t hm).symm
    have hK := h0.2.2.2.2.2.1 _ (show 6 * y + x < 60 by omega)
    have hP := h0.2.2.2.2.1 _ (show 6 * y + x < 60 by omega)
    rw [e]
    by_cases hd : vK w0 (6 * y + x) = vP w0 (6 * y + x)
    · rw [if_neg (fun q => q.2 (congrArg nI hd)), if_neg (fun q => q.2 hd)]
    · rw [if_pos ⟨nI_pos (by omega), fun q => hd ((nI_eq (by omega) (by omega)).mp q)⟩, if_pos ⟨hm, hd⟩]
  · rw [if_neg (fun q => q.1 (h1.mpr hm)), if_neg (fun q => hm q.1)]
theorem df_e1 {w0 w1 : Wv} (h0 : wOk w1) {x y : Nat} (hx : x < 6) (hy : y < 10) : dfE w0 w1 (6 + x) y = dfH w1 (6 * y + (5 - x)) := by
  have hk : ktN w0 w1 (6 + x) y = kaW w1 (6 * y + (5 - x)) := by
    unfold ktN rgW plN
    rw [if_neg (by omega), if_neg (by omega), show 11 - (6 + x) = 5 - x by omega]
  have hp : ptN w0 w1 (6 + x) y = vP w1 (6 * y + (5 - x)) := by
    unfold ptN rgW plN
    rw [if_neg (by omega), if_neg (by omega), show 11 - (6 + x) = 5 - x by omega]
  unfold dfE dfH
  rw [hk, hp]
  have h1 := kaW_iff h0 (show 6 * y + (5 - x) < 60 by omega)
  by_cases hm : 6 * y + (5 - x) < vM w1
  · have e : kaW w1 (6 * y + (5 - x)) = nI (vK w1 (6 * y + (5 - x))) := (kaN_t hm).symm
    have hK := h0.2.2.2.2.2.1 _ (show 6 * y + (5 - x) < 60 by omega)
    have hP := h0.2.2.2.2.1 _ (show 6 * y + (5 - x) < 60 by omega)
    rw [e]
    by_cases hd : vK w1 (6 * y + (5 - x)) = vP w1 (6 * y + (5 - x))
    · rw [if_neg (fun q => q.2 (congrArg nI hd)), if_neg (fun q => q.2 hd)]
    · rw [if_pos ⟨nI_pos (by omega), fun q => hd ((nI_eq (by omega) (by omega)).mp q)⟩, if_pos ⟨hm, hd⟩]
  · rw [if_neg (fun q => q.1 (h1.mpr hm)), if_neg (fun q => hm q.1)]
theorem dfN_a {w0 w1 : Wv} (h0 : wOk w0) : sumN (fun x => sumN (fun y => dfE w0 w1 x y) 10) 6 = sumN (dfH w0) (6 * 10) :=
  ((sumN_congr (fun x hx => sumN_congr (fun y hy => df_e0 h0 hx hy))).trans (sum_swap (f := fun x y => dfH w0 (6 * y + x)) 6)).trans (sumN_rows 10).symm
theorem dfN_b {w0 w1 : Wv} (h1 : wOk w1) : sumN (fun x => sumN (fun y => dfE w0 w1 (6 + x) y) 10) 6 = sumN (dfH w1) (6 * 10) :=
  (((sumN_congr (fun x hx => sumN_congr (fun y hy => df_e1 h1 hx hy))).trans (sum_swap (f := fun x y => dfH w1 (6 * y + (5 - x))) 6)).trans (sumN_congr (fun y _ => sumN_rev (f := fun x => dfH w1 (6 * y + x))))).trans (sumN_rows 10).symm
theorem dfN_eq {w0 w1 : Wv} (h0 : wOk w0) (h1 : wOk w1) : dfN w0 w1 = ofN w0 w1 := by
  have e : dfN w0 w1 = sumN (fun x => sumN (fun y => dfE w0 w1 x y) 10) 6 + sumN (fun x => sumN (fun y => dfE w0 w1 (6 + x) y) 10) 6 := sumN_split (f := fun x => sumN (fun y => dfE w0 w1 x y) 10) 6 6
  rw [e, dfN_a h0, dfN_b h1]
  unfold ofN
  rw [off_sum60 h0.2.2.2.1, off_sum60 h1.2.2.2.1]
