/-! numbers and rows of numbers -/
def updN (f : Nat → Nat) (k v : Nat) : Nat → Nat := fun j => if j = k then v else f j
theorem updN_self {f : Nat → Nat} {k v : Nat} : updN f k v k = v := if_pos rfl
theorem updN_ne {f : Nat → Nat} {k v j : Nat} (h : j ≠ k) : updN f k v j = f j := if_neg h
theorem nR_at {f : Nat → Nat} {k : Nat} (h : k < 2 ^ 31) : nR f (nI k).toNatClampNeg = nI (f k) := by
  rw [nI_clamp h]; rfl
theorem nR_upd {f : Nat → Nat} {k v : Nat} (h : k < 2 ^ 31) : upd (nR f) (nI k).toNatClampNeg (nI v) = nR (updN f k v) := by
  rw [nI_clamp h]
  funext j
  show (if j = k then nI v else nI (f j)) = nI (if j = k then v else f j)
  split <;> rfl
theorem k_eq0 {a : Nat} (h : a < 2 ^ 31) : nI a = 0 ↔ a = 0 := by
  have := nI_eq h (show 0 < 2 ^ 31 by decide)
  rw [nI_0] at this
  exact this
theorem k_gt0 {a : Nat} (h : a < 2 ^ 31) : 0 < nI a ↔ 0 < a := by
  have := nI_ltI (show 0 < 2 ^ 31 by decide) h
  rw [nI_0] at this
  exact this
theorem k_le0 {a : Nat} (h : a < 2 ^ 31) : nI a ≤ 0 ↔ a = 0 := by
  have := nI_leI h (show 0 < 2 ^ 31 by decide)
  rw [nI_0] at this
  exact this.trans (by omega)
theorem k_min {a b : Nat} (ha : a < 2 ^ 31) (hb : b < 2 ^ 31) : (if nI b < nI a then nI b else nI a) = nI (min a b) := by
  by_cases h : b < a
  · rw [if_pos ((nI_ltI hb ha).mpr h), Nat.min_eq_right (by omega)]
  · rw [if_neg (fun q => h ((nI_ltI hb ha).mp q)), Nat.min_eq_left (by omega)]
theorem k_cell {cA : ClassId} {n : Nat} {f g : Nat → Int32} (h : ∀ j, j < n → f j = g j) : vp_cell cA (n, .inl f) = vp_cell cA (n, .inl g) := by
  have e : (fun j : Fin n => Value.int (f j.val)) = fun j => Value.int (g j.val) := funext fun j => by rw [h j.val j.isLt]
  show ({ cls := cA, slots := Array.ofFn (n := n) (fun j => Value.int (f j.val)), vm := .none } : Cell) = { cls := cA, slots := Array.ofFn (n := n) (fun j => Value.int (g j.val)), vm := .none }
  rw [e]
/-- an int row's contents count as far as it is long -/
theorem kP_swap {D : va_G} {cl : List vw_C} {ws ws' : va_W} {H : Heap} {a n : Nat} {cA : ClassId} {f : Nat → Int32} (h : va_P D cl ws H) (q : Nat) (g : Nat → Int32) (hq : ws[q]? = some (a, .inl (cA, n, .inl f))) (hw : ws' = ws.set q (a, .inl (cA, n, .inl g))) (hfg : ∀ j, j < n → f j = g j) : va_P D cl ws' H := by
  subst hw
  have hl := (List.getElem?_eq_some_iff.mp hq).1
  intro k x hk
  by_cases hkq : k = q
  · subst hkq
    rw [List.getElem?_set_self hl] at hk
    cases hk
    have h1 := h k _ hq
    show H[a]? = some (vp_cell cA (n, .inl g))
    rw [← k_cell hfg]
    exact h1
  · rw [List.getElem?_set_ne (Ne.symm hkq)] at hk
    exact h k x hk
theorem kD_swap {A : Nat → Prop} {ws ws' : va_W} {a : Nat} {e0 e : va_E} (h : va_D A ws) (q : Nat) (hq : ws[q]? = some (a, e0)) (hw : ws' = ws.set q (a, e)) : va_D A ws' := by
  subst hw
  exact h.set hq
def cpN (f g : Nat → Nat) (i : Nat) : Nat → Nat := fun j => if j < i then f j else g j
theorem cpN_0 {f g : Nat → Nat} : cpN f g 0 = g := funext fun j => if_neg (Nat.not_lt_zero j)
theorem cpN_1 {f g : Nat → Nat} {i : Nat} : updN (cpN f g i) i (f i) = cpN f g (i + 1) := by
  funext j
  unfold updN cpN
  by_cases h : j = i
  · subst h; rw [if_pos rfl, if_pos (Nat.lt_succ_self j)]
  · rw [if_neg h]
    by_cases h2 : j < i
    · rw [if_pos h2, if_pos (by omega)]
    · rw [if_neg h2, if_neg (by omega)]
def shf (f : Nat → Nat) (t : Nat) : Nat → Nat := fun i => if i + 1 < t then f (i + 1) else f i
theorem shf_1 {f : Nat → Nat} : shf f 1 = f := funext fun i => if_neg (by omega)
theorem shf_at {f : Nat → Nat} {i : Nat} : shf f i i = f i := if_neg (by omega)
theorem shf_s {f : Nat → Nat} {i : Nat} (h : 1 ≤ i) : updN (shf f i) (i - 1) (f i) = shf f (i + 1) := by
  funext j
  unfold updN shf
  by_cases h1 : j = i - 1
  · subst h1; rw [if_pos rfl, if_pos (by omega), show i - 1 + 1 = i by omega]
  · rw [if_neg h1]
    by_cases h2 : j + 1 < i
    · rw [if_pos h2, if_pos (by omega)]
    · rw [if_neg h2, if_neg (by omega)]
/-! a weaver: plan, knots, the runs' colours, the runs' knots; speed, runs, knots made, knots in another colour -/
abbrev Wv : Type := (Nat → Nat) × (Nat → Nat) × (Nat → Nat) × (Nat → Nat) × Nat × Nat × Nat × Nat
abbrev vP (w : Wv) : Nat → Nat := w.1
abbrev vK (w : Wv) : Nat → Nat := w.2.1
abbrev vC (w : Wv) : Nat → Nat := w.2.2.1
abbrev vN (w : Wv) : Nat → Nat := w.2.2.2.1
abbrev vS (w : Wv) : Nat := w.2.2.2.2.1
abbrev vT (w : Wv) : Nat := w.2.2.2.2.2.1
abbrev vM (w : Wv) : Nat := w.2.2.2.2.2.2.1
abbrev vO (w : Wv) : Nat := w.2.2.2.2.2.2.2
def wOk (w : Wv) : Prop := 1 ≤ vS w ∧ vS w ≤ 6 ∧ vT w ≤ 20 ∧ vM w ≤ 60 ∧ (∀ i, i < 60 → vP w i < 8) ∧ (∀ i, i < 60 → vK w i < 8) ∧ (∀ i, i < vT w → vC w i < 8) ∧ (∀ i, i < vT w → 1 ≤ vN w i ∧ vN w i ≤ 60)
def bOk (B : Nat → Nat) : Prop := ∀ c, c < 8 → B c ≤ 200
/-! sums -/
def offN (K P : Nat → Nat) : Nat → Nat
  | 0 => 0
  | n + 1 => offN K P n + (if K n = P n then 0 else 1)
theorem offN_s {K P : Nat → Nat} {n : Nat} (h : K n = P n) : offN K P (n + 1) = offN K P n := by simp [offN, h]
theorem offN_d {K P : Nat → Nat} {n : Nat} (h : ¬ K n = P n) : offN K P (n + 1) = offN K P n + 1 := by simp [offN, h]
theorem offN_le {K P : Nat → Nat} : ∀ n, offN K P n ≤ n
  | 0 => Nat.le_refl _
  | n + 1 => by
    have := offN_le (K := K) (P := P) n
    by_cases h : K n = P n
    · rw [offN_s h]; omega
    · rw [offN_d h]; omega
def sumN (f : Nat → Nat) : Nat → Nat
  | 0 => 0
  | n + 1 => sumN f n + f n
def zeroN (f : Nat → Nat) : Nat → Nat
  | 0 => 0
  | n + 1 => zeroN f n + (if f n = 0 then 1 else 0)
theorem zeroN_z {f : Nat → Nat} {n : Nat} (h : f n = 0) : zeroN f (n + 1) = zeroN f n + 1 := by simp [zeroN, h]
theorem zeroN_n {f : Nat → Nat} {n : Nat} (h : ¬ f n = 0) : zeroN f (n + 1) = zeroN f n := by simp [zeroN, h]
/-! searching on -/
def tkB (B : Nat → Nat) (c : Nat) : Nat → Nat → Nat
  | 0, b => b
  | f + 1, b => if B ((c + b) % 8) = 0 then tkB B c f (b + 1) else b
def takeBy (B : Nat → Nat) (c : Nat) : Nat := tkB B c 8 0
theorem tk_hit {B : Nat → Nat} {c b t : Nat} (hb : b < 8) (h : tkB B c (8 - b) b = t) (hB : ¬ B ((c + b) % 8) = 0) : t = b := by
  rw [show 8 - b = (7 - b) + 1 by omega, tkB, if_neg hB] at h
  exact h.symm
theorem tk_miss {B : Nat → Nat} {c b t : Nat} (hb : b < 8) (h : tkB B c (8 - b) b = t) (hB : B ((c + b) % 8) = 0) : tkB B c (8 - (b + 1)) (b + 1) = t := by
  rw [show 8 - b = (8 - (b + 1)) + 1 by omega, tkB, if_pos hB] at h
  exact h
theorem tk_end {B : Nat → Nat} {c b t : Nat} (hb : b = 8) (h : tkB B c (8 - b) b = t) : t = 8 := by
  subst hb
  exact h.symm
theorem tk_le {B : Nat → Nat} {c : Nat} : ∀ (f b : Nat), tkB B c f b ≤ b + f
  | 0, b => Nat.le_refl _
  | f + 1, b => by
    rw [tkB]
    split
    · have := tk_le (B := B) (c := c) f (b + 1); omega
    · omega
theorem tk_pos {B : Nat → Nat} {c : Nat} : ∀ (f b : Nat), tkB B c f b < b + f → B ((c + tkB B c f b) % 8) ≠ 0
  | 0, b, h => by rw [tkB] at h; omega
  | f + 1, b, h => by
    rw [tkB] at h ⊢
    split
    · rename_i h1
      rw [if_pos h1] at h
      exact tk_pos f (b + 1) (by omega)
    · rename_i h1
      exact h1
theorem takeBy_pos {B : Nat → Nat} {c : Nat} (h : takeBy B c < 8) : B ((c + takeBy B c) % 8) ≠ 0 := tk_pos 8 0 (by show tkB B c 8 0 < 0 + 8; unfold takeBy at h; omega)
def takeR (B : Nat → Nat) (c : Nat) : Int32 := if takeBy B c < 8 then nI ((c + takeBy B c) % 8) else (-1)
def takeB (B : Nat → Nat) (c : Nat) : Nat → Nat := if takeBy B c < 8 then updN B ((c + takeBy B c) % 8) (B ((c + takeBy B c) % 8) - 1) else B
theorem takeR_t {B : Nat → Nat} {c b : Nat} (hb : b < 8) (h : takeBy B c = b) : nI ((c + b) % 8) = takeR B c := by unfold takeR; rw [h, if_pos hb]
theorem takeB_t {B : Nat → Nat} {c b : Nat} (hb : b < 8) (h : takeBy B c = b) : updN B ((c + b) % 8) (B ((c + b) % 8) - 1) = takeB B c := by unfold takeB; rw [h, if_pos hb]
theorem takeR_f {B : Nat → Nat} {c : Nat} (h : takeBy B c = 8) : (-1 : Int32) = takeR B c := by unfold takeR; rw [h, if_neg (by omega)]
theorem takeB_f {B : Nat → Nat} {c : Nat} (h : takeBy B c = 8) : B = takeB B c := by unfold takeB; rw [h, if_neg (by omega)]
/-! arguments within their bounds -/
def inR (x : Int32) (n : Nat) : Prop := ∃ j : Nat, j < n ∧ x = nI j
def inG (x : Int32) (a b : Nat) : Prop := ∃ j : Nat, a ≤ j ∧ j ≤ b ∧ x = nI j
theorem inR_of {x : Int32} {n : Nat} (hn : n < 2 ^ 31) (h1 : ¬ x < 0) (h2 : x < nI n) : inR x n := by
  rcases pk_ix x hn with h | h | ⟨j, h, e⟩
  · exact absurd h h1
  · exact absurd h2 (Int32.not_lt.mpr h)
  · exact ⟨j, h, e⟩
theorem inR_lo {x : Int32} {n : Nat} (hn : n < 2 ^ 31) (h1 : x < 0) : ¬ inR x n := by
  rintro ⟨j, h, rfl⟩
  exact nI_pos (by omega) h1
theorem inR_hi {x : Int32} {n : Nat} (hn : n < 2 ^ 31) (h1 : ¬ x < nI n) : ¬ inR x n := by
  rintro ⟨j, h, rfl⟩
  exact h1 ((nI_ltI (by omega) hn).mpr h)
theorem inG_of {x : Int32} {a b : Nat} (ha : a < 2 ^ 31) (hb : b < 2 ^ 31 - 1) (h1 : ¬ x < nI a) (h2 : x ≤ nI b) : inG x a b := by
  rcases pk_ix x (n := b + 1) (by omega) with h | h | ⟨j, h, e⟩
  · refine absurd ?_ h1
    have h0 : (0 : Int32) ≤ nI a := nI_pos' ha
    exact Int32.lt_of_lt_of_le h h0
  · have h3 : nI (b + 1) ≤ nI b := Int32.le_trans h h2
    exact absurd ((nI_leI (by omega) (by omega)).mp h3) (by omega)
  · subst e
    exact ⟨j, Nat.not_lt.mp (fun q => h1 ((nI_ltI (by omega) ha).mpr q)), by omega, rfl⟩
theorem inG_lo {x : Int32} {a b : Nat} (ha : a < 2 ^ 31) (hb : b < 2 ^ 31) (h1 : x < nI a) : ¬ inG x a b := by
  rintro ⟨j, h, h2, rfl⟩
  exact absurd ((nI_ltI (by omega) ha).mp h1) (by omega)
theorem inG_hi {x : Int32} {a b : Nat} (hb : b < 2 ^ 31) (h1 : ¬ x ≤ nI b) : ¬ inG x a b := by
  rintro ⟨j, h, h2, rfl⟩
  exact h1 ((nI_leI (by omega) hb).mpr h2)
theorem inG0 {x : Int32} {n : Nat} : inG x 0 n ↔ inR x (n + 1) := ⟨fun ⟨j, _, h, e⟩ => ⟨j, by omega, e⟩, fun ⟨j, h, e⟩ => ⟨j, Nat.zero_le j, by omega, e⟩⟩
def sdN (x : Nat) : Nat := if x < 6 then 0 else 1
def plN (x y : Nat) : Nat := 6 * y + (if x < 6 then x else 11 - x)
def mx (d : Int64) (x : Int32) : Int64 := d * 31 + x.toInt64
