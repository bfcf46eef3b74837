/-! what the calls answer and do: code (0: returned, 1 2 3: thrown), answer, state -/
abbrev Sg : Type := Wv × Wv × (Nat → Nat) × Nat × Nat
abbrev gA (s : Sg) : Wv := s.1
abbrev gB (s : Sg) : Wv := s.2.1
abbrev gK (s : Sg) : Nat → Nat := s.2.2.1
abbrev gH (s : Sg) : Nat := s.2.2.2.1
abbrev gU (s : Sg) : Nat := s.2.2.2.2
def gOk (s : Sg) : Prop := wOk (gA s) ∧ wOk (gB s) ∧ bOk (gK s)
def gW (s : Sg) (j : Nat) : Wv := if j = 0 then gA s else gB s
def gSet (s : Sg) (j : Nat) (v : Wv) : Sg := if j = 0 then (v, gB s, gK s, gH s, gU s) else (gA s, v, gK s, gH s, gU s)
abbrev tN (x : Int32) : Nat := x.toNatClampNeg
theorem tN_nI {n : Nat} (h : n < 2 ^ 31) : tN (nI n) = n := nI_clamp h
noncomputable def pick (c : Prop) (a b : Nat) : Nat := @ite _ c (Classical.propDecidable c) a b
theorem pick_t {c : Prop} {a b : Nat} (h : c) : pick c a b = a := @if_pos _ (Classical.propDecidable c) h _ _ _
theorem pick_f {c : Prop} {a b : Nat} (h : ¬ c) : pick c a b = b := @if_neg _ (Classical.propDecidable c) h _ _ _
noncomputable def cdA (c1 : Prop) : Nat := pick c1 0 1
noncomputable def cdB (c1 c2 : Prop) : Nat := pick c1 (pick c2 0 2) 1
noncomputable def cdC (c1 c2 c3 : Prop) : Nat := pick c1 (pick c2 (pick c3 0 3) 2) 1
theorem cdA_0 {c1 : Prop} (h1 : c1) : cdA c1 = 0 := pick_t h1
theorem cdA_1 {c1 : Prop} (h1 : ¬ c1) : cdA c1 = 1 := pick_f h1
theorem cdB_0 {c1 c2 : Prop} (h1 : c1) (h2 : c2) : cdB c1 c2 = 0 := (pick_t h1).trans (pick_t h2)
theorem cdB_1 {c1 c2 : Prop} (h1 : ¬ c1) : cdB c1 c2 = 1 := pick_f h1
theorem cdB_2 {c1 c2 : Prop} (h1 : c1) (h2 : ¬ c2) : cdB c1 c2 = 2 := (pick_t h1).trans (pick_f h2)
theorem cdC_0 {c1 c2 c3 : Prop} (h1 : c1) (h2 : c2) (h3 : c3) : cdC c1 c2 c3 = 0 := (pick_t h1).trans ((pick_t h2).trans (pick_t h3))
theorem cdC_1 {c1 c2 c3 : Prop} (h1 : ¬ c1) : cdC c1 c2 c3 = 1 := pick_f h1
theorem cdC_2 {c1 c2 c3 : Prop} (h1 : c1) (h2 : ¬ c2) : cdC c1 c2 c3 = 2 := (pick_t h1).trans (pick_f h2)
theorem cdC_3 {c1 c2 c3 : Prop} (h1 : c1) (h2 : c2) (h3 : ¬ c3) : cdC c1 c2 c3 = 3 := (pick_t h1).trans ((pick_t h2).trans (pick_f h3))
theorem cdA_cases (c1 : Prop) : (cdA c1 = 0 ∧ c1) ∨ (cdA c1 = 1 ∧ ¬ c1) := by
  by_cases h : c1
  · exact Or.inl ⟨cdA_0 h, h⟩
  · exact Or.inr ⟨cdA_1 h, h⟩
/-! the state behind a call that returned, in numbers -/
def sBring (s : Sg) (c k : Nat) : Sg := (gA s, gB s, updN (gK s) c (min 200 (gK s c + k)), gH s, gU s)
def wSpeed (w : Wv) (v : Nat) : Wv := (vP w, vK w, vC w, vN w, v, vT w, vM w, vO w)
def wTell (w : Wv) (c k : Nat) : Wv := (vP w, vK w, updN (vC w) (vT w) c, updN (vN w) (vT w) k, vS w, vT w + 1, vM w, vO w)
def wHush (w : Wv) : Wv := (vP w, vK w, vC w, vN w, vS w, 0, vM w, vO w)
def wUn (w : Wv) (k : Nat) : Wv := (vP w, vK w, vC w, vN w, vS w, vT w, vM w - k, vO w)
def sUn (s : Sg) (j k : Nat) : Sg := if j = 0 then (wUn (gA s) k, gB s, unB (vK (gA s)) (gK s) (vM (gA s) - k) k, gH s, gU s + k) else (gA s, wUn (gB s) k, unB (vK (gB s)) (gK s) (vM (gB s) - k) k, gH s, gU s + k)
def sPass (s : Sg) (n : Nat) : Sg := ((hrs n (gA s, gB s, gK s)).1.1, (hrs n (gA s, gB s, gK s)).1.2.1, (hrs n (gA s, gB s, gK s)).1.2.2, gH s + n, gU s)
/-! answers -/
def aCell (s : Sg) (x y k : Nat) : Int32 := if k = 0 then ktN (gA s) (gB s) x y else nI (ptN (gA s) (gB s) x y)
def aSees (s : Sg) (j x y : Nat) : Int32 := if j = sdN x ∨ ((x = 5 ∨ x = 6) ∧ y < vM (gW s j) / 6) then ktN (gA s) (gB s) x y else (-2)
def wNumW (j : Nat) (w : Wv) (k : Nat) : Int32 := wNum j (vN w) (vS w) (vT w) (vM w) (vO w) k
def aRun (w : Wv) (i k : Nat) : Nat := if k = 0 then vC w i else vN w i
def sNum (s : Sg) (k : Nat) : Nat := rNum (gA s) (gB s) (gK s) (gH s) (gU s) k
def aAdv (w : Wv) : Int32 := if vM w < 60 then nI (100 * vP w (vM w) + (alEnd (vP w) (vM w) - vM w)) else (-1)
def aMends (w : Wv) : Nat := vM w - foN (vK w) (vP w) (vM w)
/-- behind how many hours a weaver is through: n more hours may be tried, j are gone -/
def dnF (k : Nat) : Nat → Rg → Nat → Int32
  | 0, _, _ => (-1)
  | n + 1, s, j => if 0 < vT (if k = 0 then s.1 else s.2.1) ∧ vM (if k = 0 then s.1 else s.2.1) < 60 then dnF k n (hr1 s).1 (j + 1) else nI j
def aDone (s : Sg) (k : Nat) : Int32 := dnF k 101 (gA s, gB s, gK s) 0
theorem dn_s {k n j : Nat} {s : Rg} (h : 0 < vT (if k = 0 then s.1 else s.2.1) ∧ vM (if k = 0 then s.1 else s.2.1) < 60) : dnF k (n + 1) s j = dnF k n (hr1 s).1 (j + 1) := by rw [dnF, if_pos h]
theorem dn_e {k n j : Nat} {s : Rg} (h : ¬ (0 < vT (if k = 0 then s.1 else s.2.1) ∧ vM (if k = 0 then s.1 else s.2.1) < 60)) : dnF k (n + 1) s j = nI j := by rw [dnF, if_neg h]
def aFore (s : Sg) (n k : Nat) : Nat := if k = 0 then vM (sPass s n).1 + vM (sPass s n).2.1 else if k = 1 then ofN (sPass s n).1 (sPass s n).2.1 else tornN (sPass s n).1 (sPass s n).2.1 (rwN (sPass s n).1 (sPass s n).2.1)
/-! checksum -/
def cdG (s : Sg) : Nat → Int64 → Int64
  | 0, d => d
  | n + 1, d => mx (mx (cdG s n d) (ktN (gA s) (gB s) (n % 12) (n / 12))) (nI (ptN (gA s) (gB s) (n % 12) (n / 12)))
def wDg (j : Nat) (w : Wv) (d : Int64) : Int64 := mrF (vC w) (vN w) (vT w) (mxF (wNumW j w) 7 d)
def aDig (s : Sg) : Int64 := mxF (fun c => nI (gK s c)) 8 (wDg 1 (gB s) (wDg 0 (gA s) (cdG s 120 (mxF (fun k => nI (sNum s k)) 8 983))))
