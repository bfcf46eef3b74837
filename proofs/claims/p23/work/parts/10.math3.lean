/-! the rug: hours, counts -/
abbrev Rg : Type := Wv × Wv × (Nat → Nat)
def hr1 (s : Rg) : Rg × Nat := (((wk s.1 s.2.2).1, (wk s.2.1 (wk s.1 s.2.2).2.1).1, (wk s.2.1 (wk s.1 s.2.2).2.1).2.1), (wk s.1 s.2.2).2.2 + (wk s.2.1 (wk s.1 s.2.2).2.1).2.2)
def hrs : Nat → Rg → Rg × Nat
  | 0, s => (s, 0)
  | n + 1, s => ((hrs n (hr1 s).1).1, (hr1 s).2 + (hrs n (hr1 s).1).2)
def rOk (s : Rg) : Prop := wOk s.1 ∧ wOk s.2.1 ∧ bOk s.2.2
theorem hr1_ok {s : Rg} (h : rOk s) : rOk (hr1 s).1 := by
  have h1 := wk_ok h.1 h.2.2
  have h2 := wk_ok h.2.1 h1.2.1
  exact ⟨h1.1, h2.1, h2.2.1⟩
theorem hrs_ok : ∀ (n : Nat) {s : Rg}, rOk s → rOk (hrs n s).1
  | 0, _, h => h
  | n + 1, _, h => hrs_ok n (hr1_ok h)
def hrI (n : Nat) (s0 s : Rg) (j acc : Nat) : Prop := j ≤ n ∧ rOk s ∧ (hrs (n - j) s).1 = (hrs n s0).1 ∧ acc + (hrs (n - j) s).2 = (hrs n s0).2
theorem hrI_0 {n : Nat} {s : Rg} (h : rOk s) : hrI n s s 0 0 := ⟨Nat.zero_le _, h, rfl, Nat.zero_add _⟩
theorem hrI_s {n : Nat} {s0 s : Rg} {j acc : Nat} (h : hrI n s0 s j acc) (hj : j < n) : hrI n s0 (hr1 s).1 (j + 1) (acc + (wk s.1 s.2.2).2.2 + (wk s.2.1 (wk s.1 s.2.2).2.1).2.2) := by
  obtain ⟨a1, a2, a3, a4⟩ := h
  rw [show n - j = (n - (j + 1)) + 1 by omega, hrs] at a3 a4
  refine ⟨hj, hr1_ok a2, a3, ?_⟩
  rw [← a4]
  show _ + _ + _ + _ = acc + ((_ + _) + _)
  omega
theorem hrI_e {n : Nat} {s0 s : Rg} {j acc : Nat} (h : hrI n s0 s j acc) (hj : ¬ j < n) : j = n ∧ s = (hrs n s0).1 ∧ acc = (hrs n s0).2 := by
  obtain ⟨a1, a2, a3, a4⟩ := h
  rw [show n - j = 0 by omega, hrs] at a3 a4
  exact ⟨by omega, a3, a4⟩
theorem plN_lt {x y : Nat} (hx : x < 12) (hy : y < 10) : plN x y < 60 := by
  unfold plN; split <;> omega
def rgW (w0 w1 : Wv) (x : Nat) : Wv := if x < 6 then w0 else w1
def ktN (w0 w1 : Wv) (x y : Nat) : Int32 := kaN (vK (rgW w0 w1 x)) (vM (rgW w0 w1 x)) (plN x y)
def ptN (w0 w1 : Wv) (x y : Nat) : Nat := vP (rgW w0 w1 x) (plN x y)
def tornN (w0 w1 : Wv) : Nat → Nat
  | 0 => 0
  | n + 1 => tornN w0 w1 n + (if (vK w0 (plN 6 n) = vK w1 (plN 6 n) ↔ vP w0 (plN 6 n) = vP w1 (plN 6 n)) then 0 else 1)
theorem tornN_e {w0 w1 : Wv} {n : Nat} (h : vK w0 (plN 6 n) = vK w1 (plN 6 n) ↔ vP w0 (plN 6 n) = vP w1 (plN 6 n)) : tornN w0 w1 (n + 1) = tornN w0 w1 n := by
  rw [tornN, if_pos h]; rfl
theorem tornN_n {w0 w1 : Wv} {n : Nat} (h : ¬ (vK w0 (plN 6 n) = vK w1 (plN 6 n) ↔ vP w0 (plN 6 n) = vP w1 (plN 6 n))) : tornN w0 w1 (n + 1) = tornN w0 w1 n + 1 := by
  rw [tornN, if_neg h]
theorem tornN_le {w0 w1 : Wv} : ∀ n, tornN w0 w1 n ≤ n
  | 0 => Nat.le_refl _
  | n + 1 => by
    have := tornN_le (w0 := w0) (w1 := w1) n
    rw [tornN]; split <;> omega
def rwN (w0 w1 : Wv) : Nat := min (vM w0 / 6) (vM w1 / 6)
def ofN (w0 w1 : Wv) : Nat := offN (vK w0) (vP w0) (vM w0) + offN (vK w1) (vP w1) (vM w1)
def rNum (w0 w1 : Wv) (bf : Nat → Nat) (hr un k : Nat) : Nat :=
  if k = 0 then hr else if k = 1 then vM w0 + vM w1 else if k = 2 then ofN w0 w1 else if k = 3 then rwN w0 w1 else if k = 4 then tornN w0 w1 (rwN w0 w1) else if k = 5 then sumN bf 8 else if k = 6 then zeroN bf 8 else un
