/-! the model's knot and hours -/
def cpyN (f : Nat → Nat) (sp dp n : Nat) : Nat → Nat := fun k => if dp ≤ k ∧ k < dp + n then f (sp + (k - dp)) else f k
theorem nR_cpy {f : Nat → Nat} {sp dp n : Nat} : va_cpy (nR f) (nR f) sp dp n = nR (cpyN f sp dp n) := by
  funext k
  show (if dp ≤ k ∧ k < dp + n then nI (f (sp + (k - dp))) else nI (f k)) = nI (if dp ≤ k ∧ k < dp + n then f (sp + (k - dp)) else f k)
  split <;> rfl
theorem cpyN_in {f : Nat → Nat} {sp dp n k : Nat} (h : dp ≤ k) (h2 : k < dp + n) : cpyN f sp dp n k = f (sp + (k - dp)) := if_pos ⟨h, h2⟩
theorem cpyN_out {f : Nat → Nat} {sp dp n k : Nat} (h : ¬ (dp ≤ k ∧ k < dp + n)) : cpyN f sp dp n k = f k := if_neg h
def wKn (w : Wv) (m v : Nat) : Wv := (vP w, updN (vK w) m v, vC w, vN w, vS w, vT w, vM w, vO w)
theorem kn_0 {w0 w1 : Wv} {m v : Nat} (h : m < 60) : updN (knF w0 w1) (0 + m) v = knF (wKn w0 m v) w1 := by
  funext j
  show (if j = 0 + m then v else if j < 60 then vK w0 j else vK w1 (j - 60)) = (if j < 60 then (if j = m then v else vK w0 j) else vK w1 (j - 60))
  (repeat' split) <;> first | rfl | (exfalso; omega)
theorem kn_1 {w0 w1 : Wv} {m v : Nat} : updN (knF w0 w1) (60 + m) v = knF w0 (wKn w1 m v) := by
  funext j
  show (if j = 60 + m then v else if j < 60 then vK w0 j else vK w1 (j - 60)) = (if j < 60 then vK w0 j else (if j - 60 = m then v else vK w1 (j - 60)))
  (repeat' split) <;> first | rfl | (exfalso; omega)
theorem peF_a {a b w1 : Wv} (h1 : vS a = vS b) (h2 : vM a = vM b) (h3 : vT a = vT b) (h4 : vO a = vO b) : peF a w1 = peF b w1 := by
  unfold peF; rw [h1, h2, h3, h4]
theorem peF_b {a b w0 : Wv} (h1 : vS a = vS b) (h2 : vM a = vM b) (h3 : vT a = vT b) (h4 : vO a = vO b) : peF w0 a = peF w0 b := by
  unfold peF; rw [h1, h2, h3, h4]
theorem knF_a {a b w1 : Wv} (h : vK a = vK b) : knF a w1 = knF b w1 := by unfold knF; rw [h]
theorem knF_b {a b w0 : Wv} (h : vK a = vK b) : knF w0 a = knF w0 b := by unfold knF; rw [h]
theorem shT_1 {nf : Nat → Nat} {td : Nat} (h : nf 0 = 1) : td - 1 = shT nf td := by unfold shT; rw [if_pos h]
theorem shT_n {nf : Nat → Nat} {td : Nat} (h : ¬ nf 0 = 1) : td = shT nf td := by unfold shT; rw [if_neg h]
theorem ruOk_a0 {w0 w1 : Wv} {B ru : Nat → Nat} (h : ruOk w0 w1 ru) (hn : ¬ vN w0 0 = 1) : ruOk (knW w0 B) w1 (updN ru (2 * (0 + 0) + 1) (vN w0 0 - 1)) := by
  refine ⟨fun i hi => ?_, fun i hi => ?_⟩
  · have hi : i < shT (vN w0) (vT w0) := hi
    rw [← shT_n hn] at hi
    have h9 := h.1 i hi
    show updN _ _ _ _ = shC (vC w0) (vN w0) (vT w0) i ∧ updN _ _ _ _ = shN (vN w0) (vT w0) i
    unfold shC shN
    rw [if_neg hn, if_neg hn, updN_ne (by omega)]
    refine ⟨h9.1, ?_⟩
    by_cases e : i = 0
    · subst e; rw [updN_self, updN_self]
    · rw [updN_ne (by omega), updN_ne e]; exact h9.2
  · rw [updN_ne (by omega), updN_ne (by omega)]
    exact h.2 i hi
theorem ruOk_a1 {w0 w1 : Wv} {B ru : Nat → Nat} (h : ruOk w0 w1 ru) (ht : vT w0 ≤ 20) (hn : ¬ vN w1 0 = 1) : ruOk w0 (knW w1 B) (updN ru (2 * (20 + 0) + 1) (vN w1 0 - 1)) := by
  refine ⟨fun i hi => ?_, fun i hi => ?_⟩
  · rw [updN_ne (by omega), updN_ne (by omega)]
    exact h.1 i hi
  · have hi : i < shT (vN w1) (vT w1) := hi
    rw [← shT_n hn] at hi
    have h9 := h.2 i hi
    show updN _ _ _ _ = shC (vC w1) (vN w1) (vT w1) i ∧ updN _ _ _ _ = shN (vN w1) (vT w1) i
    unfold shC shN
    rw [if_neg hn, if_neg hn, updN_ne (by omega)]
    refine ⟨h9.1, ?_⟩
    by_cases e : i = 0
    · subst e; rw [updN_self, updN_self]
    · rw [updN_ne (by omega), updN_ne e]; exact h9.2
theorem ruOk_b0 {w0 w1 : Wv} {B ru : Nat → Nat} {v : Nat} (h : ruOk w0 w1 ru) (ht : vT w0 ≤ 20) (hn : vN w0 0 = 1) : ruOk (knW w0 B) w1 (cpyN (updN ru (2 * (0 + 0) + 1) v) (2 * (0 + 1)) (2 * (0 + 0)) 38) := by
  refine ⟨fun i hi => ?_, fun i hi => ?_⟩
  · have hi : i < shT (vN w0) (vT w0) := hi
    rw [← shT_1 hn] at hi
    have h9 := h.1 (i + 1) (by omega)
    show cpyN _ _ _ _ _ = shC (vC w0) (vN w0) (vT w0) i ∧ cpyN _ _ _ _ _ = shN (vN w0) (vT w0) i
    unfold shC shN shf
    rw [if_pos hn, if_pos hn, if_pos (by omega), if_pos (by omega), cpyN_in (by omega) (by omega), cpyN_in (by omega) (by omega), updN_ne (by omega), updN_ne (by omega), updN_ne (by omega)]
    rw [show 2 * (0 + 1) + (2 * (0 + i) - 2 * (0 + 0)) = 2 * (0 + (i + 1)) by omega, show 2 * (0 + 1) + (2 * (0 + i) + 1 - 2 * (0 + 0)) = 2 * (0 + (i + 1)) + 1 by omega]
    exact h9
  · rw [cpyN_out (by omega), cpyN_out (by omega), updN_ne (by omega), updN_ne (by omega)]
    exact h.2 i hi
theorem ruOk_b1 {w0 w1 : Wv} {B ru : Nat → Nat} {v : Nat} (h : ruOk w0 w1 ru) (ht0 : vT w0 ≤ 20) (ht : vT w1 ≤ 20) (hn : vN w1 0 = 1) : ruOk w0 (knW w1 B) (cpyN (updN ru (2 * (20 + 0) + 1) v) (2 * (20 + 1)) (2 * (20 + 0)) 38) := by
  refine ⟨fun i hi => ?_, fun i hi => ?_⟩
  · rw [cpyN_out (by omega), cpyN_out (by omega), updN_ne (by omega), updN_ne (by omega)]
    exact h.1 i hi
  · have hi : i < shT (vN w1) (vT w1) := hi
    rw [← shT_1 hn] at hi
    have h9 := h.2 (i + 1) (by omega)
    show cpyN _ _ _ _ _ = shC (vC w1) (vN w1) (vT w1) i ∧ cpyN _ _ _ _ _ = shN (vN w1) (vT w1) i
    unfold shC shN shf
    rw [if_pos hn, if_pos hn, if_pos (by omega), if_pos (by omega), cpyN_in (by omega) (by omega), cpyN_in (by omega) (by omega), updN_ne (by omega), updN_ne (by omega), updN_ne (by omega)]
    rw [show 2 * (20 + 1) + (2 * (20 + i) - 2 * (20 + 0)) = 2 * (20 + (i + 1)) by omega, show 2 * (20 + 1) + (2 * (20 + i) + 1 - 2 * (20 + 0)) = 2 * (20 + (i + 1)) + 1 by omega]
    exact h9
/-- the knots made are the knots counted -/
theorem wk_made {w : Wv} {B : Nat → Nat} : vM (wk w B).1 = vM w + (wk w B).2.2 := by
  have key : ∀ (n : Nat) (w : Wv) (B : Nat → Nat), vM (wkF n w B).1 = vM w + (wkF n w B).2.2 := by
    intro n
    induction n with
    | zero => intro w B; rfl
    | succ n ih =>
      intro w B
      by_cases c : 0 < vT w ∧ vM w < 60 ∧ takeBy B (vC w 0) < 8
      · rw [wkF_s c.1 c.2.1 c.2.2]
        have := ih (knW w B) (takeB B (vC w 0))
        show vM (wkF n (knW w B) (takeB B (vC w 0))).1 = vM w + (_ + 1)
        rw [this]
        show vM w + 1 + _ = _
        omega
      · rw [wkF_n c]; rfl
  exact key _ w B
theorem hrs_made : ∀ (n : Nat) (s : Rg), vM (hrs n s).1.1 + vM (hrs n s).1.2.1 = vM s.1 + vM s.2.1 + (hrs n s).2
  | 0, s => rfl
  | n + 1, s => by
    rw [hrs]
    have h := hrs_made n (hr1 s).1
    have h1 := wk_made (w := s.1) (B := s.2.2)
    have h2 := wk_made (w := s.2.1) (B := (wk s.1 s.2.2).2.1)
    show vM (hrs n (hr1 s).1).1.1 + vM (hrs n (hr1 s).1).1.2.1 = _ + ((_ + _) + _)
    rw [h]
    show vM (wk s.1 s.2.2).1 + vM (wk s.2.1 (wk s.1 s.2.2).2.1).1 + _ = _
    omega
