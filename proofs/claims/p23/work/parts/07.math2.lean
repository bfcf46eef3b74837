/-! a weaver's answers and hours, as functions -/
def kaN (kf : Nat → Nat) (md k : Nat) : Int32 := if k < md then nI (kf k) else (-1)
theorem kaN_t {kf : Nat → Nat} {md k : Nat} (h : k < md) : nI (kf k) = kaN kf md k := (if_pos h).symm
theorem kaN_f {kf : Nat → Nat} {md k : Nat} (h : ¬ k < md) : (-1 : Int32) = kaN kf md k := (if_neg h).symm
def foF (K P : Nat → Nat) : Nat → Nat → Nat
  | 0, p => p
  | f + 1, p => if K p = P p then foF K P f (p + 1) else p
def foN (K P : Nat → Nat) (m : Nat) : Nat := foF K P m 0
theorem fo_s {K P : Nat → Nat} {m p t : Nat} (hp : p < m) (h : foF K P (m - p) p = t) (e : K p = P p) : foF K P (m - (p + 1)) (p + 1) = t := by
  rw [show m - p = (m - (p + 1)) + 1 by omega, foF, if_pos e] at h
  exact h
theorem fo_d {K P : Nat → Nat} {m p t : Nat} (hp : p < m) (h : foF K P (m - p) p = t) (e : ¬ K p = P p) : p = t := by
  rw [show m - p = (m - (p + 1)) + 1 by omega, foF, if_neg e] at h
  exact h
theorem fo_e {K P : Nat → Nat} {m p t : Nat} (hp : p = m) (h : foF K P (m - p) p = t) : p = t := by
  rw [show m - p = 0 by omega, foF] at h
  exact h
theorem foF_le {K P : Nat → Nat} : ∀ (f p : Nat), foF K P f p ≤ p + f
  | 0, p => Nat.le_refl _
  | f + 1, p => by
    rw [foF]
    split
    · have := foF_le (K := K) (P := P) f (p + 1); omega
    · omega
theorem foN_le {K P : Nat → Nat} {m : Nat} : foN K P m ≤ m := by
  have := foF_le (K := K) (P := P) m 0
  unfold foN; omega
def alF (P : Nat → Nat) (m : Nat) : Nat → Nat → Nat
  | 0, e => e
  | f + 1, e => if P e = P m then alF P m f (e + 1) else e
def alEnd (P : Nat → Nat) (m : Nat) : Nat := alF P m (60 - (m + 1)) (m + 1)
theorem al_0 {P : Nat → Nat} {m : Nat} (hm : m < 60) : alF P m (60 - m) m = alEnd P m := by
  rw [show 60 - m = (60 - (m + 1)) + 1 by omega, alF, if_pos rfl]; rfl
theorem al_s {P : Nat → Nat} {m e t : Nat} (he : e < 60) (h : alF P m (60 - e) e = t) (q : P e = P m) : alF P m (60 - (e + 1)) (e + 1) = t := by
  rw [show 60 - e = (60 - (e + 1)) + 1 by omega, alF, if_pos q] at h
  exact h
theorem al_d {P : Nat → Nat} {m e t : Nat} (he : e < 60) (h : alF P m (60 - e) e = t) (q : ¬ P e = P m) : e = t := by
  rw [show 60 - e = (60 - (e + 1)) + 1 by omega, alF, if_neg q] at h
  exact h
theorem al_e {P : Nat → Nat} {m e t : Nat} (he : e = 60) (h : alF P m (60 - e) e = t) : e = t := by
  rw [show 60 - e = 0 by omega, alF] at h
  exact h
theorem alF_ge {P : Nat → Nat} {m : Nat} : ∀ (f e : Nat), e ≤ alF P m f e ∧ alF P m f e ≤ e + f
  | 0, e => ⟨Nat.le_refl _, Nat.le_refl _⟩
  | f + 1, e => by
    rw [alF]
    split
    · have := alF_ge (P := P) (m := m) f (e + 1); omega
    · omega
theorem alEnd_in {P : Nat → Nat} {m : Nat} (hm : m < 60) : m < alEnd P m ∧ alEnd P m ≤ 60 := by
  have := alF_ge (P := P) (m := m) (60 - (m + 1)) (m + 1)
  unfold alEnd; omega
def frC (P : Nat → Nat) (a : Nat) : Nat → Nat
  | 0 => 0
  | n + 1 => frC P a n + (if P (a + 1 + n) = P (a + n) then 0 else 1)
theorem frC_s {P : Nat → Nat} {a n : Nat} (h : P (a + 1 + n) = P (a + 1 + n - 1)) : frC P a n = frC P a (n + 1) := by
  rw [frC, if_pos (by rw [h]; congr 1; omega)]; omega
theorem frC_d {P : Nat → Nat} {a n : Nat} (h : ¬ P (a + 1 + n) = P (a + 1 + n - 1)) : frC P a n + 1 = frC P a (n + 1) := by
  rw [frC, if_neg (by intro q; apply h; rw [q]; congr 1; omega)]
theorem frC_le {P : Nat → Nat} {a : Nat} : ∀ n, frC P a n ≤ n
  | 0 => Nat.le_refl _
  | n + 1 => by
    have := frC_le (P := P) (a := a) n
    rw [frC]
    split <;> omega
def frN (P : Nat → Nat) (m : Nat) : Nat := if 60 ≤ m then 0 else 1 + frC P m (59 - m)
def nxN (sd md : Nat) : Int32 := if md < 60 then nI (if sd = 0 then md % 6 else 11 - md % 6) else (-1)
def wNum (sd : Nat) (nf : Nat → Nat) (sp td md ot k : Nat) : Int32 :=
  if k = 0 then nI sp else if k = 1 then nI td else if k = 2 then nI (sumN nf td) else if k = 3 then nI md else if k = 4 then nxN sd md else if k = 5 then (if md < 60 then nI (md / 6) else (-1)) else nI ot
def mxF (f : Nat → Int32) : Nat → Int64 → Int64
  | 0, d => d
  | n + 1, d => mx (mxF f n d) (f n)
def mrF (C N : Nat → Nat) : Nat → Int64 → Int64
  | 0, d => d
  | n + 1, d => mx (mx (mrF C N n d) (nI (C n))) (nI (N n))
/-! a knot -/
def shC (cf nf : Nat → Nat) (td : Nat) : Nat → Nat := if nf 0 = 1 then shf cf td else cf
def shN (nf : Nat → Nat) (td : Nat) : Nat → Nat := if nf 0 = 1 then shf (updN nf 0 (nf 0 - 1)) td else updN nf 0 (nf 0 - 1)
def shT (nf : Nat → Nat) (td : Nat) : Nat := if nf 0 = 1 then td - 1 else td
def knW (w : Wv) (B : Nat → Nat) : Wv := (vP w, updN (vK w) (vM w) ((vC w 0 + takeBy B (vC w 0)) % 8), shC (vC w) (vN w) (vT w), shN (vN w) (vT w), vS w, shT (vN w) (vT w), vM w + 1, if takeBy B (vC w 0) = 0 then vO w else vO w + 1)
theorem takeB_ok {B : Nat → Nat} {c : Nat} (h : bOk B) : bOk (takeB B c) := by
  intro i hi
  unfold takeB
  split
  · have h1 := h i hi
    unfold updN
    split
    · rename_i e; rw [← e]; omega
    · exact h1
  · exact h i hi
theorem knW_ok {w : Wv} {B : Nat → Nat} (h : wOk w) (ht : 0 < vT w) (hm : vM w < 60) : wOk (knW w B) := by
  obtain ⟨P, K, C, N, sp, td, md, ot⟩ := w
  have h1 : 1 ≤ sp := h.1
  have h2 : sp ≤ 6 := h.2.1
  have h3 : td ≤ 20 := h.2.2.1
  have h4 : md ≤ 60 := h.2.2.2.1
  have h5 : ∀ i, i < 60 → P i < 8 := h.2.2.2.2.1
  have h6 : ∀ i, i < 60 → K i < 8 := h.2.2.2.2.2.1
  have h7 : ∀ i, i < td → C i < 8 := h.2.2.2.2.2.2.1
  have h8 : ∀ i, i < td → 1 ≤ N i ∧ N i ≤ 60 := h.2.2.2.2.2.2.2
  have ht : 0 < td := ht
  have hm : md < 60 := hm
  refine ⟨h1, h2, ?_, (by show md + 1 ≤ 60; omega), h5, ?_, ?_, ?_⟩
  · show shT N td ≤ 20
    unfold shT; split <;> omega
  · intro i hi
    show updN K md _ i < 8
    unfold updN
    split
    · omega
    · exact h6 i hi
  · show ∀ i, i < shT N td → shC C N td i < 8
    intro i hi
    unfold shT at hi
    unfold shC
    by_cases e : N 0 = 1
    · rw [if_pos e] at hi ⊢
      unfold shf
      rw [if_pos (by omega)]
      exact h7 _ (by omega)
    · rw [if_neg e] at hi ⊢
      exact h7 i hi
  · show ∀ i, i < shT N td → 1 ≤ shN N td i ∧ shN N td i ≤ 60
    intro i hi
    unfold shT at hi
    unfold shN
    by_cases e : N 0 = 1
    · rw [if_pos e] at hi ⊢
      unfold shf
      rw [if_pos (by omega)]
      rw [updN_ne (by omega)]
      exact h8 _ (by omega)
    · rw [if_neg e] at hi ⊢
      have h9 := h8 0 ht
      by_cases e0 : i = 0
      · subst e0; rw [updN_self]; omega
      · rw [updN_ne e0]; exact h8 i hi
/-! an hour of a weaver -/
def wkF : Nat → Wv → (Nat → Nat) → Wv × (Nat → Nat) × Nat
  | 0, w, B => (w, B, 0)
  | n + 1, w, B => if 0 < vT w ∧ vM w < 60 ∧ takeBy B (vC w 0) < 8 then ((wkF n (knW w B) (takeB B (vC w 0))).1, (wkF n (knW w B) (takeB B (vC w 0))).2.1, (wkF n (knW w B) (takeB B (vC w 0))).2.2 + 1) else (w, B, 0)
def wk (w : Wv) (B : Nat → Nat) : Wv × (Nat → Nat) × Nat := wkF (vS w) w B
theorem wkF_s {n : Nat} {w : Wv} {B : Nat → Nat} (h1 : 0 < vT w) (h2 : vM w < 60) (h3 : takeBy B (vC w 0) < 8) : wkF (n + 1) w B = ((wkF n (knW w B) (takeB B (vC w 0))).1, (wkF n (knW w B) (takeB B (vC w 0))).2.1, (wkF n (knW w B) (takeB B (vC w 0))).2.2 + 1) := by
  rw [wkF, if_pos ⟨h1, h2, h3⟩]
theorem wkF_n {n : Nat} {w : Wv} {B : Nat → Nat} (h : ¬ (0 < vT w ∧ vM w < 60 ∧ takeBy B (vC w 0) < 8)) : wkF n w B = (w, B, 0) := by
  cases n with
  | zero => rfl
  | succ n => rw [wkF, if_neg h]
/-- what is said at the head of an hour's loop, j knots made -/
def wkI (w0 : Wv) (B0 : Nat → Nat) (w : Wv) (B : Nat → Nat) (j : Nat) : Prop := j ≤ vS w0 ∧ vS w = vS w0 ∧ wOk w ∧ bOk B ∧ (wkF (vS w0 - j) w B).1 = (wk w0 B0).1 ∧ (wkF (vS w0 - j) w B).2.1 = (wk w0 B0).2.1 ∧ j + (wkF (vS w0 - j) w B).2.2 = (wk w0 B0).2.2
theorem wkI_0 {w : Wv} {B : Nat → Nat} (h : wOk w) (hB : bOk B) : wkI w B w B 0 := ⟨Nat.zero_le _, rfl, h, hB, rfl, rfl, Nat.zero_add _⟩
theorem wkI_s {w0 w : Wv} {B0 B : Nat → Nat} {j : Nat} (h : wkI w0 B0 w B j) (hj : j < vS w0) (h1 : 0 < vT w) (h2 : vM w < 60) (h3 : takeBy B (vC w 0) < 8) : wkI w0 B0 (knW w B) (takeB B (vC w 0)) (j + 1) := by
  obtain ⟨a1, a2, a3, a4, a5, a6, a7⟩ := h
  have e : vS w0 - j = (vS w0 - (j + 1)) + 1 := by omega
  rw [e, wkF_s h1 h2 h3] at a5 a6 a7
  exact ⟨hj, a2, knW_ok a3 h1 h2, takeB_ok a4, a5, a6, by rw [← a7]; show j + 1 + _ = j + (_ + 1); omega⟩
theorem wkI_e {w0 w : Wv} {B0 B : Nat → Nat} {j : Nat} (h : wkI w0 B0 w B j) (hn : ¬ (j < vS w0) ∨ ¬ (0 < vT w ∧ vM w < 60 ∧ takeBy B (vC w 0) < 8)) : w = (wk w0 B0).1 ∧ B = (wk w0 B0).2.1 ∧ j = (wk w0 B0).2.2 := by
  obtain ⟨a1, a2, a3, a4, a5, a6, a7⟩ := h
  have e : wkF (vS w0 - j) w B = (w, B, 0) := by
    rcases hn with hn | hn
    · rw [show vS w0 - j = 0 by omega]; rfl
    · exact wkF_n hn
  rw [e] at a5 a6 a7
  exact ⟨a5, a6, a7⟩
theorem wk_ok {w : Wv} {B : Nat → Nat} (h : wOk w) (hB : bOk B) : wOk (wk w B).1 ∧ bOk (wk w B).2.1 ∧ vS (wk w B).1 = vS w := by
  have key : ∀ (n : Nat) (w : Wv) (B : Nat → Nat), wOk w → bOk B → wOk (wkF n w B).1 ∧ bOk (wkF n w B).2.1 ∧ vS (wkF n w B).1 = vS w := by
    intro n
    induction n with
    | zero => intro w B h hB; exact ⟨h, hB, rfl⟩
    | succ n ih =>
      intro w B h hB
      by_cases c : 0 < vT w ∧ vM w < 60 ∧ takeBy B (vC w 0) < 8
      · rw [wkF_s c.1 c.2.1 c.2.2]
        exact ih (knW w B) (takeB B (vC w 0)) (knW_ok h c.1 c.2.1) (takeB_ok hB)
      · rw [wkF_n c]; exact ⟨h, hB, rfl⟩
  exact key _ w B h hB
/-! knots taken back -/
def cntN (K : Nat → Nat) (c a : Nat) : Nat → Nat
  | 0 => 0
  | n + 1 => cntN K c a n + (if K (a + n) = c then 1 else 0)
theorem cntN_d (K : Nat → Nat) (c a : Nat) : ∀ n, cntN K c a (n + 1) = (if K a = c then 1 else 0) + cntN K c (a + 1) n
  | 0 => by simp [cntN]
  | n + 1 => by
    rw [cntN, cntN_d K c a n, cntN, show a + (n + 1) = a + 1 + n by omega]
    omega
def unB (K B : Nat → Nat) (a n : Nat) : Nat → Nat := fun c => B c + min (200 - B c) (cntN K c a n)
theorem unB_0 {K B : Nat → Nat} {a : Nat} : unB K B a 0 = B := by
  funext c; unfold unB; rw [cntN]; omega
theorem unB_ok {K B : Nat → Nat} {a n : Nat} (h : bOk B) : bOk (unB K B a n) := by
  intro c hc
  have := h c hc
  unfold unB; omega
theorem unB_u {K B : Nat → Nat} {a n x : Nat} (hx : K (a + n) = x) (h : B x ≤ 200) : updN (unB K B a n) x (min 200 (unB K B a n x + 1)) = unB K B a (n + 1) := by
  funext c
  unfold updN unB
  rw [cntN]
  by_cases e : c = x
  · subst e; rw [if_pos rfl, if_pos hx]; omega
  · rw [if_neg e, if_neg (by rw [hx]; exact fun q => e q.symm)]; rfl
theorem unB_d {K B : Nat → Nat} {a n x : Nat} (hx : K a = x) (h : B x ≤ 200) : updN (unB K B (a + 1) n) x (min 200 (unB K B (a + 1) n x + 1)) = unB K B a (n + 1) := by
  funext c
  unfold updN unB
  rw [cntN_d]
  by_cases e : c = x
  · subst e; rw [if_pos rfl, if_pos hx]; omega
  · rw [if_neg e, if_neg (by rw [hx]; exact fun q => e q.symm)]; omega
