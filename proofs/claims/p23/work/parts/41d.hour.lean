/-! an hour, in numbers -/
theorem sumN_up {f : Nat → Nat} {i v : Nat} : ∀ n, i < n → sumN (updN f i v) n + f i = sumN f n + v
  | 0, h => absurd h (Nat.not_lt_zero i)
  | n + 1, h => by
    rw [sumN, sumN]
    by_cases e : i = n
    · subst e
      rw [updN_self, sumN_congr (f := updN f i v) (g := f) (fun j hj => updN_ne (by omega))]; omega
    · have := sumN_up (f := f) (i := i) (v := v) n (by omega)
      rw [updN_ne (by omega)]; omega
theorem sumN_head {f : Nat → Nat} : ∀ n, sumN f (n + 1) = f 0 + sumN (fun i => f (i + 1)) n
  | 0 => by show 0 + f 0 = f 0 + 0; omega
  | n + 1 => by
    rw [sumN, sumN_head n, sumN]; omega
theorem sumN_le {f : Nat → Nat} {b : Nat} : ∀ n, (∀ i, i < n → f i ≤ b) → sumN f n ≤ b * n
  | 0, _ => Nat.le_refl _
  | n + 1, h => by
    have h1 := sumN_le (f := f) n (fun i hi => h i (by omega))
    have h2 := h n (by omega)
    rw [sumN, Nat.mul_succ]; omega
theorem sumN_z {f : Nat → Nat} {n : Nat} (h : ∀ i, i < n → f i = 0) : sumN f n = 0 := by
  have := sumN_le (f := f) (b := 0) n (fun i hi => by rw [h i hi]; exact Nat.le_refl _)
  omega
theorem wool_le {B : Nat → Nat} (h : bOk B) : sumN B 8 ≤ 1600 := by
  have := sumN_le (f := B) (b := 200) 8 (fun i hi => h i hi)
  omega
theorem told_le {w : Wv} (h : wOk w) : sumN (vN w) (vT w) ≤ 1200 := by
  have h1 := sumN_le (f := vN w) (b := 60) (vT w) (fun i hi => (h.2.2.2.2.2.2.2 i hi).2)
  have h2 : vT w ≤ 20 := h.2.2.1
  have : 60 * vT w ≤ 60 * 20 := Nat.mul_le_mul_left _ h2
  omega
theorem tkB_all {B : Nat → Nat} {c : Nat} : ∀ (f b : Nat), tkB B c f b = b + f → ∀ j, j < f → B ((c + (b + j)) % 8) = 0
  | 0, _, _, j, hj => absurd hj (Nat.not_lt_zero j)
  | f + 1, b, h, j, hj => by
    rw [tkB] at h
    by_cases e : B ((c + b) % 8) = 0
    · rw [if_pos e] at h
      cases j with
      | zero => exact e
      | succ j =>
        have := tkB_all (B := B) (c := c) f (b + 1) (by omega) j (by omega)
        rw [show c + (b + (j + 1)) = c + (b + 1 + j) by omega]; exact this
    · rw [if_neg e] at h; omega
theorem take_none {B : Nat → Nat} {c : Nat} (h : ¬ takeBy B c < 8) : sumN B 8 = 0 := by
  have h1 := tk_le (B := B) (c := c) 8 0
  have h2 : tkB B c 8 0 = 0 + 8 := by unfold takeBy at h; omega
  have h3 := tkB_all 8 0 h2
  refine sumN_z (fun i hi => ?_)
  have := h3 ((i + 8 - c % 8) % 8) (by omega)
  rw [show (c + (0 + (i + 8 - c % 8) % 8)) % 8 = i by omega] at this
  exact this
theorem take_sum {B : Nat → Nat} {c : Nat} (h : takeBy B c < 8) : sumN (takeB B c) 8 + 1 = sumN B 8 := by
  have hp := takeBy_pos h
  unfold takeB
  rw [if_pos h]
  have := sumN_up (f := B) (i := (c + takeBy B c) % 8) (v := B ((c + takeBy B c) % 8) - 1) 8 (by omega)
  omega
theorem kn_told {w : Wv} {B : Nat → Nat} (h : wOk w) (ht : 0 < vT w) : sumN (vN (knW w B)) (vT (knW w B)) + 1 = sumN (vN w) (vT w) := by
  have h0 := h.2.2.2.2.2.2.2 0 ht
  by_cases e : vN w 0 = 1
  · have e2 : vN (knW w B) = shf (updN (vN w) 0 (vN w 0 - 1)) (vT w) := by show shN (vN w) (vT w) = _; unfold shN; rw [if_pos e]
    rw [knT_D e, e2]
    have hh := sumN_head (f := vN w) (vT w - 1)
    rw [show vT w - 1 + 1 = vT w by omega] at hh
    rw [hh, e, sumN_congr (g := fun i => vN w (i + 1)) (fun i hi => by unfold shf; rw [if_pos (by omega), updN_ne (by omega)])]
    omega
  · have e2 : vN (knW w B) = updN (vN w) 0 (vN w 0 - 1) := by show shN (vN w) (vT w) = _; unfold shN; rw [if_neg e]
    rw [knT_S e, e2]
    have := sumN_up (f := vN w) (i := 0) (v := vN w 0 - 1) (vT w) ht
    omega
theorem kn_oth {w : Wv} {B : Nat → Nat} : vO w ≤ vO (knW w B) ∧ vO (knW w B) ≤ vO w + 1 := by
  show vO w ≤ (if takeBy B (vC w 0) = 0 then vO w else vO w + 1) ∧ (if takeBy B (vC w 0) = 0 then vO w else vO w + 1) ≤ vO w + 1
  split <;> omega
def wkG (n : Nat) (w : Wv) (B : Nat → Nat) (w' : Wv) (B' : Nat → Nat) (k : Nat) : Prop :=
  vM w' = vM w + k ∧ k ≤ n ∧ sumN (vN w) (vT w) = sumN (vN w') (vT w') + k ∧ vO w ≤ vO w' ∧ vO w' ≤ vO w + k ∧ vM w' + sumN B' 8 = vM w + sumN B 8 ∧ (k < n → 0 < vT w' → vM w' < 60 → sumN B' 8 = 0)
theorem wkG_s {n k : Nat} {w w' : Wv} {B B' : Nat → Nat} (h : wOk w) (c1 : 0 < vT w) (c3 : takeBy B (vC w 0) < 8) (hg : wkG n (knW w B) (takeB B (vC w 0)) w' B' k) : wkG (n + 1) w B w' B' (k + 1) := by
  obtain ⟨a1, a2, a3, a4, a5, a6, a7⟩ := hg
  have b1 := kn_told (B := B) h c1
  have b2 := kn_oth (w := w) (B := B)
  have b3 := take_sum c3
  have b4 : vM (knW w B) = vM w + 1 := rfl
  exact ⟨by omega, by omega, by omega, by omega, by omega, by omega, fun q1 q2 q3 => a7 (by omega) q2 q3⟩
theorem wkF_g : ∀ (n : Nat) (w : Wv) (B : Nat → Nat), wOk w → bOk B → wkG n w B (wkF n w B).1 (wkF n w B).2.1 (wkF n w B).2.2
  | 0, w, B, _, _ => ⟨rfl, Nat.le_refl _, rfl, Nat.le_refl _, Nat.le_refl _, rfl, fun h => absurd h (Nat.lt_irrefl _)⟩
  | n + 1, w, B, h, hB => by
    by_cases c : 0 < vT w ∧ vM w < 60 ∧ takeBy B (vC w 0) < 8
    · rw [wkF_s c.1 c.2.1 c.2.2]
      exact wkG_s h c.1 c.2.2 (wkF_g n (knW w B) (takeB B (vC w 0)) (knW_ok h c.1 c.2.1) (takeB_ok hB))
    · rw [wkF_n c]
      refine ⟨rfl, Nat.zero_le _, rfl, Nat.le_refl _, Nat.le_refl _, rfl, fun _ q2 q3 => ?_⟩
      exact take_none (c := vC w 0) (fun q => c ⟨q2, q3, q⟩)
theorem wk_g {w : Wv} {B : Nat → Nat} (h : wOk w) (hB : bOk B) : wkG (vS w) w B (wk w B).1 (wk w B).2.1 (wk w B).2.2 := wkF_g (vS w) w B h hB
/-! when a weaver is through -/
def dnN (k : Nat) : Nat → Rg → Option Nat
  | 0, _ => none
  | n + 1, s => if 0 < vT (if k = 0 then s.1 else s.2.1) ∧ vM (if k = 0 then s.1 else s.2.1) < 60 then (dnN k n (hr1 s).1).map (fun m => m + 1) else some 0
def dnV (j : Nat) : Option Nat → Int32
  | none => (-1)
  | some m => nI (j + m)
theorem dnF_N {k : Nat} : ∀ (n : Nat) (s : Rg) (j : Nat), dnF k n s j = dnV j (dnN k n s)
  | 0, _, _ => rfl
  | n + 1, s, j => by
    by_cases c : 0 < vT (if k = 0 then s.1 else s.2.1) ∧ vM (if k = 0 then s.1 else s.2.1) < 60
    · rw [dn_s c, dnF_N n, dnN, if_pos c]
      cases dnN k n (hr1 s).1 with
      | none => rfl
      | some m => show nI (j + 1 + m) = nI (j + (m + 1)); congr 1; omega
    · rw [dn_e c, dnN, if_neg c]; rfl
theorem dnN_more {k : Nat} : ∀ (n : Nat) (s : Rg) (m : Nat), dnN k n s = some m → dnN k (n + 1) s = some m
  | 0, _, m, h => by rw [dnN] at h; cases h
  | n + 1, s, m, h => by
    by_cases c : 0 < vT (if k = 0 then s.1 else s.2.1) ∧ vM (if k = 0 then s.1 else s.2.1) < 60
    · rw [dnN, if_pos c] at h
      rw [dnN, if_pos c]
      cases e : dnN k n (hr1 s).1 with
      | none => rw [e] at h; cases h
      | some m' => rw [e] at h; rw [dnN_more n _ m' e]; exact h
    · rw [dnN, if_neg c] at h
      rw [dnN, if_neg c]; exact h
theorem dnN_lt {k : Nat} : ∀ (n : Nat) (s : Rg) (m : Nat), dnN k n s = some m → m < n
  | 0, _, m, h => by rw [dnN] at h; cases h
  | n + 1, s, m, h => by
    by_cases c : 0 < vT (if k = 0 then s.1 else s.2.1) ∧ vM (if k = 0 then s.1 else s.2.1) < 60
    · rw [dnN, if_pos c] at h
      cases e : dnN k n (hr1 s).1 with
      | none => rw [e] at h; cases h
      | some m' =>
      rw [e] at h
      have := dnN_lt n _ m' e
      have h : m' + 1 = m := Option.some.inj h
      omega
    · rw [dnN, if_neg c] at h; cases h; omega
def dnH (d d' : Int32) (work : Prop) : Prop := (d = nI 0 ∧ ¬ work) ∨ (d = nI 1 ∧ d' = nI 0) ∨ (∃ m, 2 ≤ m ∧ m ≤ 100 ∧ d = nI m ∧ d' = nI (m - 1)) ∨ d = (-1)
theorem dn_hour {k : Nat} {s : Rg} : dnH (dnF k 101 s 0) (dnF k 101 (hr1 s).1 0) (0 < vT (if k = 0 then s.1 else s.2.1) ∧ vM (if k = 0 then s.1 else s.2.1) < 60) := by
  rw [dnF_N, dnF_N]
  by_cases c : 0 < vT (if k = 0 then s.1 else s.2.1) ∧ vM (if k = 0 then s.1 else s.2.1) < 60
  · rw [show dnN k 101 s = (dnN k 100 (hr1 s).1).map (fun m => m + 1) from if_pos c]
    cases e : dnN k 100 (hr1 s).1 with
    | none => exact Or.inr (Or.inr (Or.inr rfl))
    | some m =>
      have hl := dnN_lt 100 _ m e
      rw [dnN_more 100 _ m e]
      by_cases h0 : m = 0
      · subst h0; exact Or.inr (Or.inl ⟨rfl, rfl⟩)
      · exact Or.inr (Or.inr (Or.inl ⟨m + 1, by omega, by omega, by show nI (0 + (m + 1)) = _; congr 1; omega, by show nI (0 + m) = _; congr 1; omega⟩))
  · rw [show dnN k 101 s = some 0 from if_neg c]
    exact Or.inl ⟨rfl, c⟩
theorem wk_idle {w : Wv} {B : Nat → Nat} (h : ¬ (0 < vT w ∧ vM w < 60)) : (wk w B).2.2 = 0 := by
  unfold wk
  rw [wkF_n (fun q => h ⟨q.1, q.2.1⟩)]
/-! one weaver's numbers ahead of the hour (k knots, t told, o others, d done) and behind it -/
def hrQ (k t o n : Nat) (d : Int32) (w : Wv) (B : Nat → Nat) (dn : Int32) : Prop :=
  vM w = k + n ∧ n ≤ vS w ∧ t = sumN (vN w) (vT w) + n ∧ (o ≤ vO w ∧ vO w ≤ o + n) ∧ (n < vS w → 0 < vT w → vM w < 60 → sumN B 8 = 0) ∧ ((d = nI 0 ∧ n = 0) ∨ (d = nI 1 ∧ dn = nI 0) ∨ (∃ m, 2 ≤ m ∧ m ≤ 100 ∧ d = nI m ∧ dn = nI (m - 1)) ∨ d = (-1))
theorem hr_q0 {w0 w1 : Wv} {bf : Nat → Nat} {ho un : Nat} (h0 : wOk w0) (h1 : wOk w1) (hB : bOk bf) : hrQ (vM w0) (sumN (vN w0) (vT w0)) (vO w0) (wk w0 bf).2.2 (aDone (w0, w1, bf, ho, un) 0) (hr1 (w0, w1, bf)).1.1 (hr1 (w0, w1, bf)).1.2.2 (aDone ((hr1 (w0, w1, bf)).1.1, (hr1 (w0, w1, bf)).1.2.1, (hr1 (w0, w1, bf)).1.2.2, ho + 1, un) 0) := by
  obtain ⟨a1, a2, a3, a4, a5, a6, a7⟩ := wk_g h0 hB
  have hk := wk_ok h0 hB
  obtain ⟨b1, b2, b3, b4, b5, b6, b7⟩ := wk_g h1 hk.2.1
  refine ⟨a1, by show _ ≤ vS (wk w0 bf).1; rw [hk.2.2]; exact a2, a3, ⟨a4, a5⟩, fun q1 q2 q3 => ?_, ?_⟩
  · have q1 : (wk w0 bf).2.2 < vS (wk w0 bf).1 := q1
    rw [hk.2.2] at q1
    have := a7 q1 q2 q3
    show sumN (wk w1 (wk w0 bf).2.1).2.1 8 = 0
    omega
  · rcases dn_hour (k := 0) (s := (w0, w1, bf)) with ⟨e, c⟩ | h | h | h
    · exact Or.inl ⟨e, wk_idle c⟩
    · exact Or.inr (Or.inl h)
    · exact Or.inr (Or.inr (Or.inl h))
    · exact Or.inr (Or.inr (Or.inr h))
theorem hr_q1 {w0 w1 : Wv} {bf : Nat → Nat} {ho un : Nat} (h0 : wOk w0) (h1 : wOk w1) (hB : bOk bf) : hrQ (vM w1) (sumN (vN w1) (vT w1)) (vO w1) (wk w1 (wk w0 bf).2.1).2.2 (aDone (w0, w1, bf, ho, un) 1) (hr1 (w0, w1, bf)).1.2.1 (hr1 (w0, w1, bf)).1.2.2 (aDone ((hr1 (w0, w1, bf)).1.1, (hr1 (w0, w1, bf)).1.2.1, (hr1 (w0, w1, bf)).1.2.2, ho + 1, un) 1) := by
  have hk := wk_ok h0 hB
  obtain ⟨b1, b2, b3, b4, b5, b6, b7⟩ := wk_g h1 hk.2.1
  have hk1 := wk_ok h1 hk.2.1
  refine ⟨b1, by show _ ≤ vS (wk w1 (wk w0 bf).2.1).1; rw [hk1.2.2]; exact b2, b3, ⟨b4, b5⟩, fun q1 q2 q3 => ?_, ?_⟩
  · have q1 : (wk w1 (wk w0 bf).2.1).2.2 < vS (wk w1 (wk w0 bf).2.1).1 := q1
    rw [hk1.2.2] at q1
    exact b7 q1 q2 q3
  · rcases dn_hour (k := 1) (s := (w0, w1, bf)) with ⟨e, c⟩ | h | h | h
    · exact Or.inl ⟨e, wk_idle c⟩
    · exact Or.inr (Or.inl h)
    · exact Or.inr (Or.inr (Or.inl h))
    · exact Or.inr (Or.inr (Or.inr h))
theorem hr_v0 {w0 w1 : Wv} {bf : Nat → Nat} {tm : Nat} (h0 : wOk w0) (hB : bOk bf) (hv : vO w0 ≤ 6 * tm) : vO (hr1 (w0, w1, bf)).1.1 ≤ 6 * (tm + 1) := by
  obtain ⟨a1, a2, a3, a4, a5, a6, a7⟩ := wk_g h0 hB
  have hs : vS w0 ≤ 6 := h0.2.1
  show vO (wk w0 bf).1 ≤ _
  omega
theorem hr_v1 {w0 w1 : Wv} {bf : Nat → Nat} {tm : Nat} (h0 : wOk w0) (h1 : wOk w1) (hB : bOk bf) (hv : vO w1 ≤ 6 * tm) : vO (hr1 (w0, w1, bf)).1.2.1 ≤ 6 * (tm + 1) := by
  obtain ⟨a1, a2, a3, a4, a5, a6, a7⟩ := wk_g h1 (wk_ok h0 hB).2.1
  have hs : vS w1 ≤ 6 := h1.2.1
  show vO (wk w1 (wk w0 bf).2.1).1 ≤ _
  omega
theorem hr_all {w0 w1 : Wv} {bf : Nat → Nat} (h0 : wOk w0) (h1 : wOk w1) (hB : bOk bf) : vM w0 + vM w1 + sumN bf 8 = vM (hr1 (w0, w1, bf)).1.1 + vM (hr1 (w0, w1, bf)).1.2.1 + sumN (hr1 (w0, w1, bf)).1.2.2 8 := by
  obtain ⟨a1, a2, a3, a4, a5, a6, a7⟩ := wk_g h0 hB
  obtain ⟨b1, b2, b3, b4, b5, b6, b7⟩ := wk_g h1 (wk_ok h0 hB).2.1
  show _ = vM (wk w0 bf).1 + vM (wk w1 (wk w0 bf).2.1).1 + sumN (wk w1 (wk w0 bf).2.1).2.1 8
  omega
/-! mending, telling -/
theorem offN_split {K P : Nat → Nat} : ∀ (a b : Nat), offN K P (a + b) = offN K P a + offN (fun i => K (a + i)) (fun i => P (a + i)) b
  | a, 0 => rfl
  | a, b + 1 => by
    show offN K P (a + b) + (if K (a + b) = P (a + b) then 0 else 1) = offN K P a + (offN (fun i => K (a + i)) (fun i => P (a + i)) b + (if K (a + b) = P (a + b) then 0 else 1))
    rw [offN_split a b]; omega
theorem offN_z {K P : Nat → Nat} : ∀ n, (∀ i, i < n → K i = P i) → offN K P n = 0
  | 0, _ => rfl
  | n + 1, h => by rw [offN_s (h n (by omega)), offN_z n (fun i hi => h i (by omega))]
theorem offN_pos {K P : Nat → Nat} {i : Nat} : ∀ n, i < n → ¬ K i = P i → 1 ≤ offN K P n
  | 0, h, _ => absurd h (Nat.not_lt_zero i)
  | n + 1, h, e => by
    by_cases h2 : i = n
    · subst h2; rw [offN_d e]; omega
    · have := offN_pos n (by omega) e
      rw [offN]; omega
theorem foF_eq {K P : Nat → Nat} : ∀ (f p i : Nat), p ≤ i → i < foF K P f p → K i = P i
  | 0, p, i, h1, h2 => by rw [foF] at h2; omega
  | f + 1, p, i, h1, h2 => by
    rw [foF] at h2
    by_cases e : K p = P p
    · rw [if_pos e] at h2
      by_cases h3 : i = p
      · rw [h3]; exact e
      · exact foF_eq f (p + 1) i (by omega) h2
    · rw [if_neg e] at h2; omega
theorem foF_ne {K P : Nat → Nat} : ∀ (f p : Nat), foF K P f p < p + f → ¬ K (foF K P f p) = P (foF K P f p)
  | 0, p, h => by rw [foF] at h; omega
  | f + 1, p, h => by
    rw [foF] at h ⊢
    by_cases e : K p = P p
    · rw [if_pos e] at h ⊢; exact foF_ne f (p + 1) (by omega)
    · rw [if_neg e]; exact e
theorem off_mends {w : Wv} : offN (vK w) (vP w) (vM w) ≤ aMends w ∧ aMends w ≤ vM w ∧ (offN (vK w) (vP w) (vM w) = 0 → aMends w = 0) := by
  have hl := foN_le (K := vK w) (P := vP w) (m := vM w)
  have hs := offN_split (K := vK w) (P := vP w) (foN (vK w) (vP w) (vM w)) (vM w - foN (vK w) (vP w) (vM w))
  have hz0 : offN (vK w) (vP w) (foN (vK w) (vP w) (vM w)) = 0 := offN_z _ (fun i hi => foF_eq (K := vK w) (P := vP w) (vM w) 0 i (Nat.zero_le _) hi)
  rw [show foN (vK w) (vP w) (vM w) + (vM w - foN (vK w) (vP w) (vM w)) = vM w by omega, hz0] at hs
  have h2 := offN_le (K := fun i => vK w (foN (vK w) (vP w) (vM w) + i)) (P := fun i => vP w (foN (vK w) (vP w) (vM w) + i)) (vM w - foN (vK w) (vP w) (vM w))
  unfold aMends
  refine ⟨by omega, by omega, fun hz => ?_⟩
  by_cases h3 : foN (vK w) (vP w) (vM w) < vM w
  · have := offN_pos (K := vK w) (P := vP w) (vM w) h3 (foF_ne (vM w) 0 (by show foN (vK w) (vP w) (vM w) < 0 + vM w; omega))
    omega
  · omega
theorem fr_in {w : Wv} (h : vM w < 60) : 1 ≤ frN (vP w) (vM w) ∧ frN (vP w) (vM w) ≤ 60 := by
  have := frC_le (P := vP w) (a := vM w) (59 - vM w)
  unfold frN
  rw [if_neg (by omega)]; omega
theorem fr_z {w : Wv} (h : vM w = 60) : frN (vP w) (vM w) = 0 := by
  unfold frN
  rw [if_pos (by omega)]
theorem adv_t {w : Wv} (h : vM w < 60) : aAdv w = nI (100 * vP w (vM w) + (alEnd (vP w) (vM w) - vM w)) := by unfold aAdv; rw [if_pos h]
theorem adv_f {w : Wv} (h : vM w = 60) : aAdv w = (-1) := by unfold aAdv; rw [if_neg (by omega)]
theorem adv_in {w : Wv} (h : vM w < 60) (hw : wOk w) : 1 ≤ 100 * vP w (vM w) + (alEnd (vP w) (vM w) - vM w) ∧ 100 * vP w (vM w) + (alEnd (vP w) (vM w) - vM w) ≤ 800 := by
  have h1 := alEnd_in (P := vP w) h
  have h2 := hw.2.2.2.2.1 _ h
  omega
theorem kt_c0 {w0 w1 : Wv} {k : Nat} : ktN w0 w1 (colOf 0 k) (k / 6) = kaW w0 k := by
  unfold ktN
  rw [rg_col0, pl_col0]
theorem kt_c1 {w0 w1 : Wv} {k : Nat} : ktN w0 w1 (colOf 1 k) (k / 6) = kaW w1 k := by
  unfold ktN
  rw [rg_col1, pl_col1]
