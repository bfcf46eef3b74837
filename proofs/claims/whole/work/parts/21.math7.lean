/-! the model's calls -/
def stIf (k : Nat) (a b : Sg) : Sg := if k = 0 then a else b
theorem frC_front {P : Nat → Nat} {a : Nat} : ∀ n, frC P a (n + 1) = (if P (a + 1) = P a then 0 else 1) + frC P (a + 1) n
  | 0 => by simp [frC]
  | n + 1 => by
    rw [frC, frC_front n, frC, show a + 1 + (n + 1) = a + 1 + 1 + n by omega, show a + (n + 1) = a + 1 + n by omega]
    omega
theorem fr_al {P : Nat → Nat} {m : Nat} : ∀ (f e : Nat), e + f = 60 → 0 < e → P (e - 1) = P m → frC P (e - 1) f = frN P (alF P m f e)
  | 0, e, h, _, _ => by
    rw [frC, alF]; unfold frN; rw [if_pos (by omega)]
  | f + 1, e, h, h0, hp => by
    rw [frC_front, show e - 1 + 1 = e by omega, alF]
    by_cases q : P e = P m
    · rw [if_pos q, if_pos (by rw [q, hp])]
      have := fr_al f (e + 1) (by omega) (by omega) q
      rw [show e + 1 - 1 = e by omega] at this
      rw [this]; omega
    · rw [if_neg q, if_neg (by rw [hp]; exact q)]
      unfold frN
      rw [if_neg (by omega), show 59 - e = f by omega]
theorem frN_s {P : Nat → Nat} {m : Nat} (hm : m < 60) : frN P m = 1 + frN P (alEnd P m) := by
  have h := fr_al (P := P) (m := m) (60 - (m + 1)) (m + 1) (by omega) (by omega) (by rw [show m + 1 - 1 = m by omega])
  rw [show m + 1 - 1 = m by omega] at h
  unfold alEnd
  rw [← h]
  unfold frN
  rw [if_neg (by omega), show 59 - m = 60 - (m + 1) by omega]
theorem ruOk_tell0 {w0 w1 : Wv} {ru : Nat → Nat} {co k : Nat} (h : ruOk w0 w1 ru) (h0 : vT w0 < 20) : ruOk (wTell w0 co k) w1 (updN (updN ru (2 * (0 + vT w0)) co) (2 * (0 + vT w0) + 1) k) := by
  refine ⟨fun i hi => ?_, fun i hi => ?_⟩
  · have hi : i < vT w0 + 1 := hi
    show updN _ _ _ _ = updN (vC w0) (vT w0) co i ∧ updN _ _ _ _ = updN (vN w0) (vT w0) k i
    by_cases e : i = vT w0
    · subst e
      rw [updN_ne (by omega), updN_self, updN_self, updN_self, updN_self]
      exact ⟨rfl, rfl⟩
    · rw [updN_ne (by omega), updN_ne (by omega), updN_ne e, updN_ne (by omega), updN_ne (by omega), updN_ne e]
      exact h.1 i (by omega)
  · rw [updN_ne (by omega), updN_ne (by omega), updN_ne (by omega), updN_ne (by omega)]
    exact h.2 i hi
theorem ruOk_tell1 {w0 w1 : Wv} {ru : Nat → Nat} {co k : Nat} (h : ruOk w0 w1 ru) (h0 : vT w0 ≤ 20) : ruOk w0 (wTell w1 co k) (updN (updN ru (2 * (20 + vT w1)) co) (2 * (20 + vT w1) + 1) k) := by
  refine ⟨fun i hi => ?_, fun i hi => ?_⟩
  · rw [updN_ne (by omega), updN_ne (by omega), updN_ne (by omega), updN_ne (by omega)]
    exact h.1 i hi
  · have hi : i < vT w1 + 1 := hi
    show updN _ _ _ _ = updN (vC w1) (vT w1) co i ∧ updN _ _ _ _ = updN (vN w1) (vT w1) k i
    by_cases e : i = vT w1
    · subst e
      rw [updN_ne (by omega), updN_self, updN_self, updN_self, updN_self]
      exact ⟨rfl, rfl⟩
    · rw [updN_ne (by omega), updN_ne (by omega), updN_ne e, updN_ne (by omega), updN_ne (by omega), updN_ne e]
      exact h.2 i (by omega)
theorem nu_1 {ho un v : Nat} : updN (nuF ho un) 1 v = nuF ho v := by funext j; unfold updN nuF; (repeat' split) <;> first | rfl | (exfalso; omega)
theorem nu_0 {ho un v : Nat} : updN (nuF ho un) 0 v = nuF v un := by funext j; unfold updN nuF; (repeat' split) <;> first | rfl | (exfalso; omega)
theorem sdN_eq {x : Nat} (h : x < 12) : sdN x = x / 6 := by unfold sdN; split <;> omega
