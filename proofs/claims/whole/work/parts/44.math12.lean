/-! the law's own numbers -/
theorem pick_le {c : Prop} {a b : Nat} (h1 : a ≤ 3) (h2 : b ≤ 3) : pick c a b ≤ 3 := by
  by_cases h : c
  · rw [pick_t h]; exact h1
  · rw [pick_f h]; exact h2
theorem cdA_le {c1 : Prop} : cdA c1 ≤ 3 := pick_le (by decide) (by decide)
theorem cdB_le {c1 c2 : Prop} : cdB c1 c2 ≤ 3 := pick_le (pick_le (by decide) (by decide)) (by decide)
theorem cdC_le {c1 c2 c3 : Prop} : cdC c1 c2 c3 ≤ 3 := pick_le (pick_le (pick_le (by decide) (by decide)) (by decide)) (by decide)
theorem cdA_inv {c1 : Prop} (h : cdA c1 = 0) : c1 := by
  refine Classical.byContradiction fun q => ?_
  rw [cdA_1 q] at h
  exact absurd h (by decide)
theorem cdB_inv {c1 c2 : Prop} (h : cdB c1 c2 = 0) : c1 ∧ c2 := by
  refine Classical.byContradiction fun q => ?_
  by_cases h1 : c1
  · by_cases h2 : c2
    · exact q ⟨h1, h2⟩
    · rw [cdB_2 h1 h2] at h; exact absurd h (by decide)
  · rw [cdB_1 h1] at h; exact absurd h (by decide)
theorem cdC_inv {c1 c2 c3 : Prop} (h : cdC c1 c2 c3 = 0) : c1 ∧ c2 ∧ c3 := by
  refine Classical.byContradiction fun q => ?_
  by_cases h1 : c1
  · by_cases h2 : c2
    · by_cases h3 : c3
      · exact q ⟨h1, h2, h3⟩
      · rw [cdC_3 h1 h2 h3] at h; exact absurd h (by decide)
    · rw [cdC_2 h1 h2] at h; exact absurd h (by decide)
  · rw [cdC_1 h1] at h; exact absurd h (by decide)
theorem gOk_if {k : Nat} {a b : Sg} (h : k = 0 → gOk a) (hb : gOk b) : gOk (stIf k a b) := by
  by_cases q : k = 0
  · rw [stIf_0 q]; exact h q
  · rw [stIf_n q]; exact hb
theorem gOk_W {s : Sg} {j : Nat} (h : gOk s) : wOk (gW s j) := by
  unfold gW
  split
  · exact h.1
  · exact h.2.1
theorem gOk_set {s : Sg} {j : Nat} {v : Wv} (h : gOk s) (hv : wOk v) : gOk (gSet s j v) := by
  unfold gSet
  split
  · exact ⟨hv, h.2.1, h.2.2⟩
  · exact ⟨h.1, hv, h.2.2⟩
theorem tN_R {x : Int32} {n : Nat} (h : inR x n) (hn : n < 2 ^ 31) : tN x < n := by
  obtain ⟨j, h1, rfl⟩ := h
  rw [tN_nI (by omega)]; exact h1
theorem tN_G {x : Int32} {a b : Nat} (h : inG x a b) (hb : b < 2 ^ 31) : a ≤ tN x ∧ tN x ≤ b := by
  obtain ⟨j, h1, h2, rfl⟩ := h
  rw [tN_nI (by omega)]; exact ⟨h1, h2⟩
theorem ok_bring {s : Sg} {c k : Nat} (h : gOk s) : gOk (sBring s c k) := by
  refine ⟨h.1, h.2.1, fun d hd => ?_⟩
  show updN (gK s) c (min 200 (gK s c + k)) d ≤ 200
  unfold updN
  split
  · omega
  · exact h.2.2 d hd
theorem wSpeed_ok {w : Wv} {v : Nat} (h : wOk w) (h1 : 1 ≤ v) (h2 : v ≤ 6) : wOk (wSpeed w v) := ⟨h1, h2, h.2.2⟩
theorem wTell_ok {w : Wv} {c k : Nat} (h : wOk w) (ht : vT w < 20) (hc : c < 8) (h1 : 1 ≤ k) (h2 : k ≤ 60) : wOk (wTell w c k) := by
  obtain ⟨a1, a2, a3, a4, a5, a6, a7, a8⟩ := h
  refine ⟨a1, a2, ht, a4, a5, a6, fun i hi => ?_, fun i hi => ?_⟩
  · have hi : i < vT w + 1 := hi
    show updN (vC w) (vT w) c i < 8
    unfold updN
    split
    · exact hc
    · exact a7 i (by omega)
  · have hi : i < vT w + 1 := hi
    show 1 ≤ updN (vN w) (vT w) k i ∧ updN (vN w) (vT w) k i ≤ 60
    unfold updN
    split
    · exact ⟨h1, h2⟩
    · exact a8 i (by omega)
theorem wHush_ok {w : Wv} (h : wOk w) : wOk (wHush w) := ⟨h.1, h.2.1, Nat.zero_le _, h.2.2.2.1, h.2.2.2.2.1, h.2.2.2.2.2.1, fun i hi => absurd hi (Nat.not_lt_zero i), fun i hi => absurd hi (Nat.not_lt_zero i)⟩
theorem wUn_ok {w : Wv} {k : Nat} (h : wOk w) : wOk (wUn w k) := ⟨h.1, h.2.1, h.2.2.1, Nat.le_trans (Nat.sub_le _ _) h.2.2.2.1, h.2.2.2.2⟩
theorem ok_un {s : Sg} {j k : Nat} (h : gOk s) : gOk (sUn s j k) := by
  unfold sUn
  split
  · exact ⟨wUn_ok h.1, h.2.1, unB_ok h.2.2⟩
  · exact ⟨h.1, wUn_ok h.2.1, unB_ok h.2.2⟩
theorem ok_plan {s : Sg} {x y wd hg co : Nat} (h : gOk s) (hc : co < 8) : gOk (sPlan s x y wd hg co) := ⟨wPl_ok hc h.1, wPl_ok hc h.2.1, h.2.2⟩
theorem ok_pass {s : Sg} {n : Nat} (h : gOk s) : gOk (sPass s n) := hrs_ok n (s := (gA s, gB s, gK s)) h
theorem lg_self {x y : Int64} (h : x = y) : lg_cmp x y = nI 0 := by
  subst h
  unfold lg_cmp
  rw [if_neg (by simp), if_pos rfl]
  rfl
theorem sh_cmpA : ((List.range 121).all fun a => (List.range 121).all fun b => b == 0 || decide (Op.cmpValue (FP.dcmp (FP.ddiv (FP.i2d (nI a)) (FP.i2d (nI b))) (FP.ddiv (FP.i2d (nI a)) (FP.i2d (nI b)))) .l = nI 0)) = true := by decide +kernel
theorem sh_cmp {w0 w1 : Wv} (h0 : vM w0 ≤ 60) (h1 : vM w1 ≤ 60) : Op.cmpValue (FP.dcmp (shR w0 w1) (shR w0 w1)) .l = nI 0 := by
  unfold shR
  split
  · decide +kernel
  · have h := List.all_eq_true.mp (List.all_eq_true.mp sh_cmpA (vM w0 + vM w1 - ofN w0 w1) (List.mem_range.mpr (by omega))) (vM w0 + vM w1) (List.mem_range.mpr (by omega))
    have e : (vM w0 + vM w1 == 0) = false := by simp; omega
    rw [e, Bool.false_or] at h
    exact of_decide_eq_true h
theorem lp_gt {L i : Nat} (hL : L ≤ 3072) (hi : i ≤ 3072) : (nI L - nI 6 < nI i) ↔ ¬ (i + 6 ≤ L) := by
  rw [Int32.lt_iff_toInt_lt, Int32.toInt_sub]
  have e1 : (nI L).toInt = L := by show (Int32.ofNat L).toInt = _; rw [Int32.toInt_ofNat_of_lt (by omega)]
  have e2 : (nI 6).toInt = 6 := by decide
  have e3 : (nI i).toInt = i := by show (Int32.ofNat i).toInt = _; rw [Int32.toInt_ofNat_of_lt (by omega)]
  rw [e1, e2, e3, Int.bmod_eq_of_le (by omega) (by omega)]
  omega
