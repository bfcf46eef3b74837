/-! a double handed back, new int rows, share, the start -/
section KE2
variable {p : Program} {l : Launch} {e : Env} {R : Room} {s : State} {m : MethodId} {args : Array Value} {below : List Frame} {meth : Method} {c : Code} {H : Heap} {locs : List Loc} {cells slots mc ms pc : Nat} {cc : ByteArray} {ls : Array Slot} {G : kG} {ws w1 : va_W} {A : Nat → Prop}
theorem k_dret {S : Type} {post : UInt64 → S → Prop} {wf : S → va_W} {v : UInt64} {Qs : State → Prop} (u : S) (hx : p.tables.exec = Jvm.exec) (hb : c.code = cc) (hr : meth.sig.returnType = some .double) (hlocks : meth.locks = false) (hP : va_P G.1 vwCl w1 H) (hD : va_D A w1) (hS : va_S A s.heap H locs) (hAe : A = va_A ws s.heap.size) (hQ : Qs = MQ below (kQd G ws post wf s.heap.size) args s mc ms A) (hc : cells ≤ mc) (hs : slots ≤ ms) (hdg : decode cc pc = .ok (.dreturn, 1)) (hw : w1 = wf u) (hpost : post v u) :
    W p l e R s m args below meth c H locs cells slots Qs (F0 m pc ls [.double v]) := by
  refine W.widen hc hs ?_
  subst hw
  rw [hQ]
  exact W.dret (v := v) hx hb hr (fun t ht _ => ⟨⟨v, u, rfl, hpost, by rw [ht]; exact hP, by rw [← hAe]; exact hD⟩, by rw [← hAe]; exact hS.F ht⟩) hS.2.2 hdg hlocks
end KE2
theorem ofN_le {w0 w1 : Wv} : ofN w0 w1 ≤ vM w0 + vM w1 := Nat.add_le_add (offN_le _) (offN_le _)
theorem sh_all : ((List.range 121).all fun a => (List.range 121).all fun b => b == 0 || decide (FP.ddiv (FP.i2d (nI a)) (FP.i2d (nI b)) &&& 0x7fffffffffffffff ≤ 0x7ff0000000000000)) = true := by decide +kernel
/-- no share of knots is other than a number -/
theorem sh_ok {a b : Nat} (ha : a ≤ 120) (hb : b ≤ 120) (h0 : 0 < b) : vf_n64 (FP.ddiv (FP.i2d (nI a)) (FP.i2d (nI b))) := by
  have h := List.all_eq_true.mp (List.all_eq_true.mp sh_all a (List.mem_range.mpr (by omega))) b (List.mem_range.mpr (by omega))
  have e : (b == 0) = false := by simp; omega
  rw [e, Bool.false_or] at h
  unfold vf_n64
  exact of_decide_eq_true h
def shR (w0 w1 : Wv) : UInt64 := if vM w0 + vM w1 = 0 then FP.dconst0 else FP.ddiv (FP.i2d (nI (vM w0 + vM w1 - ofN w0 w1))) (FP.i2d (nI (vM w0 + vM w1)))
theorem shR_z {w0 w1 : Wv} (h : vM w0 + vM w1 = 0) : FP.dconst0 = shR w0 w1 := (if_pos h).symm
theorem shR_n {w0 w1 : Wv} (h : ¬ vM w0 + vM w1 = 0) : FP.ddiv (FP.i2d (nI (vM w0 + vM w1 - ofN w0 w1))) (FP.i2d (nI (vM w0 + vM w1))) = shR w0 w1 := (if_neg h).symm
/-- the share is a number -/
theorem shR_num {w0 w1 : Wv} (h0 : vM w0 ≤ 60) (h1 : vM w1 ≤ 60) : vf_n64 (shR w0 w1) := by
  unfold shR
  split
  · unfold vf_n64
    decide +kernel
  · exact sh_ok (by omega) (by omega) (by omega)
/-! hours keep the plan -/
theorem wkF_plan : ∀ (n : Nat) (w : Wv) (B : Nat → Nat), vP (wkF n w B).1 = vP w := by
  intro n
  induction n with
  | zero => intro w B; rfl
  | succ n ih =>
    intro w B
    by_cases c : 0 < vT w ∧ vM w < 60 ∧ takeBy B (vC w 0) < 8
    · rw [wkF_s c.1 c.2.1 c.2.2]
      exact ih (knW w B) (takeB B (vC w 0))
    · rw [wkF_n c]
theorem hr1_plan (s : Rg) : vP (hr1 s).1.1 = vP s.1 ∧ vP (hr1 s).1.2.1 = vP s.2.1 := ⟨wkF_plan _ _ _, wkF_plan _ _ _⟩
theorem hrs_plan : ∀ (n : Nat) (s : Rg), vP (hrs n s).1.1 = vP s.1 ∧ vP (hrs n s).1.2.1 = vP s.2.1
  | 0, _ => ⟨rfl, rfl⟩
  | n + 1, s => by
    rw [hrs]
    have h := hrs_plan n (hr1 s).1
    have h1 := hr1_plan s
    exact ⟨h.1.trans h1.1, h.2.trans h1.2⟩
section KNW
variable {p : Program} {l : Launch} {e : Env} {R : Room} {s : State} {m : MethodId} {args : Array Value} {below : List Frame} {meth : Method} {c : Code} {H H0 : Heap} {locs : List Loc} {cells slots : Nat} {Q : State → Prop}
variable {cc : ByteArray} {pc : Nat} {ls : Array Slot} {rest : List Value} {G : kG} {A : Nat → Prop} {ws : va_W}
theorem k_newi (hexec : p.tables.exec = Jvm.exec) (hb : c.code = cc) (harr : (Cond.arrayClass .int).before args s = true) (hK : kK G s) (hP : va_P G.1 vwCl ws H) (hD : va_D A ws) (hS : va_S A H0 H locs) (hA : ∀ q, H0.size ≤ q → A q)
    {n : Int32} {N' : Nat} (hn : ¬ n < 0) (hN : n.toNatClampNeg = N') (hbytes : N' * 4 ≤ 536870912) (hcells : cells + 1 ≤ R.cells) (hslots : slots + N' ≤ R.slots) (hdg : decode cc pc = .ok (.newarray .int, 2))
    (kk : ∀ (q : Nat) (H1 : Heap), va_P G.1 vwCl (ws ++ [kC G q N' (nR (fun _ => 0))]) H1 → va_D A (ws ++ [kC G q N' (nR (fun _ => 0))]) → va_S A H0 H1 locs →
      W p l e R s m args below meth c H1 locs (cells + 1) (slots + N') Q (F0 m (pc + 2) ls (.ref q :: rest))) : W p l e R s m args below meth c H locs cells slots Q (F0 m pc ls (.int n :: rest)) := by
  refine va_newa (D := G.1) (atype := .int) (ty := .int) (a0 := (N', .inl (nR (fun _ => 0)))) hexec hb harr rfl hK.1 hP hD hS hA (fun _ => rfl) hn hN hbytes hcells hslots hdg (fun q cA H1 hK1 hP1 hD1 hS1 => ?_)
  have e1 : ("[" ++ FieldType.int.toString) = "[I" := by decide +kernel
  have h1 : s.vm.findClass ("[" ++ FieldType.int.toString) = some cA := (hK1.2 3 (cA, .int) rfl).2
  rw [e1] at h1
  have h2 := Option.some.inj (h1.symm.trans (k_nmI hK))
  subst h2
  exact kk q H1 hP1 hD1 hS1
end KNW
def wIni : Wv := (fun _ => 0, fun _ => 0, fun _ => 0, fun _ => 0, 1, 0, 0, 0)
theorem wIni_ok : wOk wIni := ⟨Nat.le_refl 1, by decide, Nat.zero_le _, Nat.zero_le _, fun _ _ => (by decide : 0 < 8), fun _ _ => (by decide : 0 < 8), fun i h => absurd h (Nat.not_lt_zero i), fun i h => absurd h (Nat.not_lt_zero i)⟩
def bIni : Nat → Nat := fun _ => 30
theorem bIni_ok : bOk bIni := fun _ _ => (by decide : 30 ≤ 200)
def bcN (i : Nat) : Nat → Nat := fun j => if j < i then 30 else 0
theorem bcN_0 : (fun _ => 0 : Nat → Nat) = bcN 0 := by funext j; exact (if_neg (Nat.not_lt_zero j)).symm
theorem bcN_s {i : Nat} : updN (bcN i) i 30 = bcN (i + 1) := by
  funext j
  unfold updN bcN
  (repeat' split) <;> first | rfl | (exfalso; omega)
theorem bcN_8 {j : Nat} (h : j < 8) : nR (bcN 8) j = nR bIni j := congrArg nI (if_pos h)
theorem kt5 {w0 w1 : Wv} {y : Nat} (h : y < vM w0 / 6) : ktN w0 w1 5 y = nI (vK w0 (plN 6 y)) := by
  unfold ktN rgW
  rw [if_pos (by decide), show plN 5 y = plN 6 y by unfold plN; rw [if_pos (by decide), if_neg (by decide)]]
  exact (kaN_t (by unfold plN; rw [if_neg (by decide)]; omega)).symm
theorem kt6 {w0 w1 : Wv} {y : Nat} (h : y < vM w1 / 6) : ktN w0 w1 6 y = nI (vK w1 (plN 6 y)) := by
  unfold ktN rgW
  rw [if_neg (by decide)]
  exact (kaN_t (by unfold plN; rw [if_neg (by decide)]; omega)).symm
theorem pl56 {y : Nat} : plN 5 y = plN 6 y := by unfold plN; rw [if_pos (by decide), if_neg (by decide)]
theorem rwN_eq {w0 w1 : Wv} : min (vM w0) (vM w1) / 6 = rwN w0 w1 := by unfold rwN; omega
theorem sh_cmpA : ((List.range 121).all fun a => (List.range 121).all fun b => b == 0 || decide (Op.cmpValue (FP.dcmp (FP.ddiv (FP.i2d (nI a)) (FP.i2d (nI b))) (FP.ddiv (FP.i2d (nI a)) (FP.i2d (nI b)))) .l = nI 0)) = true := by decide +kernel
theorem sh_cmp {w0 w1 : Wv} (h0 : vM w0 ≤ 60) (h1 : vM w1 ≤ 60) : Op.cmpValue (FP.dcmp (shR w0 w1) (shR w0 w1)) .l = nI 0 := by
  unfold shR
  split
  · decide +kernel
  · have h := List.all_eq_true.mp (List.all_eq_true.mp sh_cmpA (vM w0 + vM w1 - ofN w0 w1) (List.mem_range.mpr (by omega))) (vM w0 + vM w1) (List.mem_range.mpr (by omega))
    have e : (vM w0 + vM w1 == 0) = false := by simp; omega
    rw [e, Bool.false_or] at h
    exact of_decide_eq_true h
