/-! new rows, and what stands in them at the start -/
section KNW
variable {p : Program} {l : Launch} {e : Env} {R : Room} {s : State} {m : MethodId} {args : Array Value} {below : List Frame} {meth : Method} {c : Code} {H H0 : Heap} {locs : List Loc} {cells slots : Nat} {Q : State → Prop}
variable {cc : ByteArray} {pc : Nat} {ls : Array Slot} {rest : List Value} {G : kG} {A : Nat → Prop} {ws : va_W}
theorem k_newi (hexec : p.tables.exec = Jvm.exec) (hb : c.code = cc) (harr : (Cond.arrayClass .int).before args s = true) (hK : kK G s) (hP : va_P G.1 vwCl ws H) (hD : va_D A ws) (hS : va_S A H0 H locs) (hA : ∀ q, H0.size ≤ q → A q)
    {n : Int32} {N' : Nat} (hn : ¬ n < 0) (hN : n.toNatClampNeg = N') (hbytes : N' * 4 ≤ 536870912) (hcells : cells + 1 ≤ R.cells) (hslots : slots + N' ≤ R.slots) (hdg : decode cc pc = .ok (.newarray .int, 2))
    (kk : ∀ (q : Nat) (H1 : Heap), va_P G.1 vwCl (ws ++ [kC G q N' (nR (fun _ => 0))]) H1 → va_D A (ws ++ [kC G q N' (nR (fun _ => 0))]) → va_S A H0 H1 locs →
      W p l e R s m args below meth c H1 locs (cells + 1) (slots + N') Q (F0 m (pc + 2) ls (.ref q :: rest))) : W p l e R s m args below meth c H locs cells slots Q (F0 m pc ls (.int n :: rest)) := by
  refine va_newa (D := G.1) (atype := .int) (ty := .int) (a0 := (N', .inl (nR (fun _ => 0)))) hexec hb harr rfl hK.1 hP hD hS hA (fun _ => rfl) hn hN hbytes hcells hslots hdg (fun q cA H1 hK1 hP1 hD1 hS1 => ?_)
  have e1 : ("[" ++ FieldType.int.toString) = "[I" := by decide +kernel
  have h1 : s.vm.findClass ("[" ++ FieldType.int.toString) = some cA := (hK1.2 3 (cA, .int) rfl).2
  rw [e1] at h1
  have h2 := Option.some.inj (h1.symm.trans (k_nmI hK))
  subst h2
  exact kk q H1 hP1 hD1 hS1
theorem k_newl (hexec : p.tables.exec = Jvm.exec) (hb : c.code = cc) (harr : (Cond.arrayClass .long).before args s = true) (hK : kK G s) (hP : va_P G.1 vwCl ws H) (hD : va_D A ws) (hS : va_S A H0 H locs) (hA : ∀ q, H0.size ≤ q → A q)
    {n : Int32} {N' : Nat} (hn : ¬ n < 0) (hN : n.toNatClampNeg = N') (hbytes : N' * 8 ≤ 536870912) (hcells : cells + 1 ≤ R.cells) (hslots : slots + N' ≤ R.slots) (hdg : decode cc pc = .ok (.newarray .long, 2))
    (kk : ∀ (q : Nat) (H1 : Heap), va_P G.1 vwCl (ws ++ [kL G q N' (fun _ => 0)]) H1 → va_D A (ws ++ [kL G q N' (fun _ => 0)]) → va_S A H0 H1 locs →
      W p l e R s m args below meth c H1 locs (cells + 1) (slots + N') Q (F0 m (pc + 2) ls (.ref q :: rest))) : W p l e R s m args below meth c H locs cells slots Q (F0 m pc ls (.int n :: rest)) := by
  refine va_newa (D := G.1) (atype := .long) (ty := .long) (a0 := (N', .inr (.inl (fun _ => 0)))) hexec hb harr rfl hK.1 hP hD hS hA (fun _ => rfl) hn hN hbytes hcells hslots hdg (fun q cA H1 hK1 hP1 hD1 hS1 => ?_)
  have h1 : s.vm.findClass ("[" ++ FieldType.long.toString) = some cA := (hK1.2 3 (cA, .long) rfl).2
  have h3 : s.vm.findClass ("[" ++ FieldType.long.toString) = some G.2.2.1 := (hK.1.2 1 (G.2.2.1, .long) rfl).2
  have h2 := Option.some.inj (h1.symm.trans h3)
  subst h2
  exact kk q H1 hP1 hD1 hS1
end KNW
def wIni : Wv := (fun _ => 0, fun _ => 0, fun _ => 0, fun _ => 0, 1, 0, 0, 0)
theorem wIni_ok : wOk wIni := ⟨Nat.le_refl 1, by decide, Nat.zero_le _, Nat.zero_le _, fun _ _ => (by decide : 0 < 8), fun _ _ => (by decide : 0 < 8), fun i h => absurd h (Nat.not_lt_zero i), fun i h => absurd h (Nat.not_lt_zero i)⟩
def bIni : Nat → Nat := fun _ => 30
theorem bIni_ok : bOk bIni := fun _ _ => (by decide : 30 ≤ 200)
def bcN (i : Nat) : Nat → Nat := fun j => if j < i then 30 else 0
theorem bcN_0 : (fun _ => 0 : Nat → Nat) = bcN 0 := by funext j; exact (if_neg (Nat.not_lt_zero j)).symm
theorem bcN_s {i : Nat} : updN (bcN i) i 30 = bcN (i + 1) := by
  funext j
  unfold updN bcN
  (repeat' split) <;> first | rfl | (exfalso; omega)
theorem bcN_8 {j : Nat} (h : j < 8) : nR (bcN 8) j = nR bIni j := congrArg nI (if_pos h)
theorem pe_ini : updN (updN (updN (updN (updN (updN (updN (updN (fun _ => 0) 0 1) 1 0) 2 0) 3 0) 4 1) 5 0) 6 0) 7 0 = peF wIni wIni := by
  funext j
  show (if j = 7 then 0 else if j = 6 then 0 else if j = 5 then 0 else if j = 4 then 1 else if j = 3 then 0 else if j = 2 then 0 else if j = 1 then 0 else if j = 0 then 1 else 0) = (if j = 0 then 1 else if j = 1 then 0 else if j = 2 then 0 else if j = 3 then 0 else if j = 4 then 1 else if j = 5 then 0 else if j = 6 then 0 else if j = 7 then 0 else 0)
  (repeat' split) <;> first | rfl | (exfalso; omega)
theorem kn_ini : (fun _ => 0 : Nat → Nat) = knF wIni wIni := by
  funext j
  show 0 = if j < 60 then 0 else 0
  split <;> rfl
theorem pl_ini : (fun _ => 0 : Nat → Nat) = plF wIni wIni := by
  funext j
  show 0 = if j < 60 then 0 else 0
  split <;> rfl
theorem nu_ini : (fun _ => 0 : Nat → Nat) = nuF 0 0 := by
  funext j
  show 0 = if j = 0 then 0 else if j = 1 then 0 else 0
  (repeat' split) <;> rfl
theorem ru_ini {ru : Nat → Nat} : ruOk wIni wIni ru := ⟨fun i h => absurd h (Nat.not_lt_zero i), fun i h => absurd h (Nat.not_lt_zero i)⟩
