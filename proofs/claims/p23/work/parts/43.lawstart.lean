/-! what the tables give at the law's entry -/
theorem law_arr {args : Array Value} {s : State} {ty : FieldType} (h : (Cond.arrayClass ty).before args s = true) (hne : ∀ n, ty ≠ .object n) : ∃ c, ArrOfT s c ty ∧ va_RA s c ty := by
  obtain ⟨c, k, comp, h1, h2, h3⟩ := Cond.arrayClass_spec h
  refine ⟨c, fun n z => ⟨fun k h => (by cases h), k, h2, comp, h3⟩, ?_⟩
  cases ty with
  | object n => exact absurd rfl (hne n)
  | _ => exact h1
theorem law_arrA {args : Array Value} {s : State} {ty : FieldType} (h : (Cond.arrayOver (.array ty)).before args s = true) : ∃ c, ArrOfT s c (.array ty) ∧ va_RA s c (.array ty) := by
  obtain ⟨comp, c, k, h1, h2, h3, h4, h5⟩ := arrayOverA_spec h
  exact ⟨c, fun n z => ⟨fun k h => (by cases h), k, h3, comp, h4⟩, h5⟩
theorem law_nw {args : Array Value} {s : State} {w : Cond} (hw : w.onTables = true) (hts : ∀ w ∈ lw_tbl, w.before args s = true) (h : w ∈ lw_tbl) : va_Nw w s := va_Nw.of hw (hts w h)
theorem law_nm : ∀ q ∈ kNM, Cond.methodLinkNest q.1 q.2.1 q.2.2 RX3 ∈ lw_tbl := by decide +kernel
theorem law_nf : ∀ q ∈ kNF, Cond.fieldLinkNest q.1 q.2.1 q.2.2.1 q.2.2.2.1 q.2.2.2.2 RX3 ∈ lw_tbl := by decide +kernel
theorem law_nc : ∀ q ∈ kNC, Cond.castable q.1 q.2 ∈ lw_tbl := by decide +kernel
theorem law_nd : ∀ q ∈ kND, Cond.declares q ∈ lw_tbl := by decide +kernel
theorem law_ns : ∀ q ∈ kNS, Cond.stringRef RX3 q.1 q.2 ∈ lw_tbl := by decide +kernel
theorem law_nse : ∀ q ∈ kNS, Cond.exactly (.string RX3 q.1) "java/lang/String" ∈ flatC (Cond.and given_1 narrow_1) := by decide +kernel
theorem law_nn : ∀ q ∈ kNn, Cond.not (.castable q.1 q.2) ∈ flatC (Cond.and given_1 narrow_1) := by decide +kernel
theorem law_kk {p : Program} {s : State} {m : MethodId} {meth : Method} {c : Code} {b L : Nat} {xs : Nat → Int32} (C0 : lw_At p s m meth c b L xs) : ∃ G : kG, kK G s ∧ kZ (fun q : Nat => s.heap.size ≤ q) s s.heap := by
  obtain ⟨hx, hb, hr, hml, hown, hts, hX, hbl, hlocks, hgv⟩ := C0
  have hn := flat_of_before _ hgv
  obtain ⟨c0, i0, k0⟩ := u_known (C := RX0) (T := TX0) (N := 1) (n := 1) hts inX0 (hts (.instantiable RX0 1) (by decide +kernel))
  obtain ⟨c1, i1, k1⟩ := u_known (C := RX1) (T := TX1) (N := 5) (n := 5) hts inX1 (hts (.instantiable RX1 5) (by decide +kernel))
  obtain ⟨c2, i2, k2⟩ := u_known (C := RX2) (T := TX2) (N := 9) (n := 9) hts inX2 (hts (.instantiable RX2 9) (by decide +kernel))
  obtain ⟨c3, i3, k3⟩ := u_known (C := RX3) (T := TX3) (N := 2) (n := 2) hts inX3 (hts (.instantiable RX3 2) (by decide +kernel))
  obtain ⟨c4, i4, k4⟩ := u_known (C := RX4) (T := TX4) (N := 8) (n := 8) hts inX4 (hts (.instantiable RX4 8) (by decide +kernel))
  obtain ⟨cI, hI1, hI2⟩ := law_arr (hts (.arrayClass .int) (by decide +kernel)) (fun n h => by cases h)
  have hov2 := hts (.arrayOver (.array (.array .int))) (by decide +kernel)
  obtain ⟨cL, hL1, hL2⟩ := law_arrA hov2
  have hov := hts (.arrayOver (.array .int)) (by decide +kernel)
  obtain ⟨cA, hA1, hA2⟩ := law_arrA hov
  refine ⟨((fun k => if k = 0 then c0 else if k = 1 then c1 else if k = 2 then c2 else if k = 3 then c3 else c4, fun k => if k = 0 then i0 else if k = 1 then i1 else if k = 2 then i2 else if k = 3 then i3 else i4), cI, cL, cA), ⟨⟨?_, ?_⟩, ?_, ?_, ?_, ?_, ?_, ?_, ?_, ?_⟩, ?_, ?_⟩
  · intro k q hq
    match k, hq with
    | 0, hq => cases hq; exact k0
    | 1, hq => cases hq; exact k1
    | 2, hq => cases hq; exact k2
    | 3, hq => cases hq; exact k3
    | 4, hq => cases hq; exact k4
    | k + 5, hq => simp [vwCl] at hq
  · intro k q hq
    match k, hq with
    | 0, hq => cases hq; exact ⟨hI1, hI2⟩
    | 1, hq => cases hq; exact ⟨hL1, hL2⟩
    | 2, hq => cases hq; exact ⟨hA1, hA2⟩
    | k + 3, hq => simp [kT] at hq
  · exact fun q hq => law_nw rfl hts (law_nm q hq)
  · exact fun q hq => law_nw rfl hts (law_nf q hq)
  · exact fun q hq => law_nw rfl hts (law_nc q hq)
  · exact fun q hq => law_nw rfl hts (law_nd q hq)
  · intro q hq
    obtain ⟨a, c9, cell, k9, q1, -⟩ := Cond.exactly_spec (hn _ (law_nse q hq))
    exact ⟨a, vk_R.of (hts _ (law_ns q hq)) q1⟩
  · exact fun q hq => va_Nc.of (hn _ (law_nn q hq))
  · exact va_AOA.of hov
  · exact va_AOA.of hov2
  · exact vx_Zqof (hts (.laysStatic Bundle.tN "UNASSIGNED_STACK" Bundle.steD) (by decide +kernel)) (hts (.initialized Bundle.tN) (by decide +kernel)) (hn (.isRef (.static Bundle.tN "UNASSIGNED_STACK" Bundle.steD)) (by decide +kernel)) (fun a h q => absurd h (Nat.not_lt.mpr q))
  · exact vx_Zqof (hts (.laysStatic Bundle.tN "SUPPRESSED_SENTINEL" Bundle.listD) (by decide +kernel)) (hts (.initialized Bundle.tN) (by decide +kernel)) (hn (.isRef (.static Bundle.tN "SUPPRESSED_SENTINEL" Bundle.listD)) (by decide +kernel)) (fun a h q => absurd h (Nat.not_lt.mpr q))
