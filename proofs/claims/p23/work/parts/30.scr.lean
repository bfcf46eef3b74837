/-! a script of ints beside the world; what the law does keeps the state whole -/
theorem ok_bring {s : Sg} {c k : Nat} (h : gOk s) : gOk (sBring s c k) := by
  refine ⟨h.1, h.2.1, fun d hd => ?_⟩
  show updN (gK s) c (min 200 (gK s c + k)) d ≤ 200
  unfold updN
  split
  · omega
  · exact h.2.2 d hd
theorem wSpeed_ok {w : Wv} {v : Nat} (h : wOk w) (h1 : 1 ≤ v) (h2 : v ≤ 6) : wOk (wSpeed w v) := ⟨h1, h2, h.2.2⟩
theorem wTell_ok {w : Wv} {c k : Nat} (h : wOk w) (ht : vT w < 20) (hc : c < 8) (h1 : 1 ≤ k) (h2 : k ≤ 60) : wOk (wTell w c k) := by
  obtain ⟨a1, a2, a3, a4, a5, a6, a7, a8⟩ := h
  refine ⟨a1, a2, ht, a4, a5, a6, fun i hi => ?_, fun i hi => ?_⟩
  · have hi : i < vT w + 1 := hi
    show updN (vC w) (vT w) c i < 8
    unfold updN
    split
    · exact hc
    · exact a7 i (by omega)
  · have hi : i < vT w + 1 := hi
    show 1 ≤ updN (vN w) (vT w) k i ∧ updN (vN w) (vT w) k i ≤ 60
    unfold updN
    split
    · exact ⟨h1, h2⟩
    · exact a8 i (by omega)
theorem wHush_ok {w : Wv} (h : wOk w) : wOk (wHush w) := ⟨h.1, h.2.1, Nat.zero_le _, h.2.2.2.1, h.2.2.2.2.1, h.2.2.2.2.2.1, fun i hi => absurd hi (Nat.not_lt_zero i), fun i hi => absurd hi (Nat.not_lt_zero i)⟩
theorem wUn_ok {w : Wv} {k : Nat} (h : wOk w) : wOk (wUn w k) := ⟨h.1, h.2.1, h.2.2.1, Nat.le_trans (Nat.sub_le _ _) h.2.2.2.1, h.2.2.2.2⟩
theorem ok_plan {s : Sg} {x y wd hg co : Nat} (h : gOk s) (hc : co < 8) : gOk (sPlan s x y wd hg co) := ⟨wPl_ok hc h.1, wPl_ok hc h.2.1, h.2.2⟩
theorem ok_pass {s : Sg} {n : Nat} (h : gOk s) : gOk (sPass s n) := hrs_ok n (s := (gA s, gB s, gK s)) h
/-- a number chosen below n -/
def blN (v : Int32) : Nat := v.toBitVec.toNat % 2 ^ 31
theorem blN_lt {v : Int32} : blN v < 2 ^ 31 := Nat.mod_lt _ (by decide)
theorem blN_and {v : Int32} : v &&& (2147483647) = nI (blN v) := pk_and v 31 (by decide)
theorem pt_lt {w0 w1 : Wv} {x y : Nat} (h0 : wOk w0) (h1 : wOk w1) (hx : x < 12) (hy : y < 10) : ptN w0 w1 x y < 8 := by
  unfold ptN rgW
  by_cases h : x < 6
  · rw [if_pos h]; exact h0.2.2.2.2.1 _ (plN_lt hx hy)
  · rw [if_neg h]; exact h1.2.2.2.2.1 _ (plN_lt hx hy)
theorem plE_1 {w0 w1 : Wv} {co x y : Nat} (h : ¬ ptN w0 w1 x y = co) : plE w0 w1 co x y = 1 := if_neg h
theorem plE_0 {w0 w1 : Wv} {co x y : Nat} (h : ptN w0 w1 x y = co) : plE w0 w1 co x y = 0 := if_pos h
theorem rug_pl {w0 w1 : Wv} {D : Nat → Nat → Bool} {co : Nat} : rugF w0 w1 = rugF (wPl D 0 co w0) (wPl D 1 co w1) := rug_eq (fun _ _ => rfl) (fun _ _ => rfl)
theorem rug_hush0 {w0 w1 : Wv} : rugF w0 w1 = rugF (wHush w0) w1 := rug_eq (fun _ _ => rfl) (fun _ _ => rfl)
theorem rug_hush1 {w0 w1 : Wv} : rugF w0 w1 = rugF w0 (wHush w1) := rug_eq (fun _ _ => rfl) (fun _ _ => rfl)
theorem plan_hush0 {w0 w1 : Wv} : planF w0 w1 = planF (wHush w0) w1 := plan_rug (fun _ _ => rfl) (fun _ _ => rfl)
theorem plan_hush1 {w0 w1 : Wv} : planF w0 w1 = planF w0 (wHush w1) := plan_rug (fun _ _ => rfl) (fun _ _ => rfl)
theorem rug_sp0 {w0 w1 : Wv} {v : Nat} : rugF w0 w1 = rugF (wSpeed w0 v) w1 := rug_eq (fun _ _ => rfl) (fun _ _ => rfl)
theorem rug_sp1 {w0 w1 : Wv} {v : Nat} : rugF w0 w1 = rugF w0 (wSpeed w1 v) := rug_eq (fun _ _ => rfl) (fun _ _ => rfl)
theorem plan_sp0 {w0 w1 : Wv} {v : Nat} : planF w0 w1 = planF (wSpeed w0 v) w1 := plan_rug (fun _ _ => rfl) (fun _ _ => rfl)
theorem plan_sp1 {w0 w1 : Wv} {v : Nat} : planF w0 w1 = planF w0 (wSpeed w1 v) := plan_rug (fun _ _ => rfl) (fun _ _ => rfl)
theorem plan_0 {w0 w1 : Wv} {a b gg co : Nat} : planF w0 w1 = planF (wPl (eC a b gg 0 0) 0 co w0) (wPl (eC a b gg 0 0) 1 co w1) :=
  plan_rug (fun i _ => by show _ = plW (eC a b gg 0 0) 0 co (vP w0) i; rw [eC_0]) (fun i _ => by show _ = plW (eC a b gg 0 0) 1 co (vP w1) i; rw [eC_0])
/-! contracts of methods that are handed the script -/
def kStX (G : kG) (b L : Nat) (xs : Nat → Int32) (av : List Value) (ws : va_W) (sz : Nat) : Array Value → State → Prop := va_Pc av (fun U => (U.heap.size = sz ∧ va_P G.1 vwCl ws U.heap ∧ kK G U ∧ va_D (fun _ => True) ws ∧ kZ (va_A ws sz) U U.heap) ∧ va_X b L xs U U.heap ∧ b < sz ∧ ∀ (k : Nat) (q : Nat × va_E), ws[k]? = some q → q.1 ≠ b)
def kMX (l : Launch) (G : kG) (b L : Nat) (xs : Nat → Int32) (y : MethodName) (wsy : List Cond) (rm : Room) (av : List Value) (ws : va_W) (Q : kQ) : Prop := ∀ sz : Nat, Met l y wsy rm (kStX G b L xs av ws sz) (Q sz) rm.cells rm.slots (va_A ws sz)
theorem kBlindX {G : kG} {b L : Nat} {xs : Nat → Int32} {av : List Value} {ws : va_W} {sz : Nat} : FrameBlind (kStX G b L xs av ws sz) := by
  intro a U g mk q
  obtain ⟨q0, ⟨q1, qP, qK, qD, qZ⟩, qX, qb, qn⟩ := q
  exact ⟨q0, ⟨q1, qP, ⟨va_K.moved (u := U) (U := U.calling g mk a) (Vm.Alike.refl U.vm) qK.1, kN_same rfl qK.2⟩, qD, ⟨vx_Zq.moved (u := U) (U := U.calling g mk a) (Vm.Alike.refl U.vm) qZ.1, vx_Zq.moved (u := U) (U := U.calling g mk a) (Vm.Alike.refl U.vm) qZ.2⟩⟩, va_X.moved (u := U) (U := U.calling g mk a) (Vm.Alike.refl U.vm) qX, qb, qn⟩
theorem k_ofWX {l : Launch} {G : kG} {b L : Nat} {xs : Nat → Int32} {y : MethodName} {wsy ws' : List Cond} {rm : Room} {av : List Value} {ws : va_W} {Q : kQ} {cc : ByteArray} {maxL : Nat} {rt : Option FieldType} (hy : plainName y.cls = true) (hw : wsy = Cond.code y cc maxL rt :: ws') (hlen : (lg_sl av).length ≤ maxL)
    (body : ∀ (p : Program) (e : Env) (s : State) (m : MethodId) (args : Array Value) (below : List Frame) (meth : Method) (c : Code) (A : Nat → Prop) (ls : Array Slot) (Qs : State → Prop) (H : Heap) (locs : List Loc), va_X b L xs s s.heap → b < s.heap.size → ¬ A b → Qs = MQ below (Q s.heap.size) args s rm.cells rm.slots A → A = va_A ws s.heap.size → p.tables.exec = Jvm.exec → c.code = cc → meth.sig.returnType = rt → c.maxLocals = maxL → (∀ w ∈ wsy, w.before args s = true) → s.vm.findClass y.cls = some m.cls → meth.locks = false → meth.name = y.name → kK G s → kZ A s s.heap → va_P G.1 vwCl ws H → va_D A ws → va_S A s.heap H locs → (∀ q, s.heap.size ≤ q → A q) → lv_has ls maxL (lv_args 0 av) →
      W p l e rm s m args below meth c H locs 0 0 Qs (F0 m 0 ls [])) : kMX l G b L xs y wsy rm av ws Q := by
  intro sz
  refine Met.ofW (cc := cc) (maxL := maxL) (ret := rt) hy hw ?_
  intro p e s m args below meth c s₁ B hml hv
  obtain ⟨rfl, ⟨hsz, hP, hK, hD0, hZ⟩, hX, hbl, hbn⟩ := hv
  subst hsz
  have hl := lv_entry av (n := maxL) hlen
  rw [lg_entry_eq]
  generalize (lg_sl av ++ List.replicate (maxL - (lg_sl av).length) Slot.unset).toArray = ls at hl ⊢
  refine body p e s m _ below meth c _ ls _ _ _ hX hbl (fun h => ?_) rfl rfl B.exec B.bytes B.returns hml (atoms_spec (ws := wsy) B.pre) (findClass_of_methodNamed B.named) B.notSynchronized (name_of_methodNamed B.named B.method).1 hK hZ hP hD0.self va_S.rf (fun q h => Or.inr h) hl
  rcases h with ⟨k, e, h⟩ | h
  · exact hbn k (b, e) h rfl
  · omega
section KX
variable {p : Program} {l : Launch} {e : Env} {R : Room} {s : State} {m : MethodId} {args : Array Value} {below : List Frame} {meth : Method} {c : Code} {H : Heap} {locs : List Loc} {cells slots : Nat}
variable {y : MethodName} {bytes cc : ByteArray} {maxL nL n index pc : Nat} {ret : Option FieldType} {wsy : List Cond} {rm : Room} {Q : kQ} {Ts : List Cond} {own C : String} {b L : Nat} {xs : Nat → Int32} {As rest st0 : List Value} {ls : Array Slot} {G : kG} {ws wc : va_W} {A : Nat → Prop}
theorem k_preX {y : List Value} (hX : va_X b L xs s s.heap) (hbl : b < s.heap.size) (hbA : ¬ A b) (hK : kK G s) (hZ : kZ A s s.heap) (hP : va_P G.1 vwCl ws H) (hD : va_D A ws) (hS : va_S A s.heap H locs) (hA : ∀ q, s.heap.size ≤ q → A q) (isC : List Nat) (hC : isC.map (fun i => ws[i]?) = wc.map some) (hnC : va_nd isC = true) : ∀ U : State, U.heap = H → s.WarmedH U.vm → kStX G b L xs y wc H.size y.toArray U := by
  intro U hU hW
  obtain ⟨q0, q1⟩ := k_pre (y := y) hK hZ hP hD hS hA isC hC hnC U hU hW
  refine ⟨q0, q1, ?_, Nat.lt_of_lt_of_le hbl hS.1, fun k q hk e9 => hbA (e9 ▸ (hD.sub isC hnC hC).2 k q hk)⟩
  rw [hU]
  exact (hX.kept (hS.2.1 b hbl hbA)).moved hW.alike
theorem k_runSX (F : CallFix p m c cc nL s args Ts own) (hM : kMX l G b L xs y wsy rm As wc Q) (cw : CallB R s args own index y bytes maxL ret wsy rm rm.cells rm.slots n ∧ (Cond.static y).before args s = true) (hX : va_X b L xs s s.heap) (hbl : b < s.heap.size) (hbA : ¬ A b) (hK : kK G s) (hZ : kZ A s s.heap) (hP : va_P G.1 vwCl ws H) (hD : va_D A ws) (hS : va_S A s.heap H locs) (hA : ∀ q, s.heap.size ≤ q → A q) (isC : List Nat) (hC : isC.map (fun i => ws[i]?) = wc.map some) (hnC : va_nd isC = true) (hn : As.length = n) (hsize : ls.size = nL) (hst : st0 = As.reverse ++ rest) (hW : (rest.map fun v => v.category).sum ≤ 8) (hdg : decode cc pc = .ok (.invokestatic index, 3)) (hf : cells + rm.cells ≤ R.cells ∧ slots + rm.slots ≤ R.slots) : va_Run p l e R s m args below meth c H locs cells slots rm.cells rm.slots (F0 m pc ls st0) rest (Q H.size As.toArray) (va_A wc H.size) :=
  va_runS F (hM H.size) cw ⟨kBlindX, k_preX hX hbl hbA hK hZ hP hD hS hA isC hC hnC⟩ rfl hn hsize hst (lv_room (rest := st0) hW) hdg hf
end KX
/-! the Sim as it is made -/
def fillF (i j : Nat) : Fn2 := fun x y => if (x < 12 ∧ y < 10) ∧ (x < i ∨ (x = i ∧ y < j)) then (-1) else 0
theorem fill_0 : (fun _ _ => 0 : Fn2) = fillF 0 0 := by
  funext x y; unfold fillF; rw [if_neg (by omega)]
theorem fill_s {i j : Nat} (hi : i < 12) (hj : j < 10) : updR (fillF i j) i j (-1) = fillF i (j + 1) := by
  funext x y
  by_cases h : x = i ∧ y = j
  · obtain ⟨rfl, rfl⟩ := h
    rw [updR_at]; unfold fillF; rw [if_pos (by omega)]
  · rw [updR_ne h]; unfold fillF
    by_cases h2 : (x < 12 ∧ y < 10) ∧ (x < i ∨ (x = i ∧ y < j))
    · rw [if_pos h2, if_pos (by omega)]
    · rw [if_neg h2, if_neg (by omega)]
theorem fill_n {i : Nat} : fillF i 10 = fillF (i + 1) 0 := by
  funext x y; unfold fillF
  by_cases h2 : (x < 12 ∧ y < 10) ∧ (x < i ∨ (x = i ∧ y < 10))
  · rw [if_pos h2, if_pos (by omega)]
  · rw [if_neg h2, if_neg (by omega)]
theorem fill_e : fillF 12 0 = rugF wIni wIni := by
  funext x y; unfold fillF rugF
  by_cases h2 : x < 12 ∧ y < 10
  · rw [if_pos (by omega), if_pos h2]
    unfold ktN rgW
    exact kaN_f (by split <;> exact Nat.not_lt_zero _)
  · rw [if_neg (fun q => h2 q.1), if_neg h2]
theorem plan_ini : (fun _ _ => 0 : Fn2) = planF wIni wIni := by
  funext x y; unfold planF
  by_cases h2 : x < 12 ∧ y < 10
  · rw [if_pos h2]
    unfold ptN rgW
    split <;> rfl
  · rw [if_neg h2]
theorem wool_ini : updN (updN (updN (updN (updN (updN (updN (updN (fun _ => 0) 0 30) 1 30) 2 30) 3 30) 4 30) 5 30) 6 30) 7 30 = fun j => if j < 8 then 30 else 0 := by
  funext j
  unfold updN
  (repeat' split) <;> first | rfl | (exfalso; omega)
theorem wool_in {j : Nat} (h : j < 8) : nR (fun j => if j < 8 then 30 else 0) j = nR bIni j := congrArg nI (if_pos h)
