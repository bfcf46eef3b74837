/-! derived rows: worlds over vwCl, one list of array classes, contracts that say answer and world -/
abbrev kG : Type := va_G × ClassId × ClassId × ClassId
abbrev kT (G : kG) : List (ClassId × FieldType) := [(G.2.1, .int), (G.2.2.1, .array (.array .int)), (G.2.2.2, .array .int)]
abbrev kC (G : kG) (a n : Nat) (f : Nat → Int32) : Nat × va_E := (a, .inl (G.2.1, n, .inl f))
abbrev kH (G : kG) (a n : Nat) (f : Nat → Option Nat) : Nat × va_E := (a, .inl (G.2.2.1, n, .inr (.inr (.inr (.inr f)))))
abbrev kGd (G : kG) (a n : Nat) (f : Nat → Option Nat) : Nat × va_E := (a, .inl (G.2.2.2, n, .inr (.inr (.inr (.inr f)))))
abbrev kO (a ci : Nat) (fs : List Value) : Nat × va_E := (a, .inr (ci, fs))
def nR (f : Nat → Nat) : Nat → Int32 := fun i => nI (f i)
abbrev kQ : Type := Nat → Array Value → State → Outcome → State → Prop
/-! what the tables say of nest mates, exceptions, their texts -/
def kNM : List (String × Nat × MethodName) := [(RX3, 9, yX1_init), (RX0, 15, yX3_at), (RX0, 25, yX3_put), (RX1, 37, yX3_sideOf), (RX1, 48, yX3_placeOf), (RX1, 59, yX3_at), (RX1, 70, yX3_copyRow), (RX2, 40, yX3_copyRow), (RX2, 44, yX3_at), (RX2, 48, yX3_put)]
def kNF : List (String × Nat × String × String × String) := [(RX3, 112, RX2, "toldColours", "[I"), (RX3, 120, RX2, "toldKnots", "[I"), (RX3, 124, RX0, "left", "[I"), (RX3, 131, RX2, "planned", "[I"), (RX3, 45, RX1, "baskets", "LKnotRugs$Baskets;"), (RX3, 60, RX2, "speed", "I"), (RX3, 64, RX2, "told", "I"), (RX3, 81, RX2, "made", "I"), (RX3, 90, RX1, "unpicked", "I"), (RX1, 107, RX2, "knotted", "[I"), (RX1, 55, RX2, "planned", "[I"), (RX1, 67, RX0, "left", "[I"), (RX1, 97, RX2, "made", "I")]
def kEI : String := "java/lang/IndexOutOfBoundsException"
def kEA : String := "java/lang/IllegalArgumentException"
def kES : String := "java/lang/IllegalStateException"
def kNC : List (String × String) := []
def kND : List MethodName := []
def kNS : List (Nat × String) := []
def kNn : List (String × String) := []
/-- the tables' words of int[][] and int[][][] -/
theorem va_AOA.moved {ty : FieldType} {u U : State} (hvm : u.vm.Alike U.vm) (h : va_AOA ty u) : va_AOA ty U := by
  obtain ⟨comp, c, k, h1, h2, h3, h4, h5⟩ := arrayOverA_spec h
  obtain ⟨k', hk', he⟩ := hvm.2.2 _ _ h3
  have hi : (U.vm.classes.findIdx? fun (x : Class) => match x.kind with | .array component _ => component == comp | _ => false) = some c := by
    rw [hvm.findIdx?_eq _ (fun _ => rfl)]; exact h2
  have hkind : k'.kind = .array comp (.array ty) := by rw [he]; exact h4
  have f1 : U.vm.findClass (FieldType.array ty).toString = some comp := by rw [hvm.findClass]; exact h1
  have f2 : U.vm.findClass ("[" ++ (FieldType.array ty).toString) = some c := by rw [hvm.findClass]; exact h5
  unfold va_AOA Cond.before Cond.holds
  simp only [Cond.value]
  rw [f1, Option.bind_some]
  refine (congrArg (fun o : Option Nat => (o.bind (fun c => (U.vm.classes[c]?).map fun (k : Class) => match k.kind with | .array _ ty9 => decide (ty9 = FieldType.array ty) && decide (U.vm.findClass ("[" ++ (FieldType.array ty).toString) = some c) | _ => false) == some true)) hi).trans ?_
  simp [hk', hkind, f2]
def kN (U : State) : Prop := (∀ q ∈ kNM, va_Nw (.methodLinkNest q.1 q.2.1 q.2.2 RX3) U) ∧ (∀ q ∈ kNF, va_Nw (.fieldLinkNest q.1 q.2.1 q.2.2.1 q.2.2.2.1 q.2.2.2.2 RX3) U) ∧ (∀ q ∈ kNC, va_Nw (.castable q.1 q.2) U) ∧ (∀ q ∈ kND, va_Nw (.declares q) U) ∧ (∀ q ∈ kNS, ∃ a, vk_R RX3 q.1 q.2 a U) ∧ (∀ q ∈ kNn, va_Nc q.1 q.2 U) ∧ va_AOA .int U ∧ va_AOA (.array .int) U
theorem kN_warm {s U : State} (hW : s.WarmedH U.vm) (h : kN s) : kN U := ⟨fun q hq => va_Nw.warmM hW (h.1 q hq), fun q hq => va_Nw.warmF hW (h.2.1 q hq), fun q hq => va_Nw.warmC hW (h.2.2.1 q hq), fun q hq => va_Nw.warmD hW (h.2.2.2.1 q hq), fun q hq => (h.2.2.2.2.1 q hq).elim fun a ha => ⟨a, vk_R.warm hW ha⟩, fun q hq => va_Nc.moved hW.alike (h.2.2.2.2.2.1 q hq), va_AOA.moved hW.alike h.2.2.2.2.2.2.1, va_AOA.moved hW.alike h.2.2.2.2.2.2.2⟩
theorem kN_same {s U : State} (hv : s.vm = U.vm) (h : kN s) : kN U := ⟨fun q hq => va_Nw.same rfl hv (h.1 q hq), fun q hq => va_Nw.same rfl hv (h.2.1 q hq), fun q hq => va_Nw.same rfl hv (h.2.2.1 q hq), fun q hq => va_Nw.same rfl hv (h.2.2.2.1 q hq), fun q hq => (h.2.2.2.2.1 q hq).elim fun a ha => ⟨a, vk_R.same hv.symm ha⟩, fun q hq => by
  obtain ⟨c, t, h1, h2, h3⟩ := h.2.2.2.2.2.1 q hq
  exact ⟨c, t, by rw [← hv]; exact h1, by rw [← hv]; exact h2, by rw [← hv]; exact h3⟩, va_AOA.moved (by rw [← hv]; exact Vm.Alike.refl _) h.2.2.2.2.2.2.1, va_AOA.moved (by rw [← hv]; exact Vm.Alike.refl _) h.2.2.2.2.2.2.2⟩
def kK (G : kG) (U : State) : Prop := va_K G.1 vwCl (kT G) U ∧ kN U
/-- where the two statics of Throwable lie: outside of what may change -/
def kZ (A : Nat → Prop) (U : State) (H : Heap) : Prop := vx_Zq Bundle.tN "UNASSIGNED_STACK" Bundle.steD A U H ∧ vx_Zq Bundle.tN "SUPPRESSED_SENTINEL" Bundle.listD A U H
abbrev kSt (G : kG) (av : List Value) (ws : va_W) (sz : Nat) : Array Value → State → Prop := va_Pc av (fun U => U.heap.size = sz ∧ va_P G.1 vwCl ws U.heap ∧ kK G U ∧ va_D (fun _ => True) ws ∧ kZ (va_A ws sz) U U.heap)
def kM (l : Launch) (G : kG) (y : MethodName) (wsy : List Cond) (rm : Room) (av : List Value) (ws : va_W) (Q : kQ) : Prop := ∀ sz : Nat, Met l y wsy rm (kSt G av ws sz) (Q sz) rm.cells rm.slots (va_A ws sz)
abbrev kBX (G : kG) (ws : va_W) (px : String → Prop) (sz : Nat) : String → Unit → State → Prop := fun E _ t => px E ∧ va_P G.1 vwCl ws t.heap ∧ va_D (va_A ws sz) ws
abbrev kXC (G : kG) (ws : va_W) (px : String → Prop) (sz : Nat) : String → State → State → Prop := vx_X (S := Unit) (fun _ => True) (kBX G ws px sz) (va_A ws sz)
/-- a contract of a method that returns or throws; where it throws, its world is as it was -/
def kX (l : Launch) (G : kG) (y : MethodName) (wsy : List Cond) (rm : Room) (av : List Value) (ws : va_W) (Q : kQ) (px : String → Prop) : Prop := ∀ sz : Nat, vx_Met l y wsy rm (kSt G av ws sz) (Q sz) (kXC G ws px sz) rm.cells rm.slots (va_A ws sz)
abbrev kE {S : Type} (G : kG) (ws : va_W) (wf : S → va_W) (sz : Nat) : S → State → Prop := fun u t => va_P G.1 vwCl (wf u) t.heap ∧ va_D (va_A ws sz) (wf u)
abbrev kQi {S : Type} (G : kG) (ws : va_W) (post : Int32 → S → Prop) (wf : S → va_W) : kQ := fun sz => va_Qi post (kE G ws wf sz) (va_A ws sz)
abbrev kQl {S : Type} (G : kG) (ws : va_W) (post : Int64 → S → Prop) (wf : S → va_W) : kQ := fun sz => va_Ql post (kE G ws wf sz) (va_A ws sz)
abbrev kQd {S : Type} (G : kG) (ws : va_W) (post : UInt64 → S → Prop) (wf : S → va_W) : kQ := fun sz => va_Qd post (kE G ws wf sz) (va_A ws sz)
abbrev kQv {S : Type} (G : kG) (ws : va_W) (post : S → Prop) (wf : S → va_W) : kQ := fun sz => va_Qv post (kE G ws wf sz) (va_A ws sz)
abbrev kQr {S : Type} (G : kG) (ws : va_W) (post : S → Nat → Prop) (wf : S → va_W) : kQ := fun sz => va_Qr (fun _ : S => True) (fun u a t => post u a ∧ va_P G.1 vwCl (wf u) t.heap ∧ va_D (va_A ws sz) (wf u)) (va_A ws sz)
theorem kSub_of {ws ws' : va_W} {is : List Nat} (h : is.map (fun i => ws[i]?) = ws'.map some) : is.filterMap (fun i => ws[i]?) = ws' := by
  have h2 : (is.map (fun i => ws[i]?)).filterMap id = (ws'.map some).filterMap id := by rw [h]
  rw [List.filterMap_map, List.filterMap_map] at h2
  simpa [Function.comp_def] using h2
theorem kP_sub {D : va_G} {cl : List vw_C} {ws ws' : va_W} {H : Heap} (h : va_P D cl ws H) (is : List Nat) (hs : is.map (fun i => ws[i]?) = ws'.map some) : va_P D cl ws' H := h.sub is (kSub_of hs)
theorem kBlind {G : kG} {av : List Value} {ws : va_W} {sz : Nat} : FrameBlind (kSt G av ws sz) := by
  intro a U g mk q
  obtain ⟨q0, q1, qP, qK, qD, qZ⟩ := q
  exact ⟨q0, q1, qP, ⟨va_K.moved (u := U) (U := U.calling g mk a) (Vm.Alike.refl U.vm) qK.1, kN_same rfl qK.2⟩, qD, ⟨vx_Zq.moved (u := U) (U := U.calling g mk a) (Vm.Alike.refl U.vm) qZ.1, vx_Zq.moved (u := U) (U := U.calling g mk a) (Vm.Alike.refl U.vm) qZ.2⟩⟩
theorem kZ_to {A B : Nat → Prop} {s U : State} {H : Heap} {locs : List Loc} (hZ : kZ A s s.heap) (hS : va_S A s.heap H locs) (hvm : s.vm.Alike U.vm) (hU : U.heap = H) (hB : ∀ q, B q → A q) : kZ B U U.heap := by
  have f : ∀ {C n d : String}, vx_Zq C n d A s s.heap → vx_Zq C n d B U U.heap := fun h => by
    rw [hU]
    exact vx_Zq.narrow (vx_Zq.moved hvm (vx_Zq.kept h (fun a h1 h2 => hS.2.1 a h1 h2))) hB
  exact ⟨f hZ.1, f hZ.2⟩
section KR
variable {p : Program} {l : Launch} {e : Env} {R : Room} {s : State} {m : MethodId} {args : Array Value} {below : List Frame} {meth : Method} {c : Code} {H : Heap} {locs : List Loc} {cells slots : Nat}
variable {y : MethodName} {bytes cc : ByteArray} {maxL nL n index pc : Nat} {ret : Option FieldType} {wsy : List Cond} {rm : Room} {Q : kQ} {Ts : List Cond} {own C : String} {b : Addr} {As rest st0 : List Value} {ls : Array Slot} {G : kG} {ws wc wr : va_W} {A : Nat → Prop}
theorem k_pre {y : List Value} (hK : kK G s) (hZ : kZ A s s.heap) (hP : va_P G.1 vwCl ws H) (hD : va_D A ws) (hS : va_S A s.heap H locs) (hA : ∀ q, s.heap.size ≤ q → A q) (isC : List Nat) (hC : isC.map (fun i => ws[i]?) = wc.map some) (hnC : va_nd isC = true) : ∀ U : State, U.heap = H → s.WarmedH U.vm → kSt G y wc H.size y.toArray U := by
  intro U hU hW
  exact ⟨rfl, by rw [hU], by rw [hU]; exact kP_sub hP isC hC, ⟨va_K.moved hW.alike hK.1, kN_warm hW hK.2⟩, (hD.sub isC hnC hC).weaken (fun _ _ _ _ => trivial), kZ_to hZ hS hW.alike hU (fun q hq => va_free hD hS hA isC hC q hq)⟩

theorem k_runV (F : CallFix p m c cc nL s args Ts own) (hM : kM l G y wsy rm (.ref b :: As) wc Q) (cw : CallW R s args own C index y bytes maxL ret wsy rm rm.cells rm.slots n) (hK : kK G s) (hZ : kZ A s s.heap) (hP : va_P G.1 vwCl ws H) (hD : va_D A ws) (hS : va_S A s.heap H locs) (hA : ∀ q, s.heap.size ≤ q → A q) (isC : List Nat) (hC : isC.map (fun i => ws[i]?) = wc.map some) (hnC : va_nd isC = true) (q0 ci : Nat) {fs : List Value} {qc : vw_C} (hq : wc[q0]? = some (b, .inr (ci, fs))) (hc : vwCl[ci]? = some qc) (hcn : qc.1 = C) (hn : As.length = n) (hsize : ls.size = nL) (hst : st0 = As.reverse ++ .ref b :: rest) (hW : (rest.map fun v => v.category).sum ≤ 8) (hdg : decode cc pc = .ok (.invokevirtual index, 3)) (hf : cells + rm.cells ≤ R.cells ∧ slots + rm.slots ≤ R.slots) : va_Run p l e R s m args below meth c H locs cells slots rm.cells rm.slots (F0 m pc ls st0) rest (Q H.size (Value.ref b :: As).toArray) (va_A wc H.size) := by
  subst hcn
  exact va_runV F (hM H.size) cw ⟨kBlind, va_recv hK.1 (kP_sub hP isC hC) hc hq, k_pre hK hZ hP hD hS hA isC hC hnC⟩ rfl hn hsize hst (lv_room (rest := st0) hW) hdg hf
theorem k_runS (F : CallFix p m c cc nL s args Ts own) (hM : kM l G y wsy rm As wc Q) (cw : CallB R s args own index y bytes maxL ret wsy rm rm.cells rm.slots n ∧ (Cond.static y).before args s = true) (hK : kK G s) (hZ : kZ A s s.heap) (hP : va_P G.1 vwCl ws H) (hD : va_D A ws) (hS : va_S A s.heap H locs) (hA : ∀ q, s.heap.size ≤ q → A q) (isC : List Nat) (hC : isC.map (fun i => ws[i]?) = wc.map some) (hnC : va_nd isC = true) (hn : As.length = n) (hsize : ls.size = nL) (hst : st0 = As.reverse ++ rest) (hW : (rest.map fun v => v.category).sum ≤ 8) (hdg : decode cc pc = .ok (.invokestatic index, 3)) (hf : cells + rm.cells ≤ R.cells ∧ slots + rm.slots ≤ R.slots) : va_Run p l e R s m args below meth c H locs cells slots rm.cells rm.slots (F0 m pc ls st0) rest (Q H.size As.toArray) (va_A wc H.size) :=
  va_runS F (hM H.size) cw ⟨kBlind, k_pre hK hZ hP hD hS hA isC hC hnC⟩ rfl hn hsize hst (lv_room (rest := st0) hW) hdg hf
theorem k_runSN {host : String} (F : CallFix p m c cc nL s args Ts own) (hM : kM l G y wsy rm As wc Q) (cw : va_CN R s args own index y host bytes maxL ret wsy rm rm.cells rm.slots n ∧ (Cond.static y).before args s = true ∧ True) (hK : kK G s) (hZ : kZ A s s.heap) (hP : va_P G.1 vwCl ws H) (hD : va_D A ws) (hS : va_S A s.heap H locs) (hA : ∀ q, s.heap.size ≤ q → A q) (isC : List Nat) (hC : isC.map (fun i => ws[i]?) = wc.map some) (hnC : va_nd isC = true) (hn : As.length = n) (hsize : ls.size = nL) (hst : st0 = As.reverse ++ rest) (hW : (rest.map fun v => v.category).sum ≤ 8) (hdg : decode cc pc = .ok (.invokestatic index, 3)) (hf : cells + rm.cells ≤ R.cells ∧ slots + rm.slots ≤ R.slots) : va_Run p l e R s m args below meth c H locs cells slots rm.cells rm.slots (F0 m pc ls st0) rest (Q H.size As.toArray) (va_A wc H.size) :=
  va_runSN F (hM H.size) cw ⟨kBlind, k_pre hK hZ hP hD hS hA isC hC hnC⟩ rfl hn hsize hst (lv_room (rest := st0) hW) hdg hf
theorem k_runI (F : CallFix p m c cc nL s args Ts own) (hM : kM l G y wsy rm (.ref b :: As) wc Q) (cw : CallB R s args own index y bytes maxL none wsy rm rm.cells rm.slots n ∧ y.name = "<init>" ∧ (Cond.instanceMethod y).before args s = true) (hK : kK G s) (hZ : kZ A s s.heap) (hP : va_P G.1 vwCl ws H) (hD : va_D A ws) (hS : va_S A s.heap H locs) (hA : ∀ q, s.heap.size ≤ q → A q) (isC : List Nat) (hC : isC.map (fun i => ws[i]?) = wc.map some) (hnC : va_nd isC = true) (hn : As.length = n) (hsize : ls.size = nL) (hst : st0 = As.reverse ++ .ref b :: rest) (hW : (rest.map fun v => v.category).sum ≤ 8) (hdg : decode cc pc = .ok (.invokespecial index, 3)) (hf : cells + rm.cells ≤ R.cells ∧ slots + rm.slots ≤ R.slots) : va_Run p l e R s m args below meth c H locs cells slots rm.cells rm.slots (F0 m pc ls st0) rest (Q H.size (Value.ref b :: As).toArray) (va_A wc H.size) :=
  va_runI F (hM H.size) cw ⟨kBlind, k_pre hK hZ hP hD hS hA isC hC hnC⟩ rfl hn hsize hst (lv_room (rest := st0) hW) hdg hf
theorem k_runIN {host : String} (F : CallFix p m c cc nL s args Ts own) (hM : kM l G y wsy rm (.ref b :: As) wc Q) (cw : va_CN R s args own index y host bytes maxL none wsy rm rm.cells rm.slots n ∧ y.name = "<init>" ∧ (Cond.instanceMethod y).before args s = true) (hK : kK G s) (hZ : kZ A s s.heap) (hP : va_P G.1 vwCl ws H) (hD : va_D A ws) (hS : va_S A s.heap H locs) (hA : ∀ q, s.heap.size ≤ q → A q) (isC : List Nat) (hC : isC.map (fun i => ws[i]?) = wc.map some) (hnC : va_nd isC = true) (hn : As.length = n) (hsize : ls.size = nL) (hst : st0 = As.reverse ++ .ref b :: rest) (hW : (rest.map fun v => v.category).sum ≤ 8) (hdg : decode cc pc = .ok (.invokespecial index, 3)) (hf : cells + rm.cells ≤ R.cells ∧ slots + rm.slots ≤ R.slots) : va_Run p l e R s m args below meth c H locs cells slots rm.cells rm.slots (F0 m pc ls st0) rest (Q H.size (Value.ref b :: As).toArray) (va_A wc H.size) :=
  va_runIN F (hM H.size) cw ⟨kBlind, k_pre hK hZ hP hD hS hA isC hC hnC⟩ rfl hn hsize hst (lv_room (rest := st0) hW) hdg hf
theorem k_runSW {hh : List (Nat × Nat × Nat × Nat)} (F : CallFix p m c cc nL s args Ts own) (hM : kM l G y wsy rm As wc Q) (cw : vx_CSW R s args own index y bytes maxL ret hh wsy rm rm.cells rm.slots n) (hK : kK G s) (hZ : kZ A s s.heap) (hP : va_P G.1 vwCl ws H) (hD : va_D A ws) (hS : va_S A s.heap H locs) (hA : ∀ q, s.heap.size ≤ q → A q) (isC : List Nat) (hC : isC.map (fun i => ws[i]?) = wc.map some) (hnC : va_nd isC = true) (hn : As.length = n) (hsize : ls.size = nL) (hst : st0 = As.reverse ++ rest) (hW : (rest.map fun v => v.category).sum ≤ 8) (hdg : decode cc pc = .ok (.invokestatic index, 3)) (hf : cells + rm.cells ≤ R.cells ∧ slots + rm.slots ≤ R.slots) : va_Run p l e R s m args below meth c H locs cells slots rm.cells rm.slots (F0 m pc ls st0) rest (Q H.size As.toArray) (va_A wc H.size) :=
  vx_runSW F (hM H.size) cw ⟨kBlind, k_pre hK hZ hP hD hS hA isC hC hnC⟩ rfl hn hsize hst (lv_room (rest := st0) hW) hdg hf
theorem k_xrunV {px : String → Prop} (F : CallFix p m c cc nL s args Ts own) (hM : kX l G y wsy rm (.ref b :: As) wc Q px) (cw : CallW R s args own C index y bytes maxL ret wsy rm rm.cells rm.slots n) (hK : kK G s) (hZ : kZ A s s.heap) (hP : va_P G.1 vwCl ws H) (hD : va_D A ws) (hS : va_S A s.heap H locs) (hA : ∀ q, s.heap.size ≤ q → A q) (isC : List Nat) (hC : isC.map (fun i => ws[i]?) = wc.map some) (hnC : va_nd isC = true) (q0 ci : Nat) {fs : List Value} {qc : vw_C} (hq : wc[q0]? = some (b, .inr (ci, fs))) (hc : vwCl[ci]? = some qc) (hcn : qc.1 = C) (hn : As.length = n) (hsize : ls.size = nL) (hst : st0 = As.reverse ++ .ref b :: rest) (hW : (rest.map fun v => v.category).sum ≤ 8) (hdg : decode cc pc = .ok (.invokevirtual index, 3)) (hf : cells + rm.cells ≤ R.cells ∧ slots + rm.slots ≤ R.slots) : vx_Run p l e R s m args below meth c H locs cells slots rm.cells rm.slots (F0 m pc ls st0) rest (Q H.size (Value.ref b :: As).toArray) (kXC G wc px H.size) (va_A wc H.size) := by
  subst hcn
  exact vx_runV F (hM H.size) cw ⟨kBlind, va_recv hK.1 (kP_sub hP isC hC) hc hq, k_pre hK hZ hP hD hS hA isC hC hnC⟩ rfl hn hsize hst (lv_room (rest := st0) hW) hdg hf
theorem k_xrunS {px : String → Prop} (F : CallFix p m c cc nL s args Ts own) (hM : kX l G y wsy rm As wc Q px) (cw : CallB R s args own index y bytes maxL ret wsy rm rm.cells rm.slots n ∧ (Cond.static y).before args s = true) (hK : kK G s) (hZ : kZ A s s.heap) (hP : va_P G.1 vwCl ws H) (hD : va_D A ws) (hS : va_S A s.heap H locs) (hA : ∀ q, s.heap.size ≤ q → A q) (isC : List Nat) (hC : isC.map (fun i => ws[i]?) = wc.map some) (hnC : va_nd isC = true) (hn : As.length = n) (hsize : ls.size = nL) (hst : st0 = As.reverse ++ rest) (hW : (rest.map fun v => v.category).sum ≤ 8) (hdg : decode cc pc = .ok (.invokestatic index, 3)) (hf : cells + rm.cells ≤ R.cells ∧ slots + rm.slots ≤ R.slots) : vx_Run p l e R s m args below meth c H locs cells slots rm.cells rm.slots (F0 m pc ls st0) rest (Q H.size As.toArray) (kXC G wc px H.size) (va_A wc H.size) :=
  vx_runS F (hM H.size) cw ⟨kBlind, k_pre hK hZ hP hD hS hA isC hC hnC⟩ rfl hn hsize hst (lv_room (rest := st0) hW) hdg hf
variable {a : Array Value} {mc ms : Nat} {Qs : State → Prop}
theorem k_join {S : Type} {wf wn : S → va_W} {u : S} {t : State} {H1 : Heap} (hP : va_P G.1 vwCl ws H) (hD : va_D A ws) (hS : va_S A s.heap H locs) (hA : ∀ q, s.heap.size ≤ q → A q) (isC isR isN : List Nat) (hC : isC.map (fun i => ws[i]?) = wc.map some) (hR : isR.map (fun i => ws[i]?) = wr.map some) (hnR : va_nd isR = true) (hdis : ∀ i ∈ isR, i ∉ isC) (hN : isN.map (fun i => (wr ++ wf u)[i]?) = (wn u).map some) (hnN : va_nd isN = true)
    (ht : t.heap = H1) (hB : kE G wc wf H.size u t) (hk : ∀ q : Nat, q < H.size → ¬ va_A wc H.size q → H1[q]? = H[q]?) : va_P G.1 vwCl (wn u) H1 ∧ va_D A (wn u) := by
  obtain ⟨hP1, hD1⟩ := hB
  rw [ht] at hP1
  obtain ⟨h1, h2⟩ := va_join (wr := wr) hP hD isC isR hC hR hnR hdis hk (va_free hD hS hA isC hC) hP1 hD1
  exact ⟨kP_sub h1 isN hN, h2.sub isN hnN hN⟩
theorem k_calli {S : Type} {post : Int32 → S → Prop} {wf : S → va_W} (wn : S → va_W) (wr : va_W) (hr : va_Run p l e R s m args below meth c H locs cells slots mc ms (F0 m pc ls st0) rest (kQi G wc post wf H.size a) (va_A wc H.size))
    (hP : va_P G.1 vwCl ws H) (hD : va_D A ws) (hS : va_S A s.heap H locs) (hA : ∀ q, s.heap.size ≤ q → A q) (isC isR isN : List Nat) (hC : isC.map (fun i => ws[i]?) = wc.map some) (hR : isR.map (fun i => ws[i]?) = wr.map some) (hnR : va_nd isR = true) (hdis : ∀ i ∈ isR, i ∉ isC) (hN : ∀ u, isN.map (fun i => (wr ++ wf u)[i]?) = (wn u).map some) (hnN : va_nd isN = true)
    (kk : ∀ (r : Int32) (u : S) (H1 : Heap) (locs1 : List Loc), post r u → va_P G.1 vwCl (wn u) H1 → va_D A (wn u) → va_S A s.heap H1 locs1 → W p l e R s m args below meth c H1 locs1 (cells + mc) (slots + ms) Qs (F0 m (pc + 3) ls (.int r :: rest))) : W p l e R s m args below meth c H locs cells slots Qs (F0 m pc ls st0) :=
  va_calli hr hS (fun q _ h => va_free hD hS hA isC hC q h) (va_free hD hS hA isC hC) (fun r u t H1 locs1 ht _ hp hB _ hk hS1 => by
    obtain ⟨h1, h2⟩ := k_join (wr := wr) (wn := wn) hP hD hS hA isC isR isN hC hR hnR hdis (hN u) hnN ht hB hk
    exact kk r u H1 locs1 hp h1 h2 hS1)
theorem k_calll {S : Type} {post : Int64 → S → Prop} {wf : S → va_W} (wn : S → va_W) (wr : va_W) (hr : va_Run p l e R s m args below meth c H locs cells slots mc ms (F0 m pc ls st0) rest (kQl G wc post wf H.size a) (va_A wc H.size))
    (hP : va_P G.1 vwCl ws H) (hD : va_D A ws) (hS : va_S A s.heap H locs) (hA : ∀ q, s.heap.size ≤ q → A q) (isC isR isN : List Nat) (hC : isC.map (fun i => ws[i]?) = wc.map some) (hR : isR.map (fun i => ws[i]?) = wr.map some) (hnR : va_nd isR = true) (hdis : ∀ i ∈ isR, i ∉ isC) (hN : ∀ u, isN.map (fun i => (wr ++ wf u)[i]?) = (wn u).map some) (hnN : va_nd isN = true)
    (kk : ∀ (r : Int64) (u : S) (H1 : Heap) (locs1 : List Loc), post r u → va_P G.1 vwCl (wn u) H1 → va_D A (wn u) → va_S A s.heap H1 locs1 → W p l e R s m args below meth c H1 locs1 (cells + mc) (slots + ms) Qs (F0 m (pc + 3) ls (.long r :: rest))) : W p l e R s m args below meth c H locs cells slots Qs (F0 m pc ls st0) :=
  va_calll hr hS (fun q _ h => va_free hD hS hA isC hC q h) (va_free hD hS hA isC hC) (fun r u t H1 locs1 ht _ hp hB _ hk hS1 => by
    obtain ⟨h1, h2⟩ := k_join (wr := wr) (wn := wn) hP hD hS hA isC isR isN hC hR hnR hdis (hN u) hnN ht hB hk
    exact kk r u H1 locs1 hp h1 h2 hS1)
theorem k_callv {S : Type} {post : S → Prop} {wf : S → va_W} (wn : S → va_W) (wr : va_W) (hr : va_Run p l e R s m args below meth c H locs cells slots mc ms (F0 m pc ls st0) rest (kQv G wc post wf H.size a) (va_A wc H.size))
    (hP : va_P G.1 vwCl ws H) (hD : va_D A ws) (hS : va_S A s.heap H locs) (hA : ∀ q, s.heap.size ≤ q → A q) (isC isR isN : List Nat) (hC : isC.map (fun i => ws[i]?) = wc.map some) (hR : isR.map (fun i => ws[i]?) = wr.map some) (hnR : va_nd isR = true) (hdis : ∀ i ∈ isR, i ∉ isC) (hN : ∀ u, isN.map (fun i => (wr ++ wf u)[i]?) = (wn u).map some) (hnN : va_nd isN = true)
    (kk : ∀ (u : S) (H1 : Heap) (locs1 : List Loc), post u → va_P G.1 vwCl (wn u) H1 → va_D A (wn u) → va_S A s.heap H1 locs1 → W p l e R s m args below meth c H1 locs1 (cells + mc) (slots + ms) Qs (F0 m (pc + 3) ls rest)) : W p l e R s m args below meth c H locs cells slots Qs (F0 m pc ls st0) :=
  va_callv hr hS (fun q _ h => va_free hD hS hA isC hC q h) (va_free hD hS hA isC hC) (fun u t H1 locs1 ht _ hp hB _ hk hS1 => by
    obtain ⟨h1, h2⟩ := k_join (wr := wr) (wn := wn) hP hD hS hA isC isR isN hC hR hnR hdis (hN u) hnN ht hB hk
    exact kk u H1 locs1 hp h1 h2 hS1)
theorem k_callr {S : Type} {post : S → Nat → Prop} {wf : S → va_W} (wn : S → va_W) (wr : va_W) (hr : va_Run p l e R s m args below meth c H locs cells slots mc ms (F0 m pc ls st0) rest (kQr G wc post wf H.size a) (va_A wc H.size))
    (hP : va_P G.1 vwCl ws H) (hD : va_D A ws) (hS : va_S A s.heap H locs) (hA : ∀ q, s.heap.size ≤ q → A q) (isC isR isN : List Nat) (hC : isC.map (fun i => ws[i]?) = wc.map some) (hR : isR.map (fun i => ws[i]?) = wr.map some) (hnR : va_nd isR = true) (hdis : ∀ i ∈ isR, i ∉ isC) (hN : ∀ u, isN.map (fun i => (wr ++ wf u)[i]?) = (wn u).map some) (hnN : va_nd isN = true)
    (kk : ∀ (r : Nat) (u : S) (H1 : Heap) (locs1 : List Loc), post u r → va_P G.1 vwCl (wn u) H1 → va_D A (wn u) → va_S A s.heap H1 locs1 → W p l e R s m args below meth c H1 locs1 (cells + mc) (slots + ms) Qs (F0 m (pc + 3) ls (.ref r :: rest))) : W p l e R s m args below meth c H locs cells slots Qs (F0 m pc ls st0) :=
  va_callr hr hS (fun q _ h => va_free hD hS hA isC hC q h) (va_free hD hS hA isC hC) (fun u r t H1 locs1 ht _ _ hB _ hk hS1 => by
    obtain ⟨h1, h2⟩ := k_join (wr := wr) (wn := wn) hP hD hS hA isC isR isN hC hR hnR hdis (hN u) hnN ht hB.2 hk
    exact kk r u H1 locs1 hB.1 h1 h2 hS1)
theorem k_xcalli {S : Type} {post : Int32 → S → Prop} {wf : S → va_W} {px : String → Prop} (wnx : va_W) (isX : List Nat) (wn : S → va_W) (wr : va_W) (hr : vx_Run p l e R s m args below meth c H locs cells slots mc ms (F0 m pc ls st0) rest (kQi G wc post wf H.size a) (kXC G wc px H.size) (va_A wc H.size))
    (hP : va_P G.1 vwCl ws H) (hD : va_D A ws) (hS : va_S A s.heap H locs) (hA : ∀ q, s.heap.size ≤ q → A q) (isC isR isN : List Nat) (hC : isC.map (fun i => ws[i]?) = wc.map some) (hR : isR.map (fun i => ws[i]?) = wr.map some) (hnR : va_nd isR = true) (hdis : ∀ i ∈ isR, i ∉ isC) (hN : ∀ u, isN.map (fun i => (wr ++ wf u)[i]?) = (wn u).map some) (hnN : va_nd isN = true) (hNX : isX.map (fun i => (wr ++ wc)[i]?) = wnx.map some) (hnX : va_nd isX = true)
    (kx : ∀ (E : String) (ce : Cell) (q9 : Addr) (H1 : Heap) (locs1 : List Loc), px E → va_P G.1 vwCl wnx H1 → va_D A wnx → va_S A s.heap H1 locs1 → H1[q9]? = some ce → ce.vm = .none → s.vm.findClass E = some ce.cls → vx_W p l e R s m args below meth c H1 locs1 (cells + mc) (slots + ms) Qs (F0 m pc ls rest) q9)
    (kk : ∀ (r : Int32) (u : S) (H1 : Heap) (locs1 : List Loc), post r u → va_P G.1 vwCl (wn u) H1 → va_D A (wn u) → va_S A s.heap H1 locs1 → W p l e R s m args below meth c H1 locs1 (cells + mc) (slots + ms) Qs (F0 m (pc + 3) ls (.int r :: rest))) : W p l e R s m args below meth c H locs cells slots Qs (F0 m pc ls st0) :=
  vx_calli hr hS (fun q _ h => va_free hD hS hA isC hC q h) (va_free hD hS hA isC hC) (fun q _ h => va_free hD hS hA isC hC q h) (fun E ce q9 _ t H1 locs1 ht _ _ hB _ hk hS1 h1 h2 h3 => by
    obtain ⟨g1, g2⟩ := k_join (S := Unit) (u := ()) (wr := wr) (wf := fun _ => wc) (wn := fun _ => wnx) hP hD hS hA isC isR isX hC hR hnR hdis hNX hnX ht hB.2 hk
    exact kx E ce q9 H1 locs1 hB.1 g1 g2 hS1 h1 h2 h3) (fun r u t H1 locs1 ht _ hp hB _ hk hS1 => by
    obtain ⟨h1, h2⟩ := k_join (wr := wr) (wn := wn) hP hD hS hA isC isR isN hC hR hnR hdis (hN u) hnN ht hB hk
    exact kk r u H1 locs1 hp h1 h2 hS1)
theorem k_xcalll {S : Type} {post : Int64 → S → Prop} {wf : S → va_W} {px : String → Prop} (wnx : va_W) (isX : List Nat) (wn : S → va_W) (wr : va_W) (hr : vx_Run p l e R s m args below meth c H locs cells slots mc ms (F0 m pc ls st0) rest (kQl G wc post wf H.size a) (kXC G wc px H.size) (va_A wc H.size))
    (hP : va_P G.1 vwCl ws H) (hD : va_D A ws) (hS : va_S A s.heap H locs) (hA : ∀ q, s.heap.size ≤ q → A q) (isC isR isN : List Nat) (hC : isC.map (fun i => ws[i]?) = wc.map some) (hR : isR.map (fun i => ws[i]?) = wr.map some) (hnR : va_nd isR = true) (hdis : ∀ i ∈ isR, i ∉ isC) (hN : ∀ u, isN.map (fun i => (wr ++ wf u)[i]?) = (wn u).map some) (hnN : va_nd isN = true) (hNX : isX.map (fun i => (wr ++ wc)[i]?) = wnx.map some) (hnX : va_nd isX = true)
    (kx : ∀ (E : String) (ce : Cell) (q9 : Addr) (H1 : Heap) (locs1 : List Loc), px E → va_P G.1 vwCl wnx H1 → va_D A wnx → va_S A s.heap H1 locs1 → H1[q9]? = some ce → ce.vm = .none → s.vm.findClass E = some ce.cls → vx_W p l e R s m args below meth c H1 locs1 (cells + mc) (slots + ms) Qs (F0 m pc ls rest) q9)
    (kk : ∀ (r : Int64) (u : S) (H1 : Heap) (locs1 : List Loc), post r u → va_P G.1 vwCl (wn u) H1 → va_D A (wn u) → va_S A s.heap H1 locs1 → W p l e R s m args below meth c H1 locs1 (cells + mc) (slots + ms) Qs (F0 m (pc + 3) ls (.long r :: rest))) : W p l e R s m args below meth c H locs cells slots Qs (F0 m pc ls st0) :=
  vx_calll hr hS (fun q _ h => va_free hD hS hA isC hC q h) (va_free hD hS hA isC hC) (fun q _ h => va_free hD hS hA isC hC q h) (fun E ce q9 _ t H1 locs1 ht _ _ hB _ hk hS1 h1 h2 h3 => by
    obtain ⟨g1, g2⟩ := k_join (S := Unit) (u := ()) (wr := wr) (wf := fun _ => wc) (wn := fun _ => wnx) hP hD hS hA isC isR isX hC hR hnR hdis hNX hnX ht hB.2 hk
    exact kx E ce q9 H1 locs1 hB.1 g1 g2 hS1 h1 h2 h3) (fun r u t H1 locs1 ht _ hp hB _ hk hS1 => by
    obtain ⟨h1, h2⟩ := k_join (wr := wr) (wn := wn) hP hD hS hA isC isR isN hC hR hnR hdis (hN u) hnN ht hB hk
    exact kk r u H1 locs1 hp h1 h2 hS1)
theorem k_xcallv {S : Type} {post : S → Prop} {wf : S → va_W} {px : String → Prop} (wnx : va_W) (isX : List Nat) (wn : S → va_W) (wr : va_W) (hr : vx_Run p l e R s m args below meth c H locs cells slots mc ms (F0 m pc ls st0) rest (kQv G wc post wf H.size a) (kXC G wc px H.size) (va_A wc H.size))
    (hP : va_P G.1 vwCl ws H) (hD : va_D A ws) (hS : va_S A s.heap H locs) (hA : ∀ q, s.heap.size ≤ q → A q) (isC isR isN : List Nat) (hC : isC.map (fun i => ws[i]?) = wc.map some) (hR : isR.map (fun i => ws[i]?) = wr.map some) (hnR : va_nd isR = true) (hdis : ∀ i ∈ isR, i ∉ isC) (hN : ∀ u, isN.map (fun i => (wr ++ wf u)[i]?) = (wn u).map some) (hnN : va_nd isN = true) (hNX : isX.map (fun i => (wr ++ wc)[i]?) = wnx.map some) (hnX : va_nd isX = true)
    (kx : ∀ (E : String) (ce : Cell) (q9 : Addr) (H1 : Heap) (locs1 : List Loc), px E → va_P G.1 vwCl wnx H1 → va_D A wnx → va_S A s.heap H1 locs1 → H1[q9]? = some ce → ce.vm = .none → s.vm.findClass E = some ce.cls → vx_W p l e R s m args below meth c H1 locs1 (cells + mc) (slots + ms) Qs (F0 m pc ls rest) q9)
    (kk : ∀ (u : S) (H1 : Heap) (locs1 : List Loc), post u → va_P G.1 vwCl (wn u) H1 → va_D A (wn u) → va_S A s.heap H1 locs1 → W p l e R s m args below meth c H1 locs1 (cells + mc) (slots + ms) Qs (F0 m (pc + 3) ls rest)) : W p l e R s m args below meth c H locs cells slots Qs (F0 m pc ls st0) :=
  vx_callv hr hS (fun q _ h => va_free hD hS hA isC hC q h) (va_free hD hS hA isC hC) (fun q _ h => va_free hD hS hA isC hC q h) (fun E ce q9 _ t H1 locs1 ht _ _ hB _ hk hS1 h1 h2 h3 => by
    obtain ⟨g1, g2⟩ := k_join (S := Unit) (u := ()) (wr := wr) (wf := fun _ => wc) (wn := fun _ => wnx) hP hD hS hA isC isR isX hC hR hnR hdis hNX hnX ht hB.2 hk
    exact kx E ce q9 H1 locs1 hB.1 g1 g2 hS1 h1 h2 h3) (fun u t H1 locs1 ht _ hp hB _ hk hS1 => by
    obtain ⟨h1, h2⟩ := k_join (wr := wr) (wn := wn) hP hD hS hA isC isR isN hC hR hnR hdis (hN u) hnN ht hB hk
    exact kk u H1 locs1 hp h1 h2 hS1)
end KR
section KE
variable {p : Program} {l : Launch} {e : Env} {R : Room} {s : State} {m : MethodId} {args : Array Value} {below : List Frame} {meth : Method} {c : Code} {H : Heap} {locs : List Loc} {cells slots mc ms pc : Nat} {cc : ByteArray} {ls : Array Slot} {G : kG} {ws w1 : va_W} {A : Nat → Prop}
theorem k_iret {S : Type} {post : Int32 → S → Prop} {wf : S → va_W} {v : Int32} {Qs : State → Prop} (u : S) (hx : p.tables.exec = Jvm.exec) (hb : c.code = cc) (hr : meth.sig.returnType = some .int) (hlocks : meth.locks = false) (hP : va_P G.1 vwCl w1 H) (hD : va_D A w1) (hS : va_S A s.heap H locs) (hAe : A = va_A ws s.heap.size) (hQ : Qs = MQ below (kQi G ws post wf s.heap.size) args s mc ms A) (hc : cells ≤ mc) (hs : slots ≤ ms) (hdg : decode cc pc = .ok (.ireturn, 1)) (hw : w1 = wf u) (hpost : post v u) :
    W p l e R s m args below meth c H locs cells slots Qs (F0 m pc ls [.int v]) := by
  refine W.widen hc hs ?_
  subst hw
  rw [hQ]
  exact W.iret (v := v) hx hb hr (fun t ht _ => ⟨⟨v, u, rfl, hpost, by rw [ht]; exact hP, by rw [← hAe]; exact hD⟩, by rw [← hAe]; exact hS.F ht⟩) hS.2.2 hdg hlocks
theorem k_zret {S : Type} {post : Int32 → S → Prop} {wf : S → va_W} {v : Int32} {Qs : State → Prop} (u : S) (hx : p.tables.exec = Jvm.exec) (hb : c.code = cc) (hr : meth.sig.returnType = some .boolean) (hn : narrow .boolean (.int v) = .int v) (hlocks : meth.locks = false) (hP : va_P G.1 vwCl w1 H) (hD : va_D A w1) (hS : va_S A s.heap H locs) (hAe : A = va_A ws s.heap.size) (hQ : Qs = MQ below (kQi G ws post wf s.heap.size) args s mc ms A) (hc : cells ≤ mc) (hs : slots ≤ ms) (hdg : decode cc pc = .ok (.ireturn, 1)) (hw : w1 = wf u) (hpost : post v u) :
    W p l e R s m args below meth c H locs cells slots Qs (F0 m pc ls [.int v]) := by
  refine W.widen hc hs ?_
  subst hw
  rw [hQ]
  exact W.zret (v := v) hx hb hr hn (fun t ht _ => ⟨⟨v, u, rfl, hpost, by rw [ht]; exact hP, by rw [← hAe]; exact hD⟩, by rw [← hAe]; exact hS.F ht⟩) hS.2.2 hdg hlocks
theorem k_lret {S : Type} {post : Int64 → S → Prop} {wf : S → va_W} {v : Int64} {Qs : State → Prop} (u : S) (hx : p.tables.exec = Jvm.exec) (hb : c.code = cc) (hr : meth.sig.returnType = some .long) (hlocks : meth.locks = false) (hP : va_P G.1 vwCl w1 H) (hD : va_D A w1) (hS : va_S A s.heap H locs) (hAe : A = va_A ws s.heap.size) (hQ : Qs = MQ below (kQl G ws post wf s.heap.size) args s mc ms A) (hc : cells ≤ mc) (hs : slots ≤ ms) (hdg : decode cc pc = .ok (.lreturn, 1)) (hw : w1 = wf u) (hpost : post v u) :
    W p l e R s m args below meth c H locs cells slots Qs (F0 m pc ls [.long v]) := by
  refine W.widen hc hs ?_
  subst hw
  rw [hQ]
  exact W.lret (v := v) hx hb hr (fun t ht _ => ⟨⟨v, u, rfl, hpost, by rw [ht]; exact hP, by rw [← hAe]; exact hD⟩, by rw [← hAe]; exact hS.F ht⟩) hS.2.2 hdg hlocks
theorem k_vret {S : Type} {post : S → Prop} {wf : S → va_W} {Qs : State → Prop} (u : S) (hx : p.tables.exec = Jvm.exec) (hb : c.code = cc) (hr : meth.sig.returnType = none) (hlocks : meth.locks = false) (hP : va_P G.1 vwCl w1 H) (hD : va_D A w1) (hS : va_S A s.heap H locs) (hAe : A = va_A ws s.heap.size) (hQ : Qs = MQ below (kQv G ws post wf s.heap.size) args s mc ms A) (hc : cells ≤ mc) (hs : slots ≤ ms) (hdg : decode cc pc = .ok (.return_, 1)) (hw : w1 = wf u) (hpost : post u) :
    W p l e R s m args below meth c H locs cells slots Qs (F0 m pc ls []) := by
  refine W.widen hc hs ?_
  subst hw
  rw [hQ]
  exact W.vret hx hb hr (fun t ht _ => ⟨⟨u, rfl, hpost, by rw [ht]; exact hP, by rw [← hAe]; exact hD⟩, by rw [← hAe]; exact hS.F ht⟩) hS.2.2 hdg hlocks
theorem k_aret {S : Type} {post : S → Nat → Prop} {wf : S → va_W} {v : Nat} {rt : FieldType} {Qs : State → Prop} (u : S) (hx : p.tables.exec = Jvm.exec) (hb : c.code = cc) (hr : meth.sig.returnType = some rt) (hrt : (∃ n, rt = .object n) ∨ ∃ t, rt = .array t) (hlocks : meth.locks = false) (hP : va_P G.1 vwCl w1 H) (hD : va_D A w1) (hS : va_S A s.heap H locs) (hAe : A = va_A ws s.heap.size) (hQ : Qs = MQ below (kQr G ws post wf s.heap.size) args s mc ms A) (hc : cells ≤ mc) (hs : slots ≤ ms) (hdg : decode cc pc = .ok (.areturn, 1)) (hw : w1 = wf u) (hpost : post u v) :
    W p l e R s m args below meth c H locs cells slots Qs (F0 m pc ls [.ref v]) := by
  refine W.widen hc hs ?_
  subst hw
  rw [hQ]
  exact W.aret (v := .ref v) hx hb hr hrt (Or.inr ⟨v, rfl⟩) (fun t ht _ => ⟨⟨u, v, rfl, trivial, hpost, by rw [ht]; exact hP, by rw [← hAe]; exact hD⟩, by rw [← hAe]; exact hS.F ht⟩) hS.2.2 hdg hlocks
/-- not caught here: it goes on to the caller -/
theorem k_xout {Qc : Array Value → State → Outcome → State → Prop} {px : String → Prop} {rest : List Value} {E : String} {ce : Cell} {q : Addr} (ht : ∀ x ∈ c.exceptionTable.toList, False) (hlocks : meth.locks = false) (hP : va_P G.1 vwCl ws H) (hD : va_D A ws) (hS : va_S A s.heap H locs) (hAe : A = va_A ws s.heap.size) (hc : cells ≤ mc) (hs : slots ≤ ms) (hpx : px E) (h1 : H[q]? = some ce) (h2 : ce.vm = .none) (h3 : s.vm.findClass E = some ce.cls) :
    vx_W p l e R s m args below meth c H locs cells slots (vx_MQ below Qc (kXC G ws px s.heap.size) args s mc ms A) (F0 m pc ls rest) q :=
  vx_out (E := E) (fun x hx => (ht x hx).elim) hlocks h1 h2 h3 (fun t h4 _ => ⟨(), trivial, ⟨hpx, by rw [h4]; exact hP, by rw [← hAe]; exact hD⟩, by rw [← hAe]; exact hS.F h4⟩) hS.2.2 hc hs
theorem k_throwS {Qc : Array Value → State → Outcome → State → Prop} {px : String → Prop} {rest : List Value} (hx : p.tables.exec = Jvm.exec) (hb : c.code = cc) (hl9 : l.stackTraces = false) {own cls text : String} {names : List String} {ik is ic sa : Nat}
    (hown : s.vm.findClass own = some m.cls) (hcls : Bundle.fit cls = true) (hnames : ∀ n ∈ names, Bundle.fit n = true)
    (hk : (Cond.classLink own ik cls).before args s = true) (hini : (Cond.initialized cls).before args s = true) (hstr : vk_R own is text sa s) (hat : ∀ w ∈ vx_atS own ic cls names, w.before args s = true)
    (hgood : ∀ w ∈ Cond.classLink own ik cls :: Cond.initialized cls :: vx_atS own ic cls names, vx_ot w = true)
    (hZ : kZ A s s.heap) (hP : va_P G.1 vwCl ws H) (hD : va_D A ws) (hS : va_S A s.heap H locs) (hAe : A = va_A ws s.heap.size) (hsize : ls.size = c.maxLocals)
    (d0 : decode cc pc = .ok (.new ik, 3)) (d3 : decode cc (pc + 3) = .ok (.dup, 1)) (d4 : decode cc (pc + 4) = .ok (.ldc is, 2)) (d6 : decode cc (pc + 6) = .ok (.invokespecial ic, 3)) (d9 : decode cc (pc + 9) = .ok (.athrow, 1))
    (ht : ∀ x ∈ c.exceptionTable.toList, False)
    (hRframes : names.length + 3 < R.frames) (hRlocals : (rest.map fun v => v.category).sum + (13 * (names.length + 1) + 43) ≤ R.locals) (hRc : cells + 1 ≤ R.cells ∧ slots + 6 ≤ R.slots) (hcs : cells + 1 ≤ mc ∧ slots + 6 ≤ ms) (hlocks : meth.locks = false) (hpx : px cls) :
    W p l e R s m args below meth c H locs cells slots (vx_MQ below Qc (kXC G ws px s.heap.size) args s mc ms A) (F0 m pc ls rest) :=
  vx_throwS (A := A) hx hb hl9 hown hcls hnames hk hini hstr hat hgood hZ.1 hZ.2 hS hsize d0 d3 d4 d6 d9 (fun x hx => (ht x hx).elim) hRframes hRlocals hRc.1 hRc.2 hlocks
    (fun t _ hz hk => ⟨(), trivial, ⟨hpx, hP.kept (fun k q hq => hk _ (hP k q hq).lt), by rw [← hAe]; exact hD⟩, by rw [← hAe]; exact ⟨Nat.le_trans hS.1 hz, fun q h1 h2 => (hk q (Nat.lt_of_lt_of_le h1 hS.1)).trans (hS.2.1 q h1 h2)⟩⟩) hS.2.2 hcs.1 hcs.2
end KE
theorem k_ofW {l : Launch} {G : kG} {y : MethodName} {wsy ws' : List Cond} {rm : Room} {av : List Value} {ws : va_W} {Q : kQ} {cc : ByteArray} {maxL : Nat} {rt : Option FieldType} (hy : plainName y.cls = true) (hw : wsy = Cond.code y cc maxL rt :: ws') (hlen : (lg_sl av).length ≤ maxL)
    (body : ∀ (p : Program) (e : Env) (s : State) (m : MethodId) (args : Array Value) (below : List Frame) (meth : Method) (c : Code) (A : Nat → Prop) (ls : Array Slot) (Qs : State → Prop) (H : Heap) (locs : List Loc), Qs = MQ below (Q s.heap.size) args s rm.cells rm.slots A → A = va_A ws s.heap.size → p.tables.exec = Jvm.exec → c.code = cc → meth.sig.returnType = rt → c.maxLocals = maxL → (∀ w ∈ wsy, w.before args s = true) → s.vm.findClass y.cls = some m.cls → meth.locks = false → meth.name = y.name → kK G s → kZ A s s.heap → va_P G.1 vwCl ws H → va_D A ws → va_S A s.heap H locs → (∀ q, s.heap.size ≤ q → A q) → lv_has ls maxL (lv_args 0 av) →
      W p l e rm s m args below meth c H locs 0 0 Qs (F0 m 0 ls [])) : kM l G y wsy rm av ws Q := by
  intro sz
  refine Met.ofW (cc := cc) (maxL := maxL) (ret := rt) hy hw ?_
  intro p e s m args below meth c s₁ B hml hv
  obtain ⟨rfl, hsz, hP, hK, hD0, hZ⟩ := hv
  subst hsz
  have hl := lv_entry av (n := maxL) hlen
  rw [lg_entry_eq]
  generalize (lg_sl av ++ List.replicate (maxL - (lg_sl av).length) Slot.unset).toArray = ls at hl ⊢
  exact body p e s m _ below meth c _ ls _ _ _ rfl rfl B.exec B.bytes B.returns hml (atoms_spec (ws := wsy) B.pre) (findClass_of_methodNamed B.named) B.notSynchronized (name_of_methodNamed B.named B.method).1 hK hZ hP hD0.self va_S.rf (fun q h => Or.inr h) hl
theorem k_ofX {l : Launch} {G : kG} {y : MethodName} {wsy ws' : List Cond} {rm : Room} {av : List Value} {ws : va_W} {Q : kQ} {px : String → Prop} {cc : ByteArray} {maxL : Nat} {rt : Option FieldType} (hy : plainName y.cls = true) (hw : wsy = Cond.code y cc maxL rt :: ws') (hlen : (lg_sl av).length ≤ maxL)
    (body : ∀ (p : Program) (e : Env) (s : State) (m : MethodId) (args : Array Value) (below : List Frame) (meth : Method) (c : Code) (A : Nat → Prop) (ls : Array Slot) (Qs : State → Prop) (H : Heap) (locs : List Loc), Qs = vx_MQ below (Q s.heap.size) (kXC G ws px s.heap.size) args s rm.cells rm.slots A → A = va_A ws s.heap.size → p.tables.exec = Jvm.exec → c.code = cc → meth.sig.returnType = rt → c.maxLocals = maxL → (∀ w ∈ wsy, w.before args s = true) → s.vm.findClass y.cls = some m.cls → meth.locks = false → (∀ x ∈ c.exceptionTable.toList, False) → kK G s → kZ A s s.heap → va_P G.1 vwCl ws H → va_D A ws → va_S A s.heap H locs → (∀ q, s.heap.size ≤ q → A q) → lv_has ls maxL (lv_args 0 av) →
      W p l e rm s m args below meth c H locs 0 0 Qs (F0 m 0 ls [])) : kX l G y wsy rm av ws Q px := by
  intro sz
  refine vx_ofW (cc := cc) (maxL := maxL) (ret := rt) hy hw ?_
  intro p e s m args below meth c s₁ B hml hxt hv
  obtain ⟨rfl, hsz, hP, hK, hD0, hZ⟩ := hv
  subst hsz
  have hl := lv_entry av (n := maxL) hlen
  rw [lg_entry_eq]
  generalize (lg_sl av ++ List.replicate (maxL - (lg_sl av).length) Slot.unset).toArray = ls at hl ⊢
  exact body p e s m _ below meth c _ ls _ _ _ rfl rfl B.exec B.bytes B.returns hml (atoms_spec (ws := wsy) B.pre) (findClass_of_methodNamed B.named) B.notSynchronized hxt hK hZ hP hD0.self va_S.rf (fun q h => Or.inr h) hl
