/-! a world of fixed cells and a tail of any length: calls, moves, the rows of the Sim -/
section KP
variable {p : Program} {l : Launch} {e : Env} {R : Room} {s : State} {m : MethodId} {args : Array Value} {below : List Frame} {meth : Method} {c : Code} {H H0 : Heap} {locs : List Loc} {cells slots : Nat}
variable {y : MethodName} {bytes cc : ByteArray} {maxL nL n index pc : Nat} {ret : Option FieldType} {wsy : List Cond} {rm : Room} {Q : kQ} {Ts : List Cond} {own C : String} {b : Addr} {As rest st0 : List Value} {ls : Array Slot} {G : kG} {X cx wr pl ws : va_W} {A : Nat → Prop}
theorem k_preP {y : List Value} (hK : kK G s) (hZ : kZ A s s.heap) (hP : va_P G.1 vwCl (X ++ pl) H) (hD : va_D A (X ++ pl)) (hS : va_S A s.heap H locs) (hA : ∀ q, s.heap.size ≤ q → A q) (isC : List Nat) (hC : isC.map (fun i => X[i]?) = cx.map some) (hnC : va_nd isC = true) : ∀ U : State, U.heap = H → s.WarmedH U.vm → kSt G y (cx ++ pl) H.size y.toArray U := by
  intro U hU hW
  exact ⟨rfl, by rw [hU], by rw [hU]; exact hP.part isC hC, ⟨va_K.moved hW.alike hK.1, kN_warm hW hK.2⟩, (hD.part isC hnC hC).weaken (fun _ _ _ _ => trivial), kZ_to hZ hS hW.alike hU (fun q hq => va_freeP hD hS hA isC hC q hq)⟩
theorem k_runVP (F : CallFix p m c cc nL s args Ts own) (hM : kM l G y wsy rm (.ref b :: As) (cx ++ pl) Q) (cw : CallW R s args own C index y bytes maxL ret wsy rm rm.cells rm.slots n) (hK : kK G s) (hZ : kZ A s s.heap) (hP : va_P G.1 vwCl (X ++ pl) H) (hD : va_D A (X ++ pl)) (hS : va_S A s.heap H locs) (hA : ∀ q, s.heap.size ≤ q → A q) (isC : List Nat) (hC : isC.map (fun i => X[i]?) = cx.map some) (hnC : va_nd isC = true) (q0 ci : Nat) {fs : List Value} {qc : vw_C} (hq : (cx ++ pl)[q0]? = some (b, .inr (ci, fs))) (hc : vwCl[ci]? = some qc) (hcn : qc.1 = C) (hn : As.length = n) (hsize : ls.size = nL) (hst : st0 = As.reverse ++ .ref b :: rest) (hW : (rest.map fun v => v.category).sum ≤ 8) (hdg : decode cc pc = .ok (.invokevirtual index, 3)) (hf : cells + rm.cells ≤ R.cells ∧ slots + rm.slots ≤ R.slots) : va_Run p l e R s m args below meth c H locs cells slots rm.cells rm.slots (F0 m pc ls st0) rest (Q H.size (Value.ref b :: As).toArray) (va_A (cx ++ pl) H.size) := by
  subst hcn
  exact va_runV F (hM H.size) cw ⟨kBlind, va_recv hK.1 (hP.part isC hC) hc hq, k_preP hK hZ hP hD hS hA isC hC hnC⟩ rfl hn hsize hst (lv_room (rest := st0) hW) hdg hf
theorem k_runSP (F : CallFix p m c cc nL s args Ts own) (hM : kM l G y wsy rm As (cx ++ pl) Q) (cw : CallB R s args own index y bytes maxL ret wsy rm rm.cells rm.slots n ∧ (Cond.static y).before args s = true) (hK : kK G s) (hZ : kZ A s s.heap) (hP : va_P G.1 vwCl (X ++ pl) H) (hD : va_D A (X ++ pl)) (hS : va_S A s.heap H locs) (hA : ∀ q, s.heap.size ≤ q → A q) (isC : List Nat) (hC : isC.map (fun i => X[i]?) = cx.map some) (hnC : va_nd isC = true) (hn : As.length = n) (hsize : ls.size = nL) (hst : st0 = As.reverse ++ rest) (hW : (rest.map fun v => v.category).sum ≤ 8) (hdg : decode cc pc = .ok (.invokestatic index, 3)) (hf : cells + rm.cells ≤ R.cells ∧ slots + rm.slots ≤ R.slots) : va_Run p l e R s m args below meth c H locs cells slots rm.cells rm.slots (F0 m pc ls st0) rest (Q H.size As.toArray) (va_A (cx ++ pl) H.size) :=
  va_runS F (hM H.size) cw ⟨kBlind, k_preP hK hZ hP hD hS hA isC hC hnC⟩ rfl hn hsize hst (lv_room (rest := st0) hW) hdg hf
variable {a : Array Value} {mc ms : Nat} {Qs : State → Prop}
theorem k_joinP {S : Type} {wfx wfp wnx : S → va_W} {u : S} {t : State} {H1 : Heap} (hP : va_P G.1 vwCl (X ++ pl) H) (hD : va_D A (X ++ pl)) (hS : va_S A s.heap H locs) (hA : ∀ q, s.heap.size ≤ q → A q) (isC isR isN : List Nat) (hC : isC.map (fun i => X[i]?) = cx.map some) (hR : isR.map (fun i => X[i]?) = wr.map some) (hnR : va_nd isR = true) (hdis : ∀ i ∈ isR, i ∉ isC) (hN : isN.map (fun i => (wr ++ wfx u)[i]?) = (wnx u).map some) (hnN : va_nd isN = true)
    (ht : t.heap = H1) (hB : kE G (cx ++ pl) (fun u => wfx u ++ wfp u) H.size u t) (hk : ∀ q : Nat, q < H.size → ¬ va_A (cx ++ pl) H.size q → H1[q]? = H[q]?) : va_P G.1 vwCl (wnx u ++ wfp u) H1 ∧ va_D A (wnx u ++ wfp u) := by
  obtain ⟨hP1, hD1⟩ := hB
  rw [ht] at hP1
  obtain ⟨h1, h2⟩ := va_joinP (wr := wr) hP hD isC isR hC hR hnR hdis hk (va_freeP hD hS hA isC hC) hP1 hD1
  exact ⟨h1.part isN hN, h2.part isN hnN hN⟩
theorem k_joinQ {S : Type} {wfx wnx : S → va_W} {u : S} {t : State} {H1 : Heap} (hP : va_P G.1 vwCl (X ++ pl) H) (hD : va_D A (X ++ pl)) (hS : va_S A s.heap H locs) (hA : ∀ q, s.heap.size ≤ q → A q) (isC isR isN : List Nat) (hC : isC.map (fun i => X[i]?) = cx.map some) (hC2 : isC.map (fun i => (X ++ pl)[i]?) = cx.map some) (hR : isR.map (fun i => X[i]?) = wr.map some) (hnR : va_nd isR = true) (hdis : ∀ i ∈ isR, i ∉ isC) (hN : isN.map (fun i => (wr ++ wfx u)[i]?) = (wnx u).map some) (hnN : va_nd isN = true)
    (ht : t.heap = H1) (hB : kE G cx wfx H.size u t) (hk : ∀ q : Nat, q < H.size → ¬ va_A cx H.size q → H1[q]? = H[q]?) : va_P G.1 vwCl (wnx u ++ pl) H1 ∧ va_D A (wnx u ++ pl) := by
  obtain ⟨hP1, hD1⟩ := hB
  rw [ht] at hP1
  obtain ⟨h1, h2⟩ := va_joinQ (wr := wr) hP hD isC isR hC hR hnR hdis hk (va_free hD hS hA isC hC2) hP1 hD1
  exact ⟨h1.part isN hN, h2.part isN hnN hN⟩
theorem k_callPi {S : Type} {post : Int32 → S → Prop} (wfx wfp : S → va_W) (wnx : S → va_W) (wr : va_W) (hr : va_Run p l e R s m args below meth c H locs cells slots mc ms (F0 m pc ls st0) rest (kQi G (cx ++ pl) post (fun u => wfx u ++ wfp u) H.size a) (va_A (cx ++ pl) H.size))
    (hP : va_P G.1 vwCl (X ++ pl) H) (hD : va_D A (X ++ pl)) (hS : va_S A s.heap H locs) (hA : ∀ q, s.heap.size ≤ q → A q) (isC isR isN : List Nat) (hC : isC.map (fun i => X[i]?) = cx.map some) (hR : isR.map (fun i => X[i]?) = wr.map some) (hnR : va_nd isR = true) (hdis : ∀ i ∈ isR, i ∉ isC) (hN : ∀ u, isN.map (fun i => (wr ++ wfx u)[i]?) = (wnx u).map some) (hnN : va_nd isN = true)
    (kk : ∀ (r : Int32) (u : S) (H1 : Heap) (locs1 : List Loc), post r u → va_P G.1 vwCl (wnx u ++ wfp u) H1 → va_D A (wnx u ++ wfp u) → va_S A s.heap H1 locs1 → W p l e R s m args below meth c H1 locs1 (cells + mc) (slots + ms) Qs (F0 m (pc + 3) ls (.int r :: rest))) : W p l e R s m args below meth c H locs cells slots Qs (F0 m pc ls st0) :=
  va_calli hr hS (fun q _ h => va_freeP hD hS hA isC hC q h) (va_freeP hD hS hA isC hC) (fun r u t H1 locs1 ht _ hp hB _ hk hS1 => by
    obtain ⟨h1, h2⟩ := k_joinP (wfx := wfx) (wfp := wfp) (wr := wr) (wnx := wnx) hP hD hS hA isC isR isN hC hR hnR hdis (hN u) hnN ht hB hk
    exact kk r u H1 locs1 hp h1 h2 hS1)
theorem k_callQi {S : Type} {post : Int32 → S → Prop} (wfx : S → va_W) (wnx : S → va_W) (wr : va_W) (hr : va_Run p l e R s m args below meth c H locs cells slots mc ms (F0 m pc ls st0) rest (kQi G cx post wfx H.size a) (va_A cx H.size))
    (hP : va_P G.1 vwCl (X ++ pl) H) (hD : va_D A (X ++ pl)) (hS : va_S A s.heap H locs) (hA : ∀ q, s.heap.size ≤ q → A q) (isC isR isN : List Nat) (hC : isC.map (fun i => X[i]?) = cx.map some) (hC2 : isC.map (fun i => (X ++ pl)[i]?) = cx.map some) (hR : isR.map (fun i => X[i]?) = wr.map some) (hnR : va_nd isR = true) (hdis : ∀ i ∈ isR, i ∉ isC) (hN : ∀ u, isN.map (fun i => (wr ++ wfx u)[i]?) = (wnx u).map some) (hnN : va_nd isN = true)
    (kk : ∀ (r : Int32) (u : S) (H1 : Heap) (locs1 : List Loc), post r u → va_P G.1 vwCl (wnx u ++ pl) H1 → va_D A (wnx u ++ pl) → va_S A s.heap H1 locs1 → W p l e R s m args below meth c H1 locs1 (cells + mc) (slots + ms) Qs (F0 m (pc + 3) ls (.int r :: rest))) : W p l e R s m args below meth c H locs cells slots Qs (F0 m pc ls st0) :=
  va_calli hr hS (fun q _ h => va_free hD hS hA isC hC2 q h) (va_free hD hS hA isC hC2) (fun r u t H1 locs1 ht _ hp hB _ hk hS1 => by
    obtain ⟨h1, h2⟩ := k_joinQ (wfx := wfx) (wr := wr) (wnx := wnx) hP hD hS hA isC isR isN hC hC2 hR hnR hdis (hN u) hnN ht hB hk
    exact kk r u H1 locs1 hp h1 h2 hS1)
theorem k_callPv {S : Type} {post : S → Prop} (wfx wfp : S → va_W) (wnx : S → va_W) (wr : va_W) (hr : va_Run p l e R s m args below meth c H locs cells slots mc ms (F0 m pc ls st0) rest (kQv G (cx ++ pl) post (fun u => wfx u ++ wfp u) H.size a) (va_A (cx ++ pl) H.size))
    (hP : va_P G.1 vwCl (X ++ pl) H) (hD : va_D A (X ++ pl)) (hS : va_S A s.heap H locs) (hA : ∀ q, s.heap.size ≤ q → A q) (isC isR isN : List Nat) (hC : isC.map (fun i => X[i]?) = cx.map some) (hR : isR.map (fun i => X[i]?) = wr.map some) (hnR : va_nd isR = true) (hdis : ∀ i ∈ isR, i ∉ isC) (hN : ∀ u, isN.map (fun i => (wr ++ wfx u)[i]?) = (wnx u).map some) (hnN : va_nd isN = true)
    (kk : ∀ (u : S) (H1 : Heap) (locs1 : List Loc), post u → va_P G.1 vwCl (wnx u ++ wfp u) H1 → va_D A (wnx u ++ wfp u) → va_S A s.heap H1 locs1 → W p l e R s m args below meth c H1 locs1 (cells + mc) (slots + ms) Qs (F0 m (pc + 3) ls rest)) : W p l e R s m args below meth c H locs cells slots Qs (F0 m pc ls st0) :=
  va_callv hr hS (fun q _ h => va_freeP hD hS hA isC hC q h) (va_freeP hD hS hA isC hC) (fun u t H1 locs1 ht _ hp hB _ hk hS1 => by
    obtain ⟨h1, h2⟩ := k_joinP (wfx := wfx) (wfp := wfp) (wr := wr) (wnx := wnx) hP hD hS hA isC isR isN hC hR hnR hdis (hN u) hnN ht hB hk
    exact kk u H1 locs1 hp h1 h2 hS1)
theorem k_callQv {S : Type} {post : S → Prop} (wfx : S → va_W) (wnx : S → va_W) (wr : va_W) (hr : va_Run p l e R s m args below meth c H locs cells slots mc ms (F0 m pc ls st0) rest (kQv G cx post wfx H.size a) (va_A cx H.size))
    (hP : va_P G.1 vwCl (X ++ pl) H) (hD : va_D A (X ++ pl)) (hS : va_S A s.heap H locs) (hA : ∀ q, s.heap.size ≤ q → A q) (isC isR isN : List Nat) (hC : isC.map (fun i => X[i]?) = cx.map some) (hC2 : isC.map (fun i => (X ++ pl)[i]?) = cx.map some) (hR : isR.map (fun i => X[i]?) = wr.map some) (hnR : va_nd isR = true) (hdis : ∀ i ∈ isR, i ∉ isC) (hN : ∀ u, isN.map (fun i => (wr ++ wfx u)[i]?) = (wnx u).map some) (hnN : va_nd isN = true)
    (kk : ∀ (u : S) (H1 : Heap) (locs1 : List Loc), post u → va_P G.1 vwCl (wnx u ++ pl) H1 → va_D A (wnx u ++ pl) → va_S A s.heap H1 locs1 → W p l e R s m args below meth c H1 locs1 (cells + mc) (slots + ms) Qs (F0 m (pc + 3) ls rest)) : W p l e R s m args below meth c H locs cells slots Qs (F0 m pc ls st0) :=
  va_callv hr hS (fun q _ h => va_free hD hS hA isC hC2 q h) (va_free hD hS hA isC hC2) (fun u t H1 locs1 ht _ hp hB _ hk hS1 => by
    obtain ⟨h1, h2⟩ := k_joinQ (wfx := wfx) (wr := wr) (wnx := wnx) hP hD hS hA isC isR isN hC hC2 hR hnR hdis (hN u) hnN ht hB hk
    exact kk u H1 locs1 hp h1 h2 hS1)
theorem k_callPr {S : Type} {post : S → Nat → Prop} (wfx wfp : S → va_W) (wnx : S → va_W) (wr : va_W) (hr : va_Run p l e R s m args below meth c H locs cells slots mc ms (F0 m pc ls st0) rest (kQr G (cx ++ pl) post (fun u => wfx u ++ wfp u) H.size a) (va_A (cx ++ pl) H.size))
    (hP : va_P G.1 vwCl (X ++ pl) H) (hD : va_D A (X ++ pl)) (hS : va_S A s.heap H locs) (hA : ∀ q, s.heap.size ≤ q → A q) (isC isR isN : List Nat) (hC : isC.map (fun i => X[i]?) = cx.map some) (hR : isR.map (fun i => X[i]?) = wr.map some) (hnR : va_nd isR = true) (hdis : ∀ i ∈ isR, i ∉ isC) (hN : ∀ u, isN.map (fun i => (wr ++ wfx u)[i]?) = (wnx u).map some) (hnN : va_nd isN = true)
    (kk : ∀ (r : Nat) (u : S) (H1 : Heap) (locs1 : List Loc), post u r → va_P G.1 vwCl (wnx u ++ wfp u) H1 → va_D A (wnx u ++ wfp u) → va_S A s.heap H1 locs1 → W p l e R s m args below meth c H1 locs1 (cells + mc) (slots + ms) Qs (F0 m (pc + 3) ls (.ref r :: rest))) : W p l e R s m args below meth c H locs cells slots Qs (F0 m pc ls st0) :=
  va_callr hr hS (fun q _ h => va_freeP hD hS hA isC hC q h) (va_freeP hD hS hA isC hC) (fun u r t H1 locs1 ht _ _ hB _ hk hS1 => by
    obtain ⟨h1, h2⟩ := k_joinP (wfx := wfx) (wfp := wfp) (wr := wr) (wnx := wnx) hP hD hS hA isC isR isN hC hR hnR hdis (hN u) hnN ht hB.2 hk
    exact kk r u H1 locs1 hB.1 h1 h2 hS1)
theorem k_callQr {S : Type} {post : S → Nat → Prop} (wfx : S → va_W) (wnx : S → va_W) (wr : va_W) (hr : va_Run p l e R s m args below meth c H locs cells slots mc ms (F0 m pc ls st0) rest (kQr G cx post wfx H.size a) (va_A cx H.size))
    (hP : va_P G.1 vwCl (X ++ pl) H) (hD : va_D A (X ++ pl)) (hS : va_S A s.heap H locs) (hA : ∀ q, s.heap.size ≤ q → A q) (isC isR isN : List Nat) (hC : isC.map (fun i => X[i]?) = cx.map some) (hC2 : isC.map (fun i => (X ++ pl)[i]?) = cx.map some) (hR : isR.map (fun i => X[i]?) = wr.map some) (hnR : va_nd isR = true) (hdis : ∀ i ∈ isR, i ∉ isC) (hN : ∀ u, isN.map (fun i => (wr ++ wfx u)[i]?) = (wnx u).map some) (hnN : va_nd isN = true)
    (kk : ∀ (r : Nat) (u : S) (H1 : Heap) (locs1 : List Loc), post u r → va_P G.1 vwCl (wnx u ++ pl) H1 → va_D A (wnx u ++ pl) → va_S A s.heap H1 locs1 → W p l e R s m args below meth c H1 locs1 (cells + mc) (slots + ms) Qs (F0 m (pc + 3) ls (.ref r :: rest))) : W p l e R s m args below meth c H locs cells slots Qs (F0 m pc ls st0) :=
  va_callr hr hS (fun q _ h => va_free hD hS hA isC hC2 q h) (va_free hD hS hA isC hC2) (fun u r t H1 locs1 ht _ _ hB _ hk hS1 => by
    obtain ⟨h1, h2⟩ := k_joinQ (wfx := wfx) (wr := wr) (wnx := wnx) hP hD hS hA isC isR isN hC hC2 hR hnR hdis (hN u) hnN ht hB.2 hk
    exact kk r u H1 locs1 hB.1 h1 h2 hS1)
theorem k_callPd {S : Type} {post : UInt64 → S → Prop} (wfx wfp : S → va_W) (wnx : S → va_W) (wr : va_W) (hr : va_Run p l e R s m args below meth c H locs cells slots mc ms (F0 m pc ls st0) rest (kQd G (cx ++ pl) post (fun u => wfx u ++ wfp u) H.size a) (va_A (cx ++ pl) H.size))
    (hP : va_P G.1 vwCl (X ++ pl) H) (hD : va_D A (X ++ pl)) (hS : va_S A s.heap H locs) (hA : ∀ q, s.heap.size ≤ q → A q) (isC isR isN : List Nat) (hC : isC.map (fun i => X[i]?) = cx.map some) (hR : isR.map (fun i => X[i]?) = wr.map some) (hnR : va_nd isR = true) (hdis : ∀ i ∈ isR, i ∉ isC) (hN : ∀ u, isN.map (fun i => (wr ++ wfx u)[i]?) = (wnx u).map some) (hnN : va_nd isN = true)
    (kk : ∀ (r : UInt64) (u : S) (H1 : Heap) (locs1 : List Loc), post r u → va_P G.1 vwCl (wnx u ++ wfp u) H1 → va_D A (wnx u ++ wfp u) → va_S A s.heap H1 locs1 → W p l e R s m args below meth c H1 locs1 (cells + mc) (slots + ms) Qs (F0 m (pc + 3) ls (.double r :: rest))) : W p l e R s m args below meth c H locs cells slots Qs (F0 m pc ls st0) :=
  va_calld hr hS (fun q _ h => va_freeP hD hS hA isC hC q h) (va_freeP hD hS hA isC hC) (fun r u t H1 locs1 ht _ hp hB _ hk hS1 => by
    obtain ⟨h1, h2⟩ := k_joinP (wfx := wfx) (wfp := wfp) (wr := wr) (wnx := wnx) hP hD hS hA isC isR isN hC hR hnR hdis (hN u) hnN ht hB hk
    exact kk r u H1 locs1 hp h1 h2 hS1)
theorem k_callQd {S : Type} {post : UInt64 → S → Prop} (wfx : S → va_W) (wnx : S → va_W) (wr : va_W) (hr : va_Run p l e R s m args below meth c H locs cells slots mc ms (F0 m pc ls st0) rest (kQd G cx post wfx H.size a) (va_A cx H.size))
    (hP : va_P G.1 vwCl (X ++ pl) H) (hD : va_D A (X ++ pl)) (hS : va_S A s.heap H locs) (hA : ∀ q, s.heap.size ≤ q → A q) (isC isR isN : List Nat) (hC : isC.map (fun i => X[i]?) = cx.map some) (hC2 : isC.map (fun i => (X ++ pl)[i]?) = cx.map some) (hR : isR.map (fun i => X[i]?) = wr.map some) (hnR : va_nd isR = true) (hdis : ∀ i ∈ isR, i ∉ isC) (hN : ∀ u, isN.map (fun i => (wr ++ wfx u)[i]?) = (wnx u).map some) (hnN : va_nd isN = true)
    (kk : ∀ (r : UInt64) (u : S) (H1 : Heap) (locs1 : List Loc), post r u → va_P G.1 vwCl (wnx u ++ pl) H1 → va_D A (wnx u ++ pl) → va_S A s.heap H1 locs1 → W p l e R s m args below meth c H1 locs1 (cells + mc) (slots + ms) Qs (F0 m (pc + 3) ls (.double r :: rest))) : W p l e R s m args below meth c H locs cells slots Qs (F0 m pc ls st0) :=
  va_calld hr hS (fun q _ h => va_free hD hS hA isC hC2 q h) (va_free hD hS hA isC hC2) (fun r u t H1 locs1 ht _ hp hB _ hk hS1 => by
    obtain ⟨h1, h2⟩ := k_joinQ (wfx := wfx) (wr := wr) (wnx := wnx) hP hD hS hA isC isR isN hC hC2 hR hnR hdis (hN u) hnN ht hB hk
    exact kk r u H1 locs1 hp h1 h2 hS1)
end KP
/-! worlds as sets of cells -/
theorem kP_of {D : va_G} {cl : List vw_C} {ws ws' : va_W} {H : Heap} (h : va_P D cl ws H) (hs : ∀ q, q ∈ ws' → q ∈ ws) : va_P D cl ws' H := fun k q hk => by
  obtain ⟨i, hi⟩ := List.getElem?_of_mem (hs q (List.mem_of_getElem? hk))
  exact h i q hi
theorem kD_nd {A : Nat → Prop} {ws : va_W} : va_D A ws ↔ (ws.map Prod.fst).Nodup ∧ ∀ q, q ∈ ws → A q.1 := by
  constructor
  · rintro ⟨h1, h2⟩
    refine ⟨?_, fun q hq => ?_⟩
    · rw [List.nodup_iff_pairwise_ne, List.pairwise_iff_getElem]
      intro i j hi hj hij he
      rw [List.length_map] at hi hj
      rw [List.getElem_map, List.getElem_map] at he
      have := h1 i j _ _ (List.getElem?_eq_getElem hi) (List.getElem?_eq_getElem hj) he
      omega
    · obtain ⟨k, hk⟩ := List.getElem?_of_mem hq
      exact h2 k q hk
  · rintro ⟨h1, h2⟩
    rw [List.nodup_iff_pairwise_ne, List.pairwise_iff_getElem] at h1
    refine ⟨fun i j x y hi hj hxy => ?_, fun k q hk => h2 q (List.mem_of_getElem? hk)⟩
    obtain ⟨li, ei⟩ := List.getElem?_eq_some_iff.mp hi
    obtain ⟨lj, ej⟩ := List.getElem?_eq_some_iff.mp hj
    rcases Nat.lt_trichotomy i j with h | h | h
    · exact absurd (by rw [List.getElem_map, List.getElem_map, ei, ej]; exact hxy) (h1 i j (by rw [List.length_map]; exact li) (by rw [List.length_map]; exact lj) h)
    · exact h
    · exact absurd (by rw [List.getElem_map, List.getElem_map, ei, ej]; exact hxy.symm) (h1 j i (by rw [List.length_map]; exact lj) (by rw [List.length_map]; exact li) h)
theorem kD_perm {A : Nat → Prop} {ws ws' : va_W} (h : va_D A ws) (hp : ws.Perm ws') : va_D A ws' := by
  rw [kD_nd] at h ⊢
  exact ⟨(hp.map Prod.fst).nodup_iff.mp h.1, fun q hq => h.2 q (hp.mem_iff.mpr hq)⟩
theorem kD_subl {A : Nat → Prop} {ws ws' : va_W} (h : va_D A ws) (hp : ws'.Sublist ws) : va_D A ws' := by
  rw [kD_nd] at h ⊢
  exact ⟨(hp.map Prod.fst).nodup h.1, fun q hq => h.2 q (hp.subset hq)⟩
theorem kP_perm {D : va_G} {cl : List vw_C} {ws ws' : va_W} {H : Heap} (h : va_P D cl ws H) (hp : ws.Perm ws') : va_P D cl ws' H := kP_of h (fun q hq => hp.mem_iff.mpr hq)
/-! families of cells -/
def fam (n : Nat) (a : Nat → Nat) (f : Nat → va_E) : va_W := (List.range n).map (fun i => (a i, f i))
theorem fam_len {n : Nat} {a : Nat → Nat} {f : Nat → va_E} : (fam n a f).length = n := by unfold fam; rw [List.length_map, List.length_range]
theorem fam_at {n i : Nat} {a : Nat → Nat} {f : Nat → va_E} (h : i < n) : (fam n a f)[i]? = some (a i, f i) := by
  unfold fam
  rw [List.getElem?_map, List.getElem?_range h]; rfl
theorem fam_congr {n : Nat} {a b : Nat → Nat} {f g : Nat → va_E} (h1 : ∀ i, i < n → a i = b i) (h2 : ∀ i, i < n → f i = g i) : fam n a f = fam n b g := by
  unfold fam
  apply List.map_congr_left
  intro i hi
  have := List.mem_range.mp hi
  rw [h1 i this, h2 i this]
theorem fam_set {n i : Nat} {a : Nat → Nat} {f : Nat → va_E} {e : va_E} (h : i < n) : (fam n a f).set i (a i, e) = fam n a (va_up f i e) := by
  apply List.ext_getElem?
  intro j
  by_cases hj : j < n
  · by_cases e9 : j = i
    · subst e9
      rw [List.getElem?_set_self (by rw [fam_len]; exact hj), fam_at hj, va_up_self]
    · rw [List.getElem?_set_ne (Ne.symm e9), fam_at hj, fam_at hj, va_up_ne _ _ e9]
  · rw [List.getElem?_eq_none (by rw [List.length_set, fam_len]; omega), List.getElem?_eq_none (by rw [fam_len]; omega)]
theorem fam_0 {a : Nat → Nat} {f : Nat → va_E} : fam 0 a f = [] := rfl
theorem fam_push {n g : Nat} {a : Nat → Nat} {f : Nat → va_E} {e : va_E} : fam n a f ++ [(g, e)] = fam (n + 1) (va_up a n g) (va_up f n e) := by
  unfold fam
  rw [List.range_succ, List.map_append]
  congr 1
  · apply List.map_congr_left
    intro i hi
    have := List.mem_range.mp hi
    rw [va_up_ne _ _ (by omega), va_up_ne _ _ (by omega)]
  · simp [va_up_self]
theorem fam_drop {n : Nat} {a : Nat → Nat} {f : Nat → va_E} : (fam (n - 1) (fun i => a (i + 1)) (fun i => f (i + 1))).Sublist (fam n a f) := by
  cases n with
  | zero => exact List.Sublist.refl _
  | succ n =>
    unfold fam
    rw [List.range_succ_eq_map, List.map_cons, List.map_map]
    exact List.Sublist.cons _ (List.Sublist.refl _)
/-! the Sim's rows: rug, plan, the runs of both -/
abbrev Fn2 : Type := Nat → Nat → Int32
def cI (G : kG) (n : Nat) (f : Nat → Int32) : va_E := .inl (G.2.1, n, .inl f)
def sT (G : kG) (ra pa qa qb : Nat → Nat) (R P : Fn2) (na : Nat) (RA : Fn2) (nb : Nat) (RB : Fn2) : va_W :=
  fam 12 ra (fun x => cI G 10 (R x)) ++ (fam 12 pa (fun x => cI G 10 (P x)) ++ (fam na qa (fun i => cI G 2 (RA i)) ++ fam nb qb (fun i => cI G 2 (RB i))))
def updR (R : Fn2) (x y : Nat) (v : Int32) : Fn2 := fun i => if i = x then upd (R x) y v else R i
section ST
variable {X : va_W} {G : kG} {ra pa qa qb : Nat → Nat} {R P : Fn2} {na : Nat} {RA : Fn2} {nb : Nat} {RB : Fn2} {i : Nat}
theorem sT_r (h : i < 12) : (X ++ sT G ra pa qa qb R P na RA nb RB)[X.length + i]? = some (kC G (ra i) 10 (R i)) := by
  unfold sT
  rw [List.getElem?_append_right (by omega), show X.length + i - X.length = i by omega, List.getElem?_append_left (by rw [fam_len]; omega), fam_at h]; rfl
theorem sT_p (h : i < 12) : (X ++ sT G ra pa qa qb R P na RA nb RB)[X.length + (12 + i)]? = some (kC G (pa i) 10 (P i)) := by
  unfold sT
  rw [List.getElem?_append_right (by omega), List.getElem?_append_right (by rw [fam_len]; omega), fam_len, show X.length + (12 + i) - X.length - 12 = i by omega, List.getElem?_append_left (by rw [fam_len]; omega), fam_at h]; rfl
theorem sT_a (h : i < na) : (X ++ sT G ra pa qa qb R P na RA nb RB)[X.length + (24 + i)]? = some (kC G (qa i) 2 (RA i)) := by
  unfold sT
  rw [List.getElem?_append_right (by omega), List.getElem?_append_right (by rw [fam_len]; omega), List.getElem?_append_right (by rw [fam_len, fam_len]; omega), fam_len, fam_len, show X.length + (24 + i) - X.length - 12 - 12 = i by omega, List.getElem?_append_left (by rw [fam_len]; omega), fam_at h]; rfl
theorem sT_b (h : i < nb) : (X ++ sT G ra pa qa qb R P na RA nb RB)[X.length + (24 + na + i)]? = some (kC G (qb i) 2 (RB i)) := by
  unfold sT
  rw [List.getElem?_append_right (by omega), List.getElem?_append_right (by rw [fam_len]; omega), List.getElem?_append_right (by rw [fam_len, fam_len]; omega), List.getElem?_append_right (by rw [fam_len, fam_len, fam_len]; omega), fam_len, fam_len, fam_len, show X.length + (24 + na + i) - X.length - 12 - 12 - na = i by omega, fam_at h]; rfl
theorem cI_up {n x y : Nat} {F : Fn2} {v : Int32} : va_up (fun i => cI G n (F i)) x (cI G n (upd (F x) y v)) = fun i => cI G n (updR F x y v i) := by
  funext i
  unfold va_up updR
  split <;> rfl
theorem sT_rs {y : Nat} {v : Int32} (h : i < 12) : (X ++ sT G ra pa qa qb R P na RA nb RB).set (X.length + i) (kC G (ra i) 10 (upd (R i) y v)) = X ++ sT G ra pa qa qb (updR R i y v) P na RA nb RB := by
  unfold sT
  rw [List.set_append_right _ _ (by omega), show X.length + i - X.length = i by omega, List.set_append_left _ _ (by rw [fam_len]; omega)]
  have := fam_set (a := ra) (f := fun x => cI G 10 (R x)) (e := cI G 10 (upd (R i) y v)) h
  rw [cI_up] at this
  exact congrArg (fun z => X ++ (z ++ _)) this
theorem sT_ps {y : Nat} {v : Int32} (h : i < 12) : (X ++ sT G ra pa qa qb R P na RA nb RB).set (X.length + (12 + i)) (kC G (pa i) 10 (upd (P i) y v)) = X ++ sT G ra pa qa qb R (updR P i y v) na RA nb RB := by
  unfold sT
  rw [List.set_append_right _ _ (by omega), List.set_append_right _ _ (by rw [fam_len]; omega), fam_len, show X.length + (12 + i) - X.length - 12 = i by omega, List.set_append_left _ _ (by rw [fam_len]; omega)]
  have := fam_set (a := pa) (f := fun x => cI G 10 (P x)) (e := cI G 10 (upd (P i) y v)) h
  rw [cI_up] at this
  exact congrArg (fun z => X ++ (_ ++ (z ++ _))) this
theorem sT_as {y : Nat} {v : Int32} (h : i < na) : (X ++ sT G ra pa qa qb R P na RA nb RB).set (X.length + (24 + i)) (kC G (qa i) 2 (upd (RA i) y v)) = X ++ sT G ra pa qa qb R P na (updR RA i y v) nb RB := by
  unfold sT
  rw [List.set_append_right _ _ (by omega), List.set_append_right _ _ (by rw [fam_len]; omega), List.set_append_right _ _ (by rw [fam_len, fam_len]; omega), fam_len, fam_len, show X.length + (24 + i) - X.length - 12 - 12 = i by omega, List.set_append_left _ _ (by rw [fam_len]; omega)]
  have := fam_set (a := qa) (f := fun x => cI G 2 (RA x)) (e := cI G 2 (upd (RA i) y v)) h
  rw [cI_up] at this
  exact congrArg (fun z => X ++ (_ ++ (_ ++ (z ++ _)))) this
theorem sT_bs {y : Nat} {v : Int32} (h : i < nb) : (X ++ sT G ra pa qa qb R P na RA nb RB).set (X.length + (24 + na + i)) (kC G (qb i) 2 (upd (RB i) y v)) = X ++ sT G ra pa qa qb R P na RA nb (updR RB i y v) := by
  unfold sT
  rw [List.set_append_right _ _ (by omega), List.set_append_right _ _ (by rw [fam_len]; omega), List.set_append_right _ _ (by rw [fam_len, fam_len]; omega), List.set_append_right _ _ (by rw [fam_len, fam_len, fam_len]; omega), fam_len, fam_len, fam_len, show X.length + (24 + na + i) - X.length - 12 - 12 - na = i by omega]
  have := fam_set (a := qb) (f := fun x => cI G 2 (RB x)) (e := cI G 2 (upd (RB i) y v)) h
  rw [cI_up] at this
  exact congrArg (fun z => X ++ (_ ++ (_ ++ (_ ++ z)))) this
/-- the runs' part may be said otherwise, as far as it is long -/
theorem sT_eq {R' P' RA' RB' : Fn2} {qa' qb' : Nat → Nat} (hR : ∀ x, x < 12 → R x = R' x) (hP : ∀ x, x < 12 → P x = P' x) (ha : ∀ i, i < na → qa i = qa' i ∧ RA i = RA' i) (hb : ∀ i, i < nb → qb i = qb' i ∧ RB i = RB' i) : sT G ra pa qa qb R P na RA nb RB = sT G ra pa qa' qb' R' P' na RA' nb RB' := by
  unfold sT
  rw [fam_congr (b := ra) (g := fun x => cI G 10 (R' x)) (fun _ _ => rfl) (fun i h => by rw [hR i h]), fam_congr (a := pa) (b := pa) (g := fun x => cI G 10 (P' x)) (fun _ _ => rfl) (fun i h => by rw [hP i h]), fam_congr (a := qa) (b := qa') (g := fun x => cI G 2 (RA' x)) (fun i h => (ha i h).1) (fun i h => by rw [(ha i h).2]), fam_congr (a := qb) (b := qb') (g := fun x => cI G 2 (RB' x)) (fun i h => (hb i h).1) (fun i h => by rw [(hb i h).2])]
theorem sT_pushA {g : Nat} {f : Nat → Int32} : ((X ++ [kC G g 2 f]) ++ sT G ra pa qa qb R P na RA nb RB).Perm (X ++ sT G ra pa (va_up qa na g) qb R P (na + 1) (va_up RA na f) nb RB) := by
  have e : fam (na + 1) (va_up qa na g) (fun i => cI G 2 (va_up RA na f i)) = fam na qa (fun i => cI G 2 (RA i)) ++ [kC G g 2 f] := by
    rw [show ([kC G g 2 f] : va_W) = [(g, cI G 2 f)] from rfl, fam_push]
    congr 1
    funext i
    unfold va_up
    split <;> rfl
  unfold sT
  rw [e, List.append_assoc]
  apply List.Perm.append_left
  refine List.Perm.trans (List.perm_append_comm_assoc _ _ _) (List.Perm.append_left _ ?_)
  refine List.Perm.trans (List.perm_append_comm_assoc _ _ _) (List.Perm.append_left _ ?_)
  rw [List.append_assoc]
  exact List.perm_append_comm_assoc _ _ _
theorem sT_pushB {g : Nat} {f : Nat → Int32} : ((X ++ [kC G g 2 f]) ++ sT G ra pa qa qb R P na RA nb RB).Perm (X ++ sT G ra pa qa (va_up qb nb g) R P na RA (nb + 1) (va_up RB nb f)) := by
  have e : fam (nb + 1) (va_up qb nb g) (fun i => cI G 2 (va_up RB nb f i)) = fam nb qb (fun i => cI G 2 (RB i)) ++ [kC G g 2 f] := by
    rw [show ([kC G g 2 f] : va_W) = [(g, cI G 2 f)] from rfl, fam_push]
    congr 1
    funext i
    unfold va_up
    split <;> rfl
  unfold sT
  rw [e, List.append_assoc]
  apply List.Perm.append_left
  refine List.Perm.trans (List.perm_append_comm_assoc _ _ _) (List.Perm.append_left _ ?_)
  refine List.Perm.trans (List.perm_append_comm_assoc _ _ _) (List.Perm.append_left _ ?_)
  refine List.Perm.trans (List.perm_append_comm_assoc _ _ _) (List.Perm.append_left _ ?_)
  exact List.perm_append_comm
theorem sT_dropA : (X ++ sT G ra pa (fun i => qa (i + 1)) qb R P (na - 1) (fun i => RA (i + 1)) nb RB).Sublist (X ++ sT G ra pa qa qb R P na RA nb RB) := by
  unfold sT
  exact (List.Sublist.refl _).append ((List.Sublist.refl _).append ((List.Sublist.refl _).append (List.Sublist.append (fam_drop (n := na) (a := qa) (f := fun i => cI G 2 (RA i))) (List.Sublist.refl _))))
theorem sT_dropB : (X ++ sT G ra pa qa (fun i => qb (i + 1)) R P na RA (nb - 1) (fun i => RB (i + 1))).Sublist (X ++ sT G ra pa qa qb R P na RA nb RB) := by
  unfold sT
  exact (List.Sublist.refl _).append ((List.Sublist.refl _).append ((List.Sublist.refl _).append ((List.Sublist.refl _).append (fam_drop (n := nb) (a := qb) (f := fun i => cI G 2 (RB i))))))
theorem sT_clearA {RA' : Fn2} : (X ++ sT G ra pa qa qb R P 0 RA' nb RB).Sublist (X ++ sT G ra pa qa qb R P na RA nb RB) := by
  unfold sT
  exact (List.Sublist.refl _).append ((List.Sublist.refl _).append ((List.Sublist.refl _).append (List.Sublist.append (List.nil_sublist _) (List.Sublist.refl _))))
theorem sT_clearB {RB' : Fn2} : (X ++ sT G ra pa qa qb R P na RA 0 RB').Sublist (X ++ sT G ra pa qa qb R P na RA nb RB) := by
  unfold sT
  exact (List.Sublist.refl _).append ((List.Sublist.refl _).append ((List.Sublist.refl _).append ((List.Sublist.refl _).append (List.nil_sublist _))))
end ST
/-- a fixed cell more, or fewer -/
theorem kP_x {D : va_G} {cl : List vw_C} {X X' pl : va_W} {H : Heap} (h : va_P D cl (X ++ pl) H) (is : List Nat) (hs : is.map (fun i => X[i]?) = X'.map some) : va_P D cl (X' ++ pl) H := h.part is hs
theorem kD_x {A : Nat → Prop} {X X' pl : va_W} (h : va_D A (X ++ pl)) (is : List Nat) (hn : va_nd is = true) (hs : is.map (fun i => X[i]?) = X'.map some) : va_D A (X' ++ pl) := h.part is hn hs
/-- an outer row: the first k places hold a's addresses -/
def oA (k : Nat) (a : Nat → Nat) : Nat → Option Nat := fun j => if j < k then some (a j) else none
theorem oA_at {k j : Nat} {a : Nat → Nat} (h : j < k) : oA k a j = some (a j) := if_pos h
theorem oA_up {k : Nat} {a : Nat → Nat} {v : Nat} : va_up (oA k a) k (some v) = oA (k + 1) (va_up a k v) := by
  funext j
  unfold va_up oA
  by_cases h : j = k
  · subst h; simp
  · by_cases h2 : j < k
    · rw [if_neg h, if_pos h2, if_pos (by omega)]; simp [h]
    · rw [if_neg h, if_neg h2, if_neg (by omega)]
theorem oA_0 {a : Nat → Nat} : (fun _ => none) = oA 0 a := by
  funext j; unfold oA; rw [if_neg (by omega)]
theorem oA_eq {k : Nat} {a b : Nat → Nat} (h : ∀ j, j < k → a j = b j) : oA k a = oA k b := by
  funext j
  unfold oA
  by_cases h2 : j < k
  · rw [if_pos h2, if_pos h2, h j h2]
  · rw [if_neg h2, if_neg h2]
/-- an outer row of two -/
def oR (x y : Nat) : Nat → Option Nat := fun j => if j = 0 then some x else if j = 1 then some y else none
theorem oR_0 {x y z : Nat} : va_up (oR x y) 0 (some z) = oR z y := by
  funext j; unfold va_up oR; by_cases h : j = 0 <;> simp [h]
theorem oR_1 {x y z : Nat} : va_up (oR x y) 1 (some z) = oR x z := by
  funext j; unfold va_up oR
  by_cases h : j = 1
  · subst h; simp
  · by_cases h0 : j = 0 <;> simp [h, h0]
/-- a row of two numbers -/
def w2 (a b : Nat) : Nat → Nat := fun j => if j = 0 then a else if j = 1 then b else 0
theorem w2_0 {a b v : Nat} : updN (w2 a b) 0 v = w2 v b := by
  funext j; unfold updN w2; by_cases h : j = 0 <;> simp [h]
theorem w2_1 {a b v : Nat} : updN (w2 a b) 1 v = w2 a v := by
  funext j; unfold updN w2
  by_cases h : j = 1
  · subst h; simp
  · by_cases h0 : j = 0 <;> simp [h, h0]
theorem w2_z : (fun _ => 0) = w2 0 0 := by
  funext j; unfold w2; (repeat' split) <;> rfl
