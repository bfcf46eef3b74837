/-! ===== BEGIN words of one list among another's, by their places ===== -/
theorem goodIn_r {big : List Cond} (ws : List Cond) (ps : List Nat) (hp : ws = ps.filterMap (fun i => big[i]?)) (h : ws.all goodWord = true) : GoodIn big ws := by
  intro w hw
  have h1 := List.all_eq_true.mp h w hw
  rw [hp] at hw
  obtain ⟨i, -, hi⟩ := List.mem_filterMap.mp hw
  have hm : w ∈ big := by first | exact List.mem_of_getElem? hi | exact List.getElem?_mem hi
  exact ⟨hm, good_of_word h1⟩
theorem goodIn_app {big a b : List Cond} (ha : GoodIn big a) (hb : GoodIn big b) : GoodIn big (a ++ b) := fun w h => (List.mem_append.mp h).elim (ha w) (hb w)
theorem goodIn_ca {big a b : List Cond} {c : Cond} (ha : GoodIn big (c :: a)) (hb : GoodIn big b) : GoodIn big (c :: (a ++ b)) := fun w h => (List.mem_cons.mp h).elim (fun e => ha w (List.mem_cons.mpr (Or.inl e))) (fun h => (List.mem_append.mp h).elim (fun h => ha w (List.mem_cons.mpr (Or.inr h))) (hb w))
theorem goodIn_sub {big ws : List Cond} (hm : ∀ w ∈ ws, w ∈ big) (h : ws.all goodWord = true) : GoodIn big ws := fun w hw => ⟨hm w hw, good_of_word (List.all_eq_true.mp h w hw)⟩
/-! ===== END ===== -/

/-! ===== BEGIN exceptions that leave a method, and their catching by the caller (launches without stack traces) ===== -/
section VXA
/-! The laws vx_back, vx_callV, vx_callS, vx_callSW, vx_throw0, vx_throwS follow proofs of the library, with one case more: JvmDerived/Free/Laws.lean (Back.of_free), Shelf42/LK1.lean (callV, callS), Shelf/KitTraced.lean (throwNew0V, throwNewS). -/
/-- where a method has thrown q: the class by its name, the cell, what was written, the world -/
def vx_T (XC : String → State → State → Prop) (st : State) (q : Addr) (t : State) (mc ms : Nat) (free : Addr → Prop) : Prop :=
  ∃ (E : String) (ce : Cell) (L : List Loc), XC E st t ∧ t.heap[q]? = some ce ∧ ce.vm = .none ∧ st.vm.findClass E = some ce.cls ∧ st.WarmedH t.vm ∧ st.sameButNew ({ t with vm := st.vm } : State) L mc ms ∧ ∀ z ∈ L, free z.base
def vx_Q (Qc : Array Value → State → Outcome → State → Prop) (XC : String → State → State → Prop) (mc ms : Nat) (free : Addr → Prop) : Array Value → State → Outcome → State → Prop := fun a st o t =>
  (Qc a st o t ∧ ∃ L, FrameEnd st o t L mc ms ∧ ∀ q ∈ L, free q.base) ∨ ∃ q, o = .threw q ∧ vx_T XC st q t mc ms free
/-- a callee that returns or throws -/
def vx_Met (l : Launch) (y : MethodName) (ws : List Cond) (rm : Room) (Pc : Array Value → State → Prop) (Qc : Array Value → State → Outcome → State → Prop) (XC : String → State → State → Prop) (mc ms : Nat) (free : Addr → Prop) : Prop :=
  MetFree l y (headSpec ws rm) Pc (fun _ _ _ _ _ => True) (vx_Q Qc XC mc ms free)
def vx_Post (XC : String → State → State → Prop) (mc ms : Nat) (free : Addr → Prop) : Pt → Array Value → Addr → Pt → Prop := fun A a q B =>
  ∃ (g : JFrame) (mk : MethodId) (t : State) (L : List Loc) (E : String) (ce : Cell), B.U.heap = t.heap ∧ B.U.vm = t.vm ∧ XC E (A.U.calling g mk a) t ∧ t.heap[q]? = some ce ∧ ce.vm = .none ∧ A.U.vm.findClass E = some ce.cls ∧ B.locs = A.locs ++ L ∧ (∀ z ∈ L, free z.base) ∧ B.cells = A.cells + mc ∧ B.slots = A.slots + ms
def vx_Back (l : Launch) (R : Room) (p : Program) (e : Env) (below : List Frame) (s : State) (sargs : Array Value) (y : MethodName) (len W9 : Nat)
    (Pre : Pt → Array Value → Prop) (Post : Pt → Array Value → Option Value → Pt → Prop) (PostX : Pt → Array Value → Addr → Pt → Prop) : Prop :=
  ∀ (m : MethodId) (meth : Method) (c : Code) (A : Pt) (g : JFrame) (ig : Instr) (mk : MethodId) (a : Array Value),
    Stand p l e R s m sargs below meth c A.U A.locs A.cells A.slots → g.method = m → g.locals.size = c.maxLocals → decode c.code g.pc = .ok (ig, len) →
    2 * g.monitorRoom + (g.stack.map fun v => v.category).sum ≤ W9 → A.U.methodNamed? y = some mk → Pre A a →
    (∃ (v : Option Value) (B : Pt), Stand p l e R s m sargs below meth c B.U B.locs B.cells B.slots ∧ Post A a v B ∧
      Steps p.tables e below (doInvoke e (A.U.setTop g) [] mk a).1 (B.U.setTop { g with pc := g.pc + len, stack := v.toList ++ g.stack })) ∨
    (∃ (q : Addr) (B : Pt), Stand p l e R s m sargs below meth c B.U B.locs B.cells B.slots ∧ PostX A a q B ∧
      Steps p.tables e below (doInvoke e (A.U.setTop g) [] mk a).1 ((B.U.setTop g).pushFrame (.throwing q)))
section Payer
variable {l : Launch} {R : Room} {p : Program} {e : Env} {below : List Frame} {s : State} {sargs : Array Value} {y : MethodName} {len W9 : Nat}
theorem vx_back {ws : List Cond} {rm : Room} {Pc : Array Value → State → Prop} {Qc : Array Value → State → Outcome → State → Prop} {XC : String → State → State → Prop} {mc ms : Nat} {free : Addr → Prop} {bytes : ByteArray} {maxL : Nat} {ret : Option FieldType}
    (hM : vx_Met l y ws rm Pc Qc XC mc ms free) (hblind : FrameBlind Pc) (hrc : rm.cells = mc) (hrs : rm.slots = ms)
    (hframes : rm.frames + 1 ≤ R.frames) (hlocals : W9 + (maxL + 11) + rm.locals ≤ R.locals)
    (hws : ∀ w ∈ ws, ∀ a' U, s.WarmedH U.vm → w.before a' U = true) (hcode : Cond.code y bytes maxL ret ∈ ws) (hinit : ∀ a' U, s.WarmedH U.vm → (Cond.initialized y.cls).before a' U = true) :
    vx_Back l R p e below s sargs y len W9 (PreOf R mc ms Pc) (PostOf Qc mc ms free) (vx_Post XC mc ms free) := by
  intro m meth c A g ig mk a X hg hsize hdg hW hn hp
  have h1 : (headSpec ws rm).pre.before a A.U = true := atoms_intro fun w hw => hws w hw _ _ X.warmed
  have h2 : (Cond.code y bytes maxL ret).before a A.U = true := hws _ hcode _ _ X.warmed
  have h3 : (Cond.initialized y.cls).before a A.U = true := hinit _ _ X.warmed
  have h4 : A.cells + (headSpec ws rm).room.cells ≤ R.cells := by rw [show (headSpec ws rm).room.cells = mc from hrc]; exact hp.1
  have h5 : A.slots + (headSpec ws rm).room.slots ≤ R.slots := by rw [show (headSpec ws rm).room.slots = ms from hrs]; exact hp.2.1
  have hPc : Pc a (A.U.calling g mk a) := hblind _ _ _ _ hp.2.2
  obtain ⟨U, Ls, c0, s0⟩ := A
  dsimp only [Pt.U, Pt.locs, Pt.cells, Pt.slots] at h1 h2 h3 h4 h5 X hn hPc ⊢
  obtain ⟨methY, cY, hmY, hcY, -, hlY, -, -, -, -⟩ := Cond.code_spec hn h2
  obtain ⟨kY, hkY, -⟩ := className_of_methodNamed hn
  have hinitY : kY.init = .initialized := Cond.initialized_spec (findClass_of_methodNamed hn) hkY h3
  have h : At U g.method c below := by rw [hg]; exact X.here
  have hlocals9 : W9 + (maxL + 11) + (headSpec ws rm).room.locals ≤ R.locals := hlocals
  have happ : (headSpec ws rm).appliesLoose y e.platform (U.calling g mk a) = true :=
    Spec.appliesLoose_calling (g := g) h hdg hn hkY hinitY
      (X.room_calling (g := g) (R' := (headSpec ws rm).room) hsize hmY hcY hframes (by rw [hlY]; omega) h4 h5) h1
  obtain ⟨mid, hmid⟩ := h.above
  have hfr : (U.setTop g).frames = (.java g :: mid) ++ below := by rw [State.frames_setTop' g h.top, hmid]; rfl
  obtain ⟨o, s₂, hsteps, -, hend, hq⟩ := Steps.callFree hM p X.admits X.cas X.clock (acts := []) hfr happ hPc trivial
  have hq' : vx_Q Qc XC mc ms free a (U.calling g mk a) o s₂ := hq
  rw [State.frames_setTop' g h.top] at hend
  obtain ⟨g₀, hg0⟩ := Option.isSome_iff_exists.mp h.top
  obtain ⟨r, hr⟩ := State.topJava?_eq_some.mp hg0
  have hr' : (({ U with heap := s₂.heap, slotsUsed := s₂.slotsUsed } : State).setVm s₂.vm).frames = .java g₀ :: r := hr
  rcases hq' with ⟨hqc, L, hfe, hL⟩ | ⟨q, rfl, E, ce, L, hx, hce, hcv, hcl, hW₂, hsm, hL⟩
  · obtain ⟨⟨v, rfl⟩, hW₂, e2, q2, q3, q4, q5, q6⟩ := id hfe
    have e3 : s₂ = ({ (U.calling g mk a).setFrames s₂.frames with heap := s₂.heap, slotsUsed := s₂.slotsUsed } : State).setVm s₂.vm := by
      have : s₂ = ({ s₂ with vm := (U.calling g mk a).vm } : State).setVm s₂.vm := rfl
      rw [e2] at this
      exact this
    obtain ⟨c₂, i₂, len₂, hc₂, hd₂, hf₂⟩ := hend
    have hW' : U.WarmedH s₂.vm := hW₂
    have hcc : c₂ = c := by
      have h1 : s₂.code? g.method = U.code? g.method := by
        rw [State.code?_eq, State.code?_eq, hW'.alike.method?]
      exact Option.some.inj (hc₂.symm.trans (h1.trans h.code))
    subst hcc
    have hlen : len₂ = len := by rw [hdg] at hd₂; cases hd₂; rfl
    subst hlen
    have hs₂ : s₂ = (({ U with heap := s₂.heap, slotsUsed := s₂.slotsUsed } : State).setVm s₂.vm).setTop { g with pc := g.pc + len₂, stack := v.toList ++ g.stack } := by
      refine e3.trans ?_
      rw [hf₂, State.calling_eq h.top, State.setFrames_setFrames, State.setTop_of_frames _ hr', hr]
      rfl
    have hsame : U.sameButNew ({ U with heap := s₂.heap, slotsUsed := s₂.slotsUsed } : State) L mc ms := by
      refine ⟨?_, q2, q3, q4, q5, q6⟩
      obtain ⟨t, ht, -⟩ := State.frames_cons hr
      show ({ U with heap := s₂.heap, slotsUsed := s₂.slotsUsed } : State) = { U.setFrames U.frames with heap := s₂.heap, slotsUsed := s₂.slotsUsed }
      rw [State.setFrames_self ht]
    subst hg
    refine Or.inl ⟨v, ⟨(({ U with heap := s₂.heap, slotsUsed := s₂.slotsUsed } : State).setVm s₂.vm), Ls ++ L, c0 + mc, s0 + ms⟩,
      ⟨X.admits, X.cas, X.clock, X.frames, X.room, X.hears, X.method, X.code, (X.here.setHeapUsed s₂.heap s₂.slotsUsed).setVm hW'.alike, X.tail, State.WarmedH.trans X.warmed hW', X.limits, X.bytes, X.same.trans (hsame.setVm s.vm)⟩,
      ⟨g, mk, s₂, L, rfl, rfl, hqc, rfl, hL, rfl, rfl⟩, ?_⟩
    show Steps p.tables e below _ ((({ U with heap := s₂.heap, slotsUsed := s₂.slotsUsed } : State).setVm s₂.vm).setTop { g with pc := g.pc + len₂, stack := v.toList ++ g.stack })
    rw [← hs₂]
    exact hsteps
  · obtain ⟨e2, q2, q3, q4, q5, q6⟩ := id hsm
    have e3 : s₂ = ({ (U.calling g mk a).setFrames s₂.frames with heap := s₂.heap, slotsUsed := s₂.slotsUsed } : State).setVm s₂.vm := by
      have : s₂ = ({ s₂ with vm := (U.calling g mk a).vm } : State).setVm s₂.vm := rfl
      rw [e2] at this
      exact this
    have hf₂ : s₂.frames = .throwing q :: .java g :: U.frames.tail := hend
    have hW' : U.WarmedH s₂.vm := hW₂
    have hs₂ : s₂ = ((({ U with heap := s₂.heap, slotsUsed := s₂.slotsUsed } : State).setVm s₂.vm).setTop g).pushFrame (.throwing q) := by
      refine e3.trans ?_
      rw [hf₂, State.calling_eq h.top, State.setFrames_setFrames, State.pushFrame, State.frames_setTop _ hr', State.setTop_of_frames _ hr', State.setFrames_setFrames, hr]
      rfl
    have hsame : U.sameButNew ({ U with heap := s₂.heap, slotsUsed := s₂.slotsUsed } : State) L mc ms := by
      refine ⟨?_, q2, q3, q4, q5, q6⟩
      obtain ⟨t, ht, -⟩ := State.frames_cons hr
      show ({ U with heap := s₂.heap, slotsUsed := s₂.slotsUsed } : State) = { U.setFrames U.frames with heap := s₂.heap, slotsUsed := s₂.slotsUsed }
      rw [State.setFrames_self ht]
    subst hg
    refine Or.inr ⟨q, ⟨(({ U with heap := s₂.heap, slotsUsed := s₂.slotsUsed } : State).setVm s₂.vm), Ls ++ L, c0 + mc, s0 + ms⟩,
      ⟨X.admits, X.cas, X.clock, X.frames, X.room, X.hears, X.method, X.code, (X.here.setHeapUsed s₂.heap s₂.slotsUsed).setVm hW'.alike, X.tail, State.WarmedH.trans X.warmed hW', X.limits, X.bytes, X.same.trans (hsame.setVm s.vm)⟩,
      ⟨g, mk, s₂, L, E, ce, rfl, rfl, hx, hce, hcv, hcl, rfl, hL, rfl, rfl⟩, ?_⟩
    show Steps p.tables e below _ (((({ U with heap := s₂.heap, slotsUsed := s₂.slotsUsed } : State).setVm s₂.vm).setTop g).pushFrame (.throwing q))
    rw [← hs₂]
    exact hsteps
end Payer
section Calls
variable {p : Program} {l : Launch} {e : Env} {R : Room} {s : State} {m : MethodId} {args : Array Value} {below : List Frame} {meth : Method} {c : Code} {T : State} {locs : List Loc} {cells slots : Nat}
theorem vx_callV (X : Stand p l e R s m args below meth c T locs cells slots) (hexec : p.tables.exec = Jvm.exec) {own C : String} {index : Nat} {y : MethodName} {bytes : ByteArray} {maxL : Nat} {ret : Option FieldType}
    (hown : s.vm.findClass own = some m.cls) (hlink : (Cond.methodLink own index y).before args s = true) (hinst : (Cond.instanceMethod y).before args s = true) (hsel : (Cond.selects C y y).before args s = true)
    (hcode : (Cond.code y bytes maxL ret).before args s = true) (hy : y.cls ≠ "java/lang/invoke/MethodHandle" ∧ y.cls ≠ "java/lang/invoke/VarHandle")
    {W9 : Nat} {Pre : Pt → Array Value → Prop} {Post : Pt → Array Value → Option Value → Pt → Prop} {PostX : Pt → Array Value → Addr → Pt → Prop} (hK : vx_Back l R p e below s args y 3 W9 Pre Post PostX)
    {b : Addr} {cellB : Cell} (hcell : T.heap[b]? = some cellB) (hobj : cellB.vm.isStatics = false) (hcls : s.vm.findClass C = some cellB.cls)
    {g : JFrame} (hg : g.method = m) (hsize : g.locals.size = c.maxLocals) {argsL rest : List Value} (hlen : ∀ sig, parseMethodDescriptor y.desc = some sig → argsL.length = sig.parameters.length)
    (hstack : g.stack = argsL.reverse ++ .ref b :: rest) (hW : 2 * g.monitorRoom + (rest.map fun v => v.category).sum ≤ W9) (hdg : decode c.code g.pc = .ok (.invokevirtual index, 3))
    (hpre : ∀ vm₁, s.WarmedH vm₁ → Pre ⟨T.setVm vm₁, locs, cells, slots⟩ (Value.ref b :: argsL).toArray) :
    (∃ (v : Option Value) (vm₁ : Vm) (B : Pt), s.WarmedH vm₁ ∧ Stand p l e R s m args below meth c B.U B.locs B.cells B.slots ∧ Post ⟨T.setVm vm₁, locs, cells, slots⟩ (Value.ref b :: argsL).toArray v B ∧
      ∀ target, Steps p.tables e below (B.U.setTop { g with pc := g.pc + 3, stack := v.toList ++ rest }) target → Steps p.tables e below (T.setTop g) target) ∨
    (∃ (q : Addr) (vm₁ : Vm) (B : Pt), s.WarmedH vm₁ ∧ Stand p l e R s m args below meth c B.U B.locs B.cells B.slots ∧ PostX ⟨T.setVm vm₁, locs, cells, slots⟩ (Value.ref b :: argsL).toArray q B ∧
      Steps p.tables e below (T.setTop g) ((B.U.setTop { g with stack := rest }).pushFrame (.throwing q))) := by
  obtain ⟨mk, methM, hnamed, hmethM, hstM, habM⟩ := Cond.instanceMethod_spec hinst
  obtain ⟨methM', cM, hmethM', -, -, -, -, -, -, hsigM⟩ := Cond.code_spec hnamed hcode
  cases hmethM.symm.trans hmethM'
  obtain ⟨c2, r2, m2, q1, q2, q3, q4, kP, hkP, hkPi⟩ := Cond.selects_spec hsel
  cases hcls.symm.trans q1
  cases (State.methodFound?_of_named hnamed hy).symm.trans q2
  cases hnamed.symm.trans q3
  have hselP : selectMethod e.platform s.vm cellB.cls mk = .method mk := by rw [Launch.admits_selectMethod X.admits]; exact q4
  obtain ⟨vm₁, X₁, hstep₁⟩ := X.invokevirtual hexec hown hlink hnamed hmethM hstM hkP hkPi hy (a := b) (cell := cellB) hcell
    (fun z h => by rw [h] at hobj; cases hobj) hselP hmethM habM hkP hkPi (g := g) hg (argsL := argsL) (rest := rest) (hlen _ hsigM) hstack hdg
  rcases hK m meth c ⟨T.setVm vm₁, locs, cells, slots⟩ { g with stack := rest } (.invokevirtual index) mk (Value.ref b :: argsL).toArray X₁ hg hsize hdg hW (X₁.named hnamed) (hpre vm₁ X₁.warmed) with ⟨v, B, X', hpost, hsteps⟩ | ⟨q, B, X', hpost, hsteps⟩
  · exact Or.inl ⟨v, vm₁, B, X₁.warmed, X', hpost, fun target h => hstep₁ _ fun acts => by rw [doInvoke_state]; exact hsteps.trans h⟩
  · exact Or.inr ⟨q, vm₁, B, X₁.warmed, X', hpost, hstep₁ _ fun acts => by rw [doInvoke_state]; exact hsteps⟩
theorem vx_callS (X : Stand p l e R s m args below meth c T locs cells slots) (hexec : p.tables.exec = Jvm.exec) {own : String} {index : Nat} {y : MethodName} {bytes : ByteArray} {maxL : Nat} {ret : Option FieldType}
    (hown : s.vm.findClass own = some m.cls) (hlink : (Cond.methodLink own index y).before args s = true) (hstat : (Cond.static y).before args s = true) (hinit : (Cond.initialized y.cls).before args s = true)
    (hcode : (Cond.code y bytes maxL ret).before args s = true) (hy : y.cls ≠ "java/lang/invoke/MethodHandle" ∧ y.cls ≠ "java/lang/invoke/VarHandle")
    {W9 : Nat} {Pre : Pt → Array Value → Prop} {Post : Pt → Array Value → Option Value → Pt → Prop} {PostX : Pt → Array Value → Addr → Pt → Prop} (hK : vx_Back l R p e below s args y 3 W9 Pre Post PostX)
    {g : JFrame} (hg : g.method = m) (hsize : g.locals.size = c.maxLocals) {argsL rest : List Value} (hlen : ∀ sig, parseMethodDescriptor y.desc = some sig → argsL.length = sig.parameters.length)
    (hstack : g.stack = argsL.reverse ++ rest) (hW : 2 * g.monitorRoom + (rest.map fun v => v.category).sum ≤ W9) (hdg : decode c.code g.pc = .ok (.invokestatic index, 3))
    (hpre : ∀ vm₁, s.WarmedH vm₁ → Pre ⟨T.setVm vm₁, locs, cells, slots⟩ argsL.toArray) :
    (∃ (v : Option Value) (vm₁ : Vm) (B : Pt), s.WarmedH vm₁ ∧ Stand p l e R s m args below meth c B.U B.locs B.cells B.slots ∧ Post ⟨T.setVm vm₁, locs, cells, slots⟩ argsL.toArray v B ∧
      ∀ target, Steps p.tables e below (B.U.setTop { g with pc := g.pc + 3, stack := v.toList ++ rest }) target → Steps p.tables e below (T.setTop g) target) ∨
    (∃ (q : Addr) (vm₁ : Vm) (B : Pt), s.WarmedH vm₁ ∧ Stand p l e R s m args below meth c B.U B.locs B.cells B.slots ∧ PostX ⟨T.setVm vm₁, locs, cells, slots⟩ argsL.toArray q B ∧
      Steps p.tables e below (T.setTop g) ((B.U.setTop { g with stack := rest }).pushFrame (.throwing q))) := by
  obtain ⟨mk, hnamed⟩ := Cond.code_named hcode
  obtain ⟨methM, cM, hmethM, -, -, -, -, -, -, hsigM⟩ := Cond.code_spec hnamed hcode
  have hstatic : methM.isStatic = true := Cond.static_spec hnamed hmethM hstat
  obtain ⟨kP, hkP, -⟩ := className_of_methodNamed hnamed
  have hinitP : kP.init = .initialized := Cond.initialized_spec (findClass_of_methodNamed hnamed) hkP hinit
  obtain ⟨vm₁, X₁, hstep₁⟩ := X.invokestatic hexec hown hlink hnamed hmethM hstatic hkP hinitP hy (g := g) hg (argsL := argsL) (rest := rest) (hlen _ hsigM) hstack hdg
  rcases hK m meth c ⟨T.setVm vm₁, locs, cells, slots⟩ { g with stack := rest } (.invokestatic index) mk argsL.toArray X₁ hg hsize hdg hW (X₁.named hnamed) (hpre vm₁ X₁.warmed) with ⟨v, B, X', hpost, hsteps⟩ | ⟨q, B, X', hpost, hsteps⟩
  · exact Or.inl ⟨v, vm₁, B, X₁.warmed, X', hpost, fun target h => hstep₁ _ fun acts => by rw [doInvoke_state]; exact hsteps.trans h⟩
  · exact Or.inr ⟨q, vm₁, B, X₁.warmed, X', hpost, hstep₁ _ fun acts => by rw [doInvoke_state]; exact hsteps⟩
end Calls
theorem vx_cls {s : State} {T : State} {vm₁ : Vm} {E : String} {k : ClassId} (hW : s.WarmedH vm₁) (h : (T.setVm vm₁).vm.findClass E = some k) : s.vm.findClass E = some k := by
  have h1 : vm₁.findClass E = some k := h
  rw [hW.alike.findClass] at h1
  exact h1
/-- the method's frame g, with q thrown over it -/
def vx_W (p : Program) (l : Launch) (e : Env) (R : Room) (s : State) (m : MethodId) (args : Array Value) (below : List Frame) (meth : Method) (c : Code) (H : Heap) (locs : List Loc) (cells slots : Nat) (Q : State → Prop) (g : JFrame) (q : Addr) : Prop :=
  ∀ T : State, T.heap = H → Stand p l e R s m args below meth c T locs cells slots → ∃ t, Steps p.tables e below ((T.setTop g).pushFrame (.throwing q)) t ∧ Q t
def vx_Run (p : Program) (l : Launch) (e : Env) (R : Room) (s : State) (m : MethodId) (args : Array Value) (below : List Frame) (meth : Method) (c : Code) (H : Heap) (locs : List Loc) (cells slots mc ms : Nat) (g : JFrame) (rest : List Value) (Qa : State → Outcome → State → Prop) (XC : String → State → State → Prop) (free : Addr → Prop) : Prop :=
  ∀ T : State, T.heap = H → Stand p l e R s m args below meth c T locs cells slots →
    (∃ (v : Option Value) (st₀ t T' : State) (L : List Loc), st₀.heap = H ∧ Stand p l e R s m args below meth c T' (locs ++ L) (cells + mc) (slots + ms) ∧ (∀ q ∈ L, free q.base) ∧ T'.heap = t.heap ∧ T'.vm = t.vm ∧ Qa st₀ (.returned v) t ∧
      Goes p e below T g T' { g with pc := g.pc + 3, stack := v.toList ++ rest }) ∨
    (∃ (q : Addr) (st₀ t T' : State) (L : List Loc) (E : String) (ce : Cell), st₀.heap = H ∧ Stand p l e R s m args below meth c T' (locs ++ L) (cells + mc) (slots + ms) ∧ (∀ z ∈ L, free z.base) ∧ T'.heap = t.heap ∧ T'.vm = t.vm ∧ XC E st₀ t ∧ t.heap[q]? = some ce ∧ ce.vm = .none ∧ s.vm.findClass E = some ce.cls ∧
      Steps p.tables e below (T.setTop g) ((T'.setTop { g with stack := rest }).pushFrame (.throwing q)))
def vx_X {S : Type} (px : S → Prop) (B : String → S → State → Prop) (A : Nat → Prop) : String → State → State → Prop := fun E st t => ∃ u : S, px u ∧ B E u t ∧ va_F A st t
section Runs
variable {p : Program} {l : Launch} {e : Env} {R : Room} {s : State} {m : MethodId} {args : Array Value} {below : List Frame} {meth : Method} {c : Code} {H : Heap} {locs : List Loc} {cells slots : Nat}
variable {y : MethodName} {bytes cc : ByteArray} {maxL nL mc ms n index : Nat} {ret : Option FieldType} {ws : List Cond} {rm : Room} {Pc : Array Value → State → Prop} {Qc : Array Value → State → Outcome → State → Prop} {XC : String → State → State → Prop} {free : Addr → Prop} {Ts : List Cond} {own C : String} {b : Addr} {As rest : List Value} {g : JFrame}
theorem vx_callBack (cb : CallB R s args own index y bytes maxL ret ws rm mc ms n) (hM : vx_Met l y ws rm Pc Qc XC mc ms free) (hbl : FrameBlind Pc) : vx_Back l R p e below s args y 3 8 (PreOf R mc ms Pc) (PostOf Qc mc ms free) (vx_Post XC mc ms free) := by
  obtain ⟨hrc, hrs, hfr, hlo, hws, hcw, -, hini, -⟩ := cb
  exact vx_back (bytes := bytes) (maxL := maxL) (ret := ret) hM hbl hrc hrs hfr hlo hws hcw (fun a' U hW => word_at hW (Or.inl (by first | rfl | simp [Cond.onTables, Cond.keeps, Cond.steady])) hini)
theorem vx_runV (S : CallFix p m c cc nL s args Ts own) (hM : vx_Met l y ws rm Pc Qc XC mc ms free) (cw : CallW R s args own C index y bytes maxL ret ws rm mc ms n) (hp : PreV s H C b Pc As)
    (hg : g.method = m) (hn : As.length = n) (hsize : g.locals.size = nL) (hstack : g.stack = As.reverse ++ .ref b :: rest) (hW : 2 * g.monitorRoom + (rest.map fun v => v.category).sum ≤ 8) (hdg : decode cc g.pc = .ok (.invokevirtual index, 3)) (hf : cells + mc ≤ R.cells ∧ slots + ms ≤ R.slots) :
    vx_Run p l e R s m args below meth c H locs cells slots mc ms g rest (Qc (Value.ref b :: As).toArray) XC free := by
  have hK : vx_Back l R p e below s args y 3 8 (PreOf R mc ms Pc) (PostOf Qc mc ms free) (vx_Post XC mc ms free) := vx_callBack cw.1 hM hp.1
  obtain ⟨⟨-, -, -, -, -, -, hcode, -, hy, hlen, hl⟩, hin, hse⟩ := cw
  obtain ⟨hx, hb, hml, ho, -⟩ := S
  obtain ⟨-, ⟨cellB, hcB, hoB, hclB⟩, hPc⟩ := hp
  intro T hT X
  rcases vx_callV X hx (C := C) (bytes := bytes) (maxL := maxL) (ret := ret) ho hl hin hse hcode hy hK (by rw [hT]; exact hcB) hoB hclB hg (hsize.trans hml.symm) (argsL := As) (rest := rest) (fun sig h => hn.trans (hlen sig h)) hstack hW (by rw [hb]; exact hdg)
    (fun vm₁ hW₁ => ⟨hf.1, hf.2, hPc (T.setVm vm₁) hT hW₁⟩) with ⟨v, vm₁, ⟨U', l2, c2, s2⟩, hW₁, X', ⟨g', mk, t, L, e1, e2, hq, h1, hL, h2, h3⟩, st⟩ | ⟨q, vm₁, ⟨U', l2, c2, s2⟩, hW₁, X', ⟨g', mk, t, L, E, ce, e1, e2, hq, hce, hcv, hcl, h1, hL, h2, h3⟩, st⟩
  · dsimp only [Pt.U, Pt.locs, Pt.cells, Pt.slots] at X' e1 e2 h1 h2 h3 st
    subst h1; subst h2; subst h3
    exact Or.inl ⟨v, (T.setVm vm₁).calling g' mk (Value.ref b :: As).toArray, t, U', L, hT, X', hL, e1, e2, hq, st⟩
  · dsimp only [Pt.U, Pt.locs, Pt.cells, Pt.slots] at X' e1 e2 h1 h2 h3 st hcl
    subst h1; subst h2; subst h3
    exact Or.inr ⟨q, (T.setVm vm₁).calling g' mk (Value.ref b :: As).toArray, t, U', L, E, ce, hT, X', hL, e1, e2, hq, hce, hcv, vx_cls hW₁ hcl, st⟩
theorem vx_runS (S : CallFix p m c cc nL s args Ts own) (hM : vx_Met l y ws rm Pc Qc XC mc ms free) (cw : CallB R s args own index y bytes maxL ret ws rm mc ms n ∧ (Cond.static y).before args s = true) (hp : PreS s H Pc As)
    (hg : g.method = m) (hn : As.length = n) (hsize : g.locals.size = nL) (hstack : g.stack = As.reverse ++ rest) (hW : 2 * g.monitorRoom + (rest.map fun v => v.category).sum ≤ 8) (hdg : decode cc g.pc = .ok (.invokestatic index, 3)) (hf : cells + mc ≤ R.cells ∧ slots + ms ≤ R.slots) :
    vx_Run p l e R s m args below meth c H locs cells slots mc ms g rest (Qc As.toArray) XC free := by
  have hK : vx_Back l R p e below s args y 3 8 (PreOf R mc ms Pc) (PostOf Qc mc ms free) (vx_Post XC mc ms free) := vx_callBack cw.1 hM hp.1
  obtain ⟨⟨-, -, -, -, -, -, hcode, hini, hy, hlen, hl⟩, hstt⟩ := cw
  obtain ⟨hx, hb, hml, ho, -⟩ := S
  intro T hT X
  rcases vx_callS X hx (bytes := bytes) (maxL := maxL) (ret := ret) ho hl hstt hini hcode hy hK hg (hsize.trans hml.symm) (argsL := As) (rest := rest) (fun sig h => hn.trans (hlen sig h)) hstack hW (by rw [hb]; exact hdg)
    (fun vm₁ hW₁ => ⟨hf.1, hf.2, hp.2 (T.setVm vm₁) hT hW₁⟩) with ⟨v, vm₁, ⟨U', l2, c2, s2⟩, hW₁, X', ⟨g', mk, t, L, e1, e2, hq, h1, hL, h2, h3⟩, st⟩ | ⟨q, vm₁, ⟨U', l2, c2, s2⟩, hW₁, X', ⟨g', mk, t, L, E, ce, e1, e2, hq, hce, hcv, hcl, h1, hL, h2, h3⟩, st⟩
  · dsimp only [Pt.U, Pt.locs, Pt.cells, Pt.slots] at X' e1 e2 h1 h2 h3 st
    subst h1; subst h2; subst h3
    exact Or.inl ⟨v, (T.setVm vm₁).calling g' mk As.toArray, t, U', L, hT, X', hL, e1, e2, hq, st⟩
  · dsimp only [Pt.U, Pt.locs, Pt.cells, Pt.slots] at X' e1 e2 h1 h2 h3 st hcl
    subst h1; subst h2; subst h3
    exact Or.inr ⟨q, (T.setVm vm₁).calling g' mk As.toArray, t, U', L, E, ce, hT, X', hL, e1, e2, hq, hce, hcv, vx_cls hW₁ hcl, st⟩
end Runs
section Rows
variable {p : Program} {l : Launch} {e : Env} {R : Room} {s : State} {m : MethodId} {args : Array Value} {below : List Frame} {meth : Method} {c : Code} {H : Heap} {locs : List Loc} {cells slots : Nat} {Q : State → Prop}
variable {mc ms : Nat} {free : Addr → Prop} {A0 A1 : Nat → Prop} {H0 : Heap} {a : Array Value} {pc : Nat} {ls : Array Slot} {st0 rest : List Value}
theorem vx_keep {st₀ t T' : State} {L : List Loc} (h0 : st₀.heap = H) (e1 : T'.heap = t.heap) (hS : va_S A0 H0 H locs) (hA : ∀ q, q < H.size → A1 q → A0 q) (hf : ∀ q, free q → A0 q) (hL : ∀ q ∈ L, free q.base) (hF : va_F A1 st₀ t) :
    H.size ≤ T'.heap.size ∧ (∀ q : Nat, q < H.size → ¬ A1 q → T'.heap[q]? = H[q]?) ∧ va_S A0 H0 T'.heap (locs ++ L) := by
  obtain ⟨hz, hk⟩ := hF
  rw [h0] at hz hk
  exact ⟨by rw [e1]; exact hz, fun q h1 h2 => by rw [e1]; exact hk q h1 h2,
    ⟨Nat.le_trans hS.1 (by rw [e1]; exact hz), fun q h1 h2 => by rw [e1, hk q (Nat.lt_of_lt_of_le h1 hS.1) (fun z => h2 (hA q (Nat.lt_of_lt_of_le h1 hS.1) z))]; exact hS.2.1 q h1 h2, fun q hq => by
      rcases List.mem_append.mp hq with h | h
      · exact hS.2.2 q h
      · exact hf _ (hL q h)⟩⟩
theorem vx_calli {S SX : Type} {post : Int32 → S → Prop} {px : SX → Prop} {B : S → State → Prop} {BX : String → SX → State → Prop} {AX : Nat → Prop} (hr : vx_Run p l e R s m args below meth c H locs cells slots mc ms (F0 m pc ls st0) rest (va_Qi post B A1 a) (vx_X px BX AX) free) (hS : va_S A0 H0 H locs) (hA : ∀ q, q < H.size → A1 q → A0 q) (hf : ∀ q, free q → A0 q) (hAX : ∀ q, q < H.size → AX q → A0 q)
    (kx : ∀ (E : String) (ce : Cell) (q9 : Addr) (u : SX) (t : State) (H1 : Heap) (locs1 : List Loc), t.heap = H1 → s.vm.Alike t.vm → px u → BX E u t → H.size ≤ H1.size → (∀ q : Nat, q < H.size → ¬ AX q → H1[q]? = H[q]?) → va_S A0 H0 H1 locs1 → H1[q9]? = some ce → ce.vm = .none → s.vm.findClass E = some ce.cls → vx_W p l e R s m args below meth c H1 locs1 (cells + mc) (slots + ms) Q (F0 m pc ls rest) q9)
    (kk : ∀ (r : Int32) (u : S) (t : State) (H1 : Heap) (locs1 : List Loc), t.heap = H1 → s.vm.Alike t.vm → post r u → B u t → H.size ≤ H1.size → (∀ q : Nat, q < H.size → ¬ A1 q → H1[q]? = H[q]?) → va_S A0 H0 H1 locs1 → W p l e R s m args below meth c H1 locs1 (cells + mc) (slots + ms) Q (F0 m (pc + 3) ls (.int r :: rest))) : W p l e R s m args below meth c H locs cells slots Q (F0 m pc ls st0) := by
  intro T hT X
  rcases hr T hT X with ⟨v, st₀, t, T', L, h0, X', hL, e1, e2, ⟨⟨r, u, hv, hp, hb⟩, hF⟩, st⟩ | ⟨q, st₀, t, T', L, E, ce, h0, X', hL, e1, e2, ⟨u, hp, hb, hF⟩, hce, hcv, hcl, st⟩
  · cases hv
    obtain ⟨k1, k2, k3⟩ := vx_keep h0 e1 hS hA hf hL hF
    obtain ⟨t2, a1, b1⟩ := kk r u t T'.heap (locs ++ L) e1.symm (by rw [← e2]; exact X'.warmed.alike) hp hb k1 k2 k3 T' rfl X'
    exact ⟨t2, st t2 a1, b1⟩
  · obtain ⟨k1, k2, k3⟩ := vx_keep h0 e1 hS hAX hf hL hF
    obtain ⟨t2, a1, b1⟩ := kx E ce q u t T'.heap (locs ++ L) e1.symm (by rw [← e2]; exact X'.warmed.alike) hp hb k1 k2 k3 (by rw [e1]; exact hce) hcv hcl T' rfl X'
    exact ⟨t2, st.trans a1, b1⟩
theorem vx_calll {S SX : Type} {post : Int64 → S → Prop} {px : SX → Prop} {B : S → State → Prop} {BX : String → SX → State → Prop} {AX : Nat → Prop} (hr : vx_Run p l e R s m args below meth c H locs cells slots mc ms (F0 m pc ls st0) rest (va_Ql post B A1 a) (vx_X px BX AX) free) (hS : va_S A0 H0 H locs) (hA : ∀ q, q < H.size → A1 q → A0 q) (hf : ∀ q, free q → A0 q) (hAX : ∀ q, q < H.size → AX q → A0 q)
    (kx : ∀ (E : String) (ce : Cell) (q9 : Addr) (u : SX) (t : State) (H1 : Heap) (locs1 : List Loc), t.heap = H1 → s.vm.Alike t.vm → px u → BX E u t → H.size ≤ H1.size → (∀ q : Nat, q < H.size → ¬ AX q → H1[q]? = H[q]?) → va_S A0 H0 H1 locs1 → H1[q9]? = some ce → ce.vm = .none → s.vm.findClass E = some ce.cls → vx_W p l e R s m args below meth c H1 locs1 (cells + mc) (slots + ms) Q (F0 m pc ls rest) q9)
    (kk : ∀ (r : Int64) (u : S) (t : State) (H1 : Heap) (locs1 : List Loc), t.heap = H1 → s.vm.Alike t.vm → post r u → B u t → H.size ≤ H1.size → (∀ q : Nat, q < H.size → ¬ A1 q → H1[q]? = H[q]?) → va_S A0 H0 H1 locs1 → W p l e R s m args below meth c H1 locs1 (cells + mc) (slots + ms) Q (F0 m (pc + 3) ls (.long r :: rest))) : W p l e R s m args below meth c H locs cells slots Q (F0 m pc ls st0) := by
  intro T hT X
  rcases hr T hT X with ⟨v, st₀, t, T', L, h0, X', hL, e1, e2, ⟨⟨r, u, hv, hp, hb⟩, hF⟩, st⟩ | ⟨q, st₀, t, T', L, E, ce, h0, X', hL, e1, e2, ⟨u, hp, hb, hF⟩, hce, hcv, hcl, st⟩
  · cases hv
    obtain ⟨k1, k2, k3⟩ := vx_keep h0 e1 hS hA hf hL hF
    obtain ⟨t2, a1, b1⟩ := kk r u t T'.heap (locs ++ L) e1.symm (by rw [← e2]; exact X'.warmed.alike) hp hb k1 k2 k3 T' rfl X'
    exact ⟨t2, st t2 a1, b1⟩
  · obtain ⟨k1, k2, k3⟩ := vx_keep h0 e1 hS hAX hf hL hF
    obtain ⟨t2, a1, b1⟩ := kx E ce q u t T'.heap (locs ++ L) e1.symm (by rw [← e2]; exact X'.warmed.alike) hp hb k1 k2 k3 (by rw [e1]; exact hce) hcv hcl T' rfl X'
    exact ⟨t2, st.trans a1, b1⟩
theorem vx_callf {S SX : Type} {post : UInt32 → S → Prop} {px : SX → Prop} {B : S → State → Prop} {BX : String → SX → State → Prop} {AX : Nat → Prop} (hr : vx_Run p l e R s m args below meth c H locs cells slots mc ms (F0 m pc ls st0) rest (va_Qf post B A1 a) (vx_X px BX AX) free) (hS : va_S A0 H0 H locs) (hA : ∀ q, q < H.size → A1 q → A0 q) (hf : ∀ q, free q → A0 q) (hAX : ∀ q, q < H.size → AX q → A0 q)
    (kx : ∀ (E : String) (ce : Cell) (q9 : Addr) (u : SX) (t : State) (H1 : Heap) (locs1 : List Loc), t.heap = H1 → s.vm.Alike t.vm → px u → BX E u t → H.size ≤ H1.size → (∀ q : Nat, q < H.size → ¬ AX q → H1[q]? = H[q]?) → va_S A0 H0 H1 locs1 → H1[q9]? = some ce → ce.vm = .none → s.vm.findClass E = some ce.cls → vx_W p l e R s m args below meth c H1 locs1 (cells + mc) (slots + ms) Q (F0 m pc ls rest) q9)
    (kk : ∀ (r : UInt32) (u : S) (t : State) (H1 : Heap) (locs1 : List Loc), t.heap = H1 → s.vm.Alike t.vm → post r u → B u t → H.size ≤ H1.size → (∀ q : Nat, q < H.size → ¬ A1 q → H1[q]? = H[q]?) → va_S A0 H0 H1 locs1 → W p l e R s m args below meth c H1 locs1 (cells + mc) (slots + ms) Q (F0 m (pc + 3) ls (.float r :: rest))) : W p l e R s m args below meth c H locs cells slots Q (F0 m pc ls st0) := by
  intro T hT X
  rcases hr T hT X with ⟨v, st₀, t, T', L, h0, X', hL, e1, e2, ⟨⟨r, u, hv, hp, hb⟩, hF⟩, st⟩ | ⟨q, st₀, t, T', L, E, ce, h0, X', hL, e1, e2, ⟨u, hp, hb, hF⟩, hce, hcv, hcl, st⟩
  · cases hv
    obtain ⟨k1, k2, k3⟩ := vx_keep h0 e1 hS hA hf hL hF
    obtain ⟨t2, a1, b1⟩ := kk r u t T'.heap (locs ++ L) e1.symm (by rw [← e2]; exact X'.warmed.alike) hp hb k1 k2 k3 T' rfl X'
    exact ⟨t2, st t2 a1, b1⟩
  · obtain ⟨k1, k2, k3⟩ := vx_keep h0 e1 hS hAX hf hL hF
    obtain ⟨t2, a1, b1⟩ := kx E ce q u t T'.heap (locs ++ L) e1.symm (by rw [← e2]; exact X'.warmed.alike) hp hb k1 k2 k3 (by rw [e1]; exact hce) hcv hcl T' rfl X'
    exact ⟨t2, st.trans a1, b1⟩
theorem vx_calld {S SX : Type} {post : UInt64 → S → Prop} {px : SX → Prop} {B : S → State → Prop} {BX : String → SX → State → Prop} {AX : Nat → Prop} (hr : vx_Run p l e R s m args below meth c H locs cells slots mc ms (F0 m pc ls st0) rest (va_Qd post B A1 a) (vx_X px BX AX) free) (hS : va_S A0 H0 H locs) (hA : ∀ q, q < H.size → A1 q → A0 q) (hf : ∀ q, free q → A0 q) (hAX : ∀ q, q < H.size → AX q → A0 q)
    (kx : ∀ (E : String) (ce : Cell) (q9 : Addr) (u : SX) (t : State) (H1 : Heap) (locs1 : List Loc), t.heap = H1 → s.vm.Alike t.vm → px u → BX E u t → H.size ≤ H1.size → (∀ q : Nat, q < H.size → ¬ AX q → H1[q]? = H[q]?) → va_S A0 H0 H1 locs1 → H1[q9]? = some ce → ce.vm = .none → s.vm.findClass E = some ce.cls → vx_W p l e R s m args below meth c H1 locs1 (cells + mc) (slots + ms) Q (F0 m pc ls rest) q9)
    (kk : ∀ (r : UInt64) (u : S) (t : State) (H1 : Heap) (locs1 : List Loc), t.heap = H1 → s.vm.Alike t.vm → post r u → B u t → H.size ≤ H1.size → (∀ q : Nat, q < H.size → ¬ A1 q → H1[q]? = H[q]?) → va_S A0 H0 H1 locs1 → W p l e R s m args below meth c H1 locs1 (cells + mc) (slots + ms) Q (F0 m (pc + 3) ls (.double r :: rest))) : W p l e R s m args below meth c H locs cells slots Q (F0 m pc ls st0) := by
  intro T hT X
  rcases hr T hT X with ⟨v, st₀, t, T', L, h0, X', hL, e1, e2, ⟨⟨r, u, hv, hp, hb⟩, hF⟩, st⟩ | ⟨q, st₀, t, T', L, E, ce, h0, X', hL, e1, e2, ⟨u, hp, hb, hF⟩, hce, hcv, hcl, st⟩
  · cases hv
    obtain ⟨k1, k2, k3⟩ := vx_keep h0 e1 hS hA hf hL hF
    obtain ⟨t2, a1, b1⟩ := kk r u t T'.heap (locs ++ L) e1.symm (by rw [← e2]; exact X'.warmed.alike) hp hb k1 k2 k3 T' rfl X'
    exact ⟨t2, st t2 a1, b1⟩
  · obtain ⟨k1, k2, k3⟩ := vx_keep h0 e1 hS hAX hf hL hF
    obtain ⟨t2, a1, b1⟩ := kx E ce q u t T'.heap (locs ++ L) e1.symm (by rw [← e2]; exact X'.warmed.alike) hp hb k1 k2 k3 (by rw [e1]; exact hce) hcv hcl T' rfl X'
    exact ⟨t2, st.trans a1, b1⟩
theorem vx_callv {S SX : Type} {post : S → Prop} {px : SX → Prop} {B : S → State → Prop} {BX : String → SX → State → Prop} {AX : Nat → Prop} (hr : vx_Run p l e R s m args below meth c H locs cells slots mc ms (F0 m pc ls st0) rest (va_Qv post B A1 a) (vx_X px BX AX) free) (hS : va_S A0 H0 H locs) (hA : ∀ q, q < H.size → A1 q → A0 q) (hf : ∀ q, free q → A0 q) (hAX : ∀ q, q < H.size → AX q → A0 q)
    (kx : ∀ (E : String) (ce : Cell) (q9 : Addr) (u : SX) (t : State) (H1 : Heap) (locs1 : List Loc), t.heap = H1 → s.vm.Alike t.vm → px u → BX E u t → H.size ≤ H1.size → (∀ q : Nat, q < H.size → ¬ AX q → H1[q]? = H[q]?) → va_S A0 H0 H1 locs1 → H1[q9]? = some ce → ce.vm = .none → s.vm.findClass E = some ce.cls → vx_W p l e R s m args below meth c H1 locs1 (cells + mc) (slots + ms) Q (F0 m pc ls rest) q9)
    (kk : ∀ (u : S) (t : State) (H1 : Heap) (locs1 : List Loc), t.heap = H1 → s.vm.Alike t.vm → post u → B u t → H.size ≤ H1.size → (∀ q : Nat, q < H.size → ¬ A1 q → H1[q]? = H[q]?) → va_S A0 H0 H1 locs1 → W p l e R s m args below meth c H1 locs1 (cells + mc) (slots + ms) Q (F0 m (pc + 3) ls (rest))) : W p l e R s m args below meth c H locs cells slots Q (F0 m pc ls st0) := by
  intro T hT X
  rcases hr T hT X with ⟨v, st₀, t, T', L, h0, X', hL, e1, e2, ⟨⟨u, hv, hp, hb⟩, hF⟩, st⟩ | ⟨q, st₀, t, T', L, E, ce, h0, X', hL, e1, e2, ⟨u, hp, hb, hF⟩, hce, hcv, hcl, st⟩
  · cases hv
    obtain ⟨k1, k2, k3⟩ := vx_keep h0 e1 hS hA hf hL hF
    obtain ⟨t2, a1, b1⟩ := kk u t T'.heap (locs ++ L) e1.symm (by rw [← e2]; exact X'.warmed.alike) hp hb k1 k2 k3 T' rfl X'
    exact ⟨t2, st t2 a1, b1⟩
  · obtain ⟨k1, k2, k3⟩ := vx_keep h0 e1 hS hAX hf hL hF
    obtain ⟨t2, a1, b1⟩ := kx E ce q u t T'.heap (locs ++ L) e1.symm (by rw [← e2]; exact X'.warmed.alike) hp hb k1 k2 k3 (by rw [e1]; exact hce) hcv hcl T' rfl X'
    exact ⟨t2, st.trans a1, b1⟩
/-- caught by the row x of this method's table; the rows ahead don't take it -/
theorem vx_catch {own name : String} {E : String} {ce : Cell} {q : Addr} (hown : s.vm.findClass own = some m.cls) (pre : List ExceptionTableEntry) (x : ExceptionTableEntry) (suf : List ExceptionTableEntry) (hsplit : c.exceptionTable.toList = pre ++ x :: suf)
    (hpass : ∀ z ∈ pre, covers z pc = false ∨ (z.catchType ≠ 0 ∧ ∃ nm : String, (Cond.classLink own z.catchType nm).before args s = true ∧ va_Nc E nm s)) (hx : covers x pc = true) (h0 : x.catchType ≠ 0)
    (hlink : (Cond.classLink own x.catchType name).before args s = true) (hcast : (Cond.castable E name).before args s = true) (hcell : H[q]? = some ce) (hv : ce.vm = .none) (hcl : s.vm.findClass E = some ce.cls)
    (kk : W p l e R s m args below meth c H locs cells slots Q (F0 m x.handlerPc ls [.ref q])) : vx_W p l e R s m args below meth c H locs cells slots Q (F0 m pc ls rest) q := by
  intro T hT X
  have hpl : e.platform.magicAccessors = ({} : Platform).magicAccessors := by rw [X.admits.platform]
  obtain ⟨c3, c4, hc3, hc4, hasg⟩ := Cond.castable_spec hcast
  cases Option.some.inj (hc3.symm.trans hcl)
  obtain ⟨c5, hc5, hcl5⟩ := Cond.classLink_spec hown hlink e.platform hpl
  cases Option.some.inj (hc4.symm.trans hc5)
  obtain ⟨vm', X', st⟩ := X.thenCaughtThrough q (g := F0 m pc ls rest) rfl (Steps.refl _) (by rw [hT]; exact hcell) (by rw [hv]; rfl) (by obtain ⟨k9, h9, -⟩ := Vm.findClass_spec hcl; exact ⟨k9, h9⟩) pre x suf hsplit
    (fun z hz => by
      rcases hpass z hz with h | ⟨hz0, nm, hl1, hn1⟩
      · exact Or.inl h
      · obtain ⟨c6, hc6, hcl6⟩ := Cond.classLink_spec hown hl1 e.platform hpl
        obtain ⟨a8, b8, h1, h2, h3⟩ := hn1
        cases Option.some.inj (h1.symm.trans hcl)
        cases Option.some.inj (h2.symm.trans hc6)
        exact Or.inr ⟨hz0, _, hcl6, h3⟩) hx (Or.inr ⟨h0, c4, hcl5, hasg⟩)
  obtain ⟨t, a1, b1⟩ := kk (T.setVm vm') hT X'
  exact ⟨t, st.trans a1, b1⟩
end Rows
section Ends
variable {p : Program} {l : Launch} {e : Env} {R : Room} {s : State} {m : MethodId} {args : Array Value} {below : List Frame} {meth : Method} {c : Code} {H : Heap} {locs : List Loc} {cells slots : Nat} {Q : State → Prop}
variable {mc ms : Nat} {free : Addr → Prop} {A0 A1 : Nat → Prop} {H0 : Heap} {a : Array Value} {ls : Array Slot} {st0 rest : List Value}
variable {Qc : Array Value → State → Outcome → State → Prop} {XC : String → State → State → Prop}
/-- what a body that may throw owes at its end -/
def vx_MQ (below : List Frame) (Qc : Array Value → State → Outcome → State → Prop) (XC : String → State → State → Prop) (a : Array Value) (s : State) (mc ms : Nat) (free : Addr → Prop) : State → Prop := fun t =>
  ∃ o, t.status = .running ∧ Ended t below o ∧ vx_Q Qc XC mc ms free a s o t
theorem vx_ret {g : JFrame} {mc ms : Nat} (k : W p l e R s m args below meth c H locs cells slots (MQ below Qc args s mc ms free) g) : W p l e R s m args below meth c H locs cells slots (vx_MQ below Qc XC args s mc ms free) g := by
  intro T hT X
  obtain ⟨t, a1, o, b1, b2, b3, b4⟩ := k T hT X
  exact ⟨t, a1, o, b1, b2, Or.inl ⟨b3, b4⟩⟩
/-- not caught here: it goes on to the caller -/
theorem vx_widen {g : JFrame} {q : Addr} {k n : Nat} (h1 : cells ≤ k) (h2 : slots ≤ n) (kk : vx_W p l e R s m args below meth c H locs k n Q g q) : vx_W p l e R s m args below meth c H locs cells slots Q g q := fun T hT X => kk T hT (stand_widen X h1 h2)
theorem vx_out {pc : Nat} {E : String} {ce : Cell} {q : Addr} {mc ms : Nat} (hout : ∀ x ∈ c.exceptionTable.toList, covers x pc = false) (hlocks : meth.locks = false) (hcell : H[q]? = some ce) (hv : ce.vm = .none) (hcl : s.vm.findClass E = some ce.cls)
    (hx : ∀ t : State, t.heap = H → s.vm.Alike t.vm → XC E s t) (hf : ∀ z ∈ locs, free z.base) (hc : cells ≤ mc) (hs : slots ≤ ms) :
    vx_W p l e R s m args below meth c H locs cells slots (vx_MQ below Qc XC args s mc ms free) (F0 m pc ls rest) q := by
  intro T hT X
  obtain ⟨st1, hrun, hend, hW, hsm⟩ := X.leaveThrown q (g := F0 m pc ls rest) rfl rfl rfl hout hlocks
  have hcell9 : (T.setFrames (.throwing q :: below)).heap[q]? = some ce := by
    show T.heap[q]? = some ce
    rw [hT]; exact hcell
  exact ⟨_, st1, .threw q, hrun, hend, Or.inr ⟨q, rfl, E, ce, locs, hx _ hT hW.alike, hcell9, hv, hcl, hW, hsm.mono hc hs, hf⟩⟩
theorem vx_frame {U : State} {k n : Nat} (h : s.sameButNew ({ U with vm := s.vm } : State) locs k n) : s.heap.size ≤ U.heap.size ∧ ∀ q : Nat, q < s.heap.size → (∀ z ∈ locs, z.base ≠ q) → U.heap[q]? = s.heap[q]? := by
  obtain ⟨-, h2, -, -, -, h6⟩ := h
  refine ⟨h2, fun q hq hz => ?_⟩
  obtain ⟨c9, e1, e2, e3, e4⟩ := h6 q _ (Array.getElem?_eq_getElem hq)
  have hs : c9.slots = (s.heap[q]).slots := Array.ext_getElem? fun i => e4 i fun hm => hz _ hm rfl
  have h9 : c9 = s.heap[q] := by
    rw [hs] at e2
    exact e2
  have e5 : U.heap[q]? = some c9 := e1
  rw [e5, h9, Array.getElem?_eq_getElem hq]
/-- the words of a throw but the four that speak of the heap -/
def vx_no (w : Cond) : Bool := decide (w ≠ .isRef (.static Bundle.tN "UNASSIGNED_STACK" Bundle.steD)) && decide (w ≠ .isRef (.static Bundle.tN "SUPPRESSED_SENTINEL" Bundle.listD)) && decide (w ≠ .laysStatic Bundle.tN "UNASSIGNED_STACK" Bundle.steD) && decide (w ≠ .laysStatic Bundle.tN "SUPPRESSED_SENTINEL" Bundle.listD)
def vx_at0 (own : String) (ic : Nat) (X : String) (names : List String) : List Cond := (Bundle.ownAtoms0 own ic X names).filter vx_no
def vx_atS (own : String) (ic : Nat) (X : String) (names : List String) : List Cond := (Bundle.ownAtoms own ic X names).filter vx_no
/-- a word that the tables alone decide, or a good one -/
def vx_ot (w : Cond) : Bool := w.onTables || goodWord w
theorem vx_ot_at {args a' : Array Value} {s U : State} {w : Cond} (hW : s.WarmedH U.vm) (hvm : s.vm = U.vm) (hg : vx_ot w = true) (h : w.before args s = true) : w.before a' U = true := by
  simp only [vx_ot, Bool.or_eq_true] at hg
  rcases hg with hg | hg
  · exact va_tabs hg hvm h
  · exact word_at hW (good_of_word hg) h
/-- a list's words: the good ones out of the method's own list, the others by premises of their own -/
theorem vx_hat {args : Array Value} {s : State} {L B : List Cond} (h1 : ∀ w ∈ L.filter goodWord, w.before args s = true) (h2 : ∀ w ∈ L.filter (fun w => !goodWord w), w ∈ B) (h3 : ∀ w ∈ B, w.before args s = true) : ∀ w ∈ L, w.before args s = true := by
  intro w hw
  by_cases g : goodWord w = true
  · exact h1 w (List.mem_filter.mpr ⟨hw, g⟩)
  · refine h3 w (h2 w (List.mem_filter.mpr ⟨hw, ?_⟩))
    show (!goodWord w) = true
    cases hgw : goodWord w
    · rfl
    · exact absurd hgw g
theorem vx_c {args : Array Value} {s : State} {w : Cond} {B : List Cond} (h : w.before args s = true) (t : ∀ w ∈ B, w.before args s = true) : ∀ w' ∈ w :: B, w'.before args s = true := fun w' h' => (List.mem_cons.mp h').elim (fun e => by rw [e]; exact h) (t w')
theorem vx_n {args : Array Value} {s : State} : ∀ w ∈ ([] : List Cond), w.before args s = true := fun _ h => nomatch h
theorem vx_own {args : Array Value} {s : State} {L : List Cond} (h1 : ∀ w ∈ L.filter vx_no, w.before args s = true)
    (hU : (Cond.isRef (.static Bundle.tN "UNASSIGNED_STACK" Bundle.steD)).before args s = true) (hN : (Cond.isRef (.static Bundle.tN "SUPPRESSED_SENTINEL" Bundle.listD)).before args s = true)
    (lU : (Cond.laysStatic Bundle.tN "UNASSIGNED_STACK" Bundle.steD).before args s = true) (lN : (Cond.laysStatic Bundle.tN "SUPPRESSED_SENTINEL" Bundle.listD).before args s = true) : ∀ w ∈ L, w.before args s = true := by
  intro w hw
  by_cases e1 : w = .isRef (.static Bundle.tN "UNASSIGNED_STACK" Bundle.steD)
  · rw [e1]; exact hU
  · by_cases e2 : w = .isRef (.static Bundle.tN "SUPPRESSED_SENTINEL" Bundle.listD)
    · rw [e2]; exact hN
    · by_cases e3 : w = .laysStatic Bundle.tN "UNASSIGNED_STACK" Bundle.steD
      · rw [e3]; exact lU
      · by_cases e4 : w = .laysStatic Bundle.tN "SUPPRESSED_SENTINEL" Bundle.listD
        · rw [e4]; exact lN
        · exact h1 w (List.mem_filter.mpr ⟨hw, by unfold vx_no; rw [decide_eq_true e1, decide_eq_true e2, decide_eq_true e3, decide_eq_true e4]; rfl⟩)
/-- where a static field lies, its class's statics cell in H -/
def vx_L (C n d : String) (A : Nat → Prop) (U : State) (H : Heap) : Prop := ∃ (c : ClassId) (k : Class) (i : Nat) (f : Field) (a : Nat) (cell : Cell), U.vm.findClass C = some c ∧ U.fieldFound? C n d = some (c, k, i, f) ∧ f.isStatic = true ∧ k.statics = some a ∧ H[a]? = some cell ∧ cell.vm.isStatics = true ∧ cell.cls = c ∧ f.slot < cell.slots.size ∧ k.staticTypes[f.slot]? = some f.type ∧ ¬ A a
theorem vx_L.moved {C n d : String} {A : Nat → Prop} {u U : State} {H : Heap} (hvm : u.vm.Alike U.vm) (h : vx_L C n d A u H) : vx_L C n d A U H := by
  obtain ⟨c, k, i, f, a, cell, h1, h2, h3, h4, h5, h6, h7, h8, h9, h10⟩ := h
  obtain ⟨k', hi', he⟩ := State.fieldFound?_setVm hvm h2
  exact ⟨c, k', i, f, a, cell, by rw [hvm.findClass]; exact h1, hi', h3, by rw [he]; exact h4, h5, h6, h7, h8, by rw [he]; exact h9, h10⟩
theorem vx_L.kept {C n d : String} {A : Nat → Prop} {U : State} {H H1 : Heap} (h : vx_L C n d A U H) (hq : ∀ a : Nat, a < H.size → ¬ A a → H1[a]? = H[a]?) : vx_L C n d A U H1 := by
  obtain ⟨c, k, i, f, a, cell, h1, h2, h3, h4, h5, h6, h7, h8, h9, h10⟩ := h
  exact ⟨c, k, i, f, a, cell, h1, h2, h3, h4, by rw [hq a (Array.getElem?_eq_some_iff.mp h5).1 h10]; exact h5, h6, h7, h8, h9, h10⟩
theorem vx_L.narrow {C n d : String} {A B : Nat → Prop} {U : State} {H : Heap} (h : vx_L C n d A U H) (hAB : ∀ q, B q → A q) : vx_L C n d B U H := by
  obtain ⟨c, k, i, f, a, cell, h1, h2, h3, h4, h5, h6, h7, h8, h9, h10⟩ := h
  exact ⟨c, k, i, f, a, cell, h1, h2, h3, h4, h5, h6, h7, h8, h9, fun z => h10 (hAB _ z)⟩
theorem vx_L.word {C n d : String} {A : Nat → Prop} {s : State} {args : Array Value} (h : vx_L C n d A s s.heap) : (Cond.laysStatic C n d).before args s = true := by
  obtain ⟨c, k, i, f, a, cell, h1, h2, h3, h4, h5, h6, h7, h8, h9, -⟩ := h
  show (Cond.laysStatic C n d).holds args s none s [] = true
  exact Cond.laysStatic_of h1 h2 h3 h4 h5 h6 h7 h8 h9
/-- .. and what it holds: null or some reference -/
def vx_Zq (C n d : String) (A : Nat → Prop) (U : State) (H : Heap) : Prop := va_Zq C n d A U H ∧ vx_L C n d A U H
theorem vx_Zq.moved {C n d : String} {A : Nat → Prop} {u U : State} {H : Heap} (hvm : u.vm.Alike U.vm) (h : vx_Zq C n d A u H) : vx_Zq C n d A U H := ⟨va_Zq.moved hvm h.1, vx_L.moved hvm h.2⟩
theorem vx_Zq.kept {C n d : String} {A : Nat → Prop} {U : State} {H H1 : Heap} (h : vx_Zq C n d A U H) (hq : ∀ a : Nat, a < H.size → ¬ A a → H1[a]? = H[a]?) : vx_Zq C n d A U H1 := ⟨va_Zq.kept h.1 hq, vx_L.kept h.2 hq⟩
theorem vx_Zq.narrow {C n d : String} {A B : Nat → Prop} {U : State} {H : Heap} (h : vx_Zq C n d A U H) (hAB : ∀ q, B q → A q) : vx_Zq C n d B U H := ⟨va_Zq.narrow h.1 hAB, vx_L.narrow h.2 hAB⟩
theorem vx_Zqof {args : Array Value} {s : State} {C n d : String} {A : Nat → Prop} (hl : (Cond.laysStatic C n d).before args s = true) (hini : (Cond.initialized C).before args s = true) (h : (Cond.isRef (.static C n d)).before args s = true) (hA : ∀ a : Nat, a < s.heap.size → ¬ A a) : vx_Zq C n d A s s.heap := by
  refine ⟨va_Zqof hl hini h hA, ?_⟩
  obtain ⟨c, k, i, f, a, cell, h1, h2, h3, h4, h5, h6, h7, h8, h9⟩ := Cond.laysStatic_spec hl
  exact ⟨c, k, i, f, a, cell, h1, h2, h3, h4, h5, h6, h7, h8, h9, hA a (Array.getElem?_eq_some_iff.mp h5).1⟩
theorem vx_isRef {C n d : String} {v : Value} {A : Nat → Prop} {s : State} {args : Array Value} (h : va_Z C n d v A s s.heap) (hv : v.isRef = true) : (Cond.isRef (.static C n d)).before args s = true := by
  obtain ⟨cf, kf, fi, f, a, cell, h1, h2, h3, h4, h5, h6, h7, -⟩ := h
  have he : (Term.static C n d).eval args s none [] s = some v := by
    simp [Term.eval, State.fieldNamed?, h1, h2, h4, h5, h6, h7]
  simp only [Cond.before, Cond.holds, Cond.value, he]
  cases v <;> simp_all [Value.isRef]
theorem vx_isRefq {C n d : String} {A : Nat → Prop} {s : State} {args : Array Value} (h : va_Zq C n d A s s.heap) : (Cond.isRef (.static C n d)).before args s = true := by
  rcases h with h | ⟨t, h⟩
  · exact vx_isRef h rfl
  · exact vx_isRef h rfl
/-- the same frame, seen from here: as if the method were called anew in this heap -/
theorem vx_rebase {T : State} (X : Stand p l e R s m args below meth c T locs cells slots) {R' : Room} (hf : R'.frames ≤ R.frames) (hl : R'.locals ≤ R.locals) (hc : cells + R'.cells ≤ R.cells) (hs : slots + R'.slots ≤ R.slots) :
    Stand p l e R' ((T.setVm s.vm).setFrames (.invoking m args :: below)) m args below meth c T [] 0 0 := by
  have htop : (T.setVm s.vm).topJava?.isSome := X.here.top
  have hF : ((T.setVm s.vm).setFrames (.invoking m args :: below)).frames = .invoking m args :: below := State.frames_setFrames _ (State.cur_lt_of_top htop)
  obtain ⟨g₀, hg0⟩ := Option.isSome_iff_exists.mp htop
  obtain ⟨r, hr⟩ := State.topJava?_eq_some.mp hg0
  have hl9 : e.platform.stackLimits (T.setVm s.vm).me = e.platform.stackLimits s.me := X.limits
  have hb9 : (T.setVm s.vm).me.stackBytes = s.me.stackBytes := X.bytes
  refine ⟨X.admits, X.cas, X.clock, hF, ?_, X.hears, X.method, X.code, X.here, X.tail, X.warmed, ?_, ?_, ?_⟩
  · have h := X.room
    have hU : ((T.setVm s.vm).setFrames (.invoking m args :: below)).localsInUse = s.localsInUse := by
      rw [State.localsInUse_invoking hF (meth := meth) (c := c) X.method X.code, State.localsInUse_invoking X.frames X.method X.code]
    simp only [State.hasRoom, Bool.and_eq_true, decide_eq_true_eq] at h ⊢
    obtain ⟨⟨⟨⟨h1, h2, h3, h4, h5, h6⟩, h7⟩, h8⟩, h9⟩ := h
    rw [X.frames, List.length_cons] at h2 h3
    have q1 := X.heapSize
    have q2 := X.used
    simp only [hF, hU, List.length_cons, State.stackLimits_setFrames, State.stackBytes_setFrames, hl9, hb9]
    refine ⟨⟨⟨⟨by omega, by omega, by omega, by omega, by omega, h6⟩, ?_⟩, ?_⟩, X.book⟩
    · show T.heap.size + R'.cells ≤ e.platform.maxCells
      omega
    · show T.slotsUsed + R'.slots ≤ e.platform.maxSlots
      omega
  · rw [State.stackLimits_setFrames]; rfl
  · rw [State.stackBytes_setFrames]; rfl
  · refine ⟨?_, Nat.le_refl _, Nat.le_refl _, ?_, ?_, fun a c9 h9 => ⟨c9, h9, rfl, rfl, fun _ _ => rfl⟩⟩
    · obtain ⟨t, ht, -⟩ := State.frames_cons hr
      show T.setVm s.vm = { ((T.setVm s.vm).setFrames (.invoking m args :: below)).setFrames (T.setVm s.vm).frames with heap := T.heap, slotsUsed := T.slotsUsed }
      rw [State.setFrames_setFrames, State.setFrames_self ht]
      rfl
    · show T.slotsUsed = T.slotsUsed + ((T.heap.toList.drop T.heap.size).map (·.slots.size)).sum
      rw [List.drop_eq_nil_of_le (Nat.le_of_eq Array.length_toList)]
      rfl
    · show ((T.heap.toList.drop T.heap.size).map (·.slots.size)).sum ≤ 0
      rw [List.drop_eq_nil_of_le (Nat.le_of_eq Array.length_toList)]
      exact Nat.le_refl _
/-- 'throw new E()': new; dup; invokespecial; athrow -/
theorem vx_throw0 {cc : ByteArray} {pc : Nat} (hexec : p.tables.exec = Jvm.exec) (hb : c.code = cc) (hl : l.stackTraces = false) {own cls : String} {names : List String} {ik ic mc ms : Nat} {A : Nat → Prop}
    (hown : s.vm.findClass own = some m.cls) (hcls : Bundle.fit cls = true) (hnames : ∀ n ∈ names, Bundle.fit n = true)
    (hk : (Cond.classLink own ik cls).before args s = true) (hini : (Cond.initialized cls).before args s = true) (hat : ∀ w ∈ vx_at0 own ic cls names, w.before args s = true)
    (hgood : ∀ w ∈ Cond.classLink own ik cls :: Cond.initialized cls :: vx_at0 own ic cls names, vx_ot w = true)
    (hU : vx_Zq Bundle.tN "UNASSIGNED_STACK" Bundle.steD A s s.heap) (hN : vx_Zq Bundle.tN "SUPPRESSED_SENTINEL" Bundle.listD A s s.heap) (hS : va_S A s.heap H locs) (hsize : ls.size = c.maxLocals)
    (d0 : decode cc pc = .ok (.new ik, 3)) (d3 : decode cc (pc + 3) = .ok (.dup, 1)) (d4 : decode cc (pc + 4) = .ok (.invokespecial ic, 3)) (d7 : decode cc (pc + 7) = .ok (.athrow, 1))
    (hout : ∀ x ∈ c.exceptionTable.toList, covers x (pc + 7) = false)
    (hRframes : names.length + 3 < R.frames) (hRlocals : (rest.map fun v => v.category).sum + (13 * (names.length + 1) + 42) ≤ R.locals) (hRcells : cells + 1 ≤ R.cells) (hRslots : slots + 6 ≤ R.slots) (hlocks : meth.locks = false)
    (hx : ∀ t : State, s.vm.Alike t.vm → H.size ≤ t.heap.size → (∀ q : Nat, q < H.size → t.heap[q]? = H[q]?) → XC cls s t)
    (hf : ∀ z ∈ locs, free z.base) (hc : cells + 1 ≤ mc) (hs : slots + 6 ≤ ms) :
    W p l e R s m args below meth c H locs cells slots (vx_MQ below Qc XC args s mc ms free) (F0 m pc ls rest) := by
  intro T hT X
  have htr : e.platform.stackTraces = false := (show e.platform.stackTraces = l.stackTraces by rw [X.admits.platform]).trans hl
  have Y := vx_rebase X (R' := { frames := R.frames, locals := R.locals, cells := 1, slots := 6 }) (Nat.le_refl _) (Nat.le_refl _) hRcells hRslots
  obtain ⟨s', hA⟩ : ∃ z, z = (T.setVm s.vm).setFrames (.invoking m args :: below) := ⟨_, rfl⟩
  rw [← hA] at Y
  have hvm : s'.vm = s.vm := by rw [hA]; rfl
  have hhp : s'.heap = H := by rw [hA]; exact hT
  have hW0 : s.WarmedH s'.vm := by rw [hvm]; exact State.WarmedH.refl s
  have hat' : ∀ w ∈ vx_at0 own ic cls names, w.before args s' = true := fun w hw => vx_ot_at hW0 hvm.symm (hgood w (List.mem_cons_of_mem _ (List.mem_cons_of_mem _ hw))) (hat w hw)
  have hk' : (Cond.classLink own ik cls).before args s' = true := vx_ot_at hW0 hvm.symm (hgood _ List.mem_cons_self) hk
  have hini' : (Cond.initialized cls).before args s' = true := vx_ot_at hW0 hvm.symm (hgood _ (List.mem_cons_of_mem _ List.mem_cons_self)) hini
  have hU' : vx_Zq Bundle.tN "UNASSIGNED_STACK" Bundle.steD A s' s'.heap := by rw [hhp]; exact vx_Zq.moved hW0.alike (hU.kept hS.2.1)
  have hN' : vx_Zq Bundle.tN "SUPPRESSED_SENTINEL" Bundle.listD A s' s'.heap := by rw [hhp]; exact vx_Zq.moved hW0.alike (hN.kept hS.2.1)
  have h : ∀ w ∈ Bundle.ownAtoms0 own ic cls names, w.before args s' = true := vx_own hat' (vx_isRefq hU'.1) (vx_isRefq hN'.1) hU'.2.word hN'.2.word
  have hown' : s'.vm.findClass own = some m.cls := by rw [hvm]; exact hown
  have hins : (Cond.instantiable cls 6).before args s' = true := h _ (by simp [Bundle.ownAtoms0])
  obtain ⟨vm₁, cX, kX, hfX, hkX, -, -, X₁, st1⟩ := Y.newCold hexec (own := own) (C := cls) (index := ik) (n := 6) hown' hk' hins hini'
    (g := F0 m pc ls rest) rfl (by rw [hb]; exact d0) (Nat.le_refl _) (Nat.le_refl _)
  generalize hT1 : (T.setVm vm₁).pushCell { cls := cX, slots := kX.instanceTypes.map defaultValue, vm := .none } = T1 at X₁ st1
  have hcat : (Value.ref T.heap.size).category = 1 := rfl
  have hcellA : T1.heap[T.heap.size]? = some (freshCell cX kX) := by rw [← hT1]; exact State.heap_pushCell_size _ _
  have d3' : decode c.code (pc + 3) = .ok (.dup, 1) := by rw [hb]; exact d3
  obtain ⟨U, hsteps, hrun, hend, hW, hsame, ce, hce, hO⟩ := X₁.ctorThrow0 hexec htr (own := own) (cls := cls) (names := names) (ic := ic) hown' hcls hnames h (fun x hx => nomatch hx) hfX hkX hcellA (by rw [hhp, hT]; exact Nat.le_refl _)
    (g := { method := m, pc := pc + 4, locals := ls, stack := .ref T.heap.size :: .ref T.heap.size :: rest, locked := none }) rfl hsize rfl rfl (rest := rest) rfl
    (by rw [hb]; exact d4) (by rw [hb]; exact d7) hout hRframes (by simp only [List.map_cons, List.sum_cons, hcat]; omega) hlocks
  obtain ⟨f1, f2⟩ := vx_frame hsame
  rw [hhp] at f1 f2
  have hWs : s.WarmedH U.vm := State.WarmedH.trans hW0 hW
  have hcl : s.vm.findClass cls = some ce.cls := by
    have h9 := hO.cls
    rw [hvm] at h9
    exact h9
  have hall : s.sameButNew ({ U with vm := s.vm } : State) locs mc ms := by
    subst hA
    obtain ⟨e1, e2⟩ := hsame
    rw [State.setFrames_setFrames] at e1
    have h2 : (T.setVm s.vm).sameButNew ({ U with vm := s.vm } : State) [] (0 + 1) (0 + 6) := ⟨e1, e2⟩
    have h3 := X.same.trans h2
    rw [List.append_nil] at h3
    exact h3.mono hc hs
  refine ⟨U, ?_, .threw T.heap.size, hrun, hend, Or.inr ⟨T.heap.size, rfl, cls, ce, locs, hx U hWs.alike f1 (fun q hq => f2 q hq (fun z hz => nomatch hz)), hce, hO.vm, hcl, hWs, hall, hf⟩⟩
  refine st1 _ ?_
  show Steps p.tables e below (T1.setTop { method := m, pc := pc + 3, locals := ls, stack := .ref T.heap.size :: rest, locked := none }) _
  jvm_step X₁.here [X₁.here.top, hexec, d3', Value.category]
  exact hsteps
/-- 'throw new E("text")': new; dup; ldc; invokespecial; athrow -/
theorem vx_throwS {cc : ByteArray} {pc : Nat} (hexec : p.tables.exec = Jvm.exec) (hb : c.code = cc) (hl : l.stackTraces = false) {own cls text : String} {names : List String} {ik is ic mc ms sa : Nat} {A : Nat → Prop}
    (hown : s.vm.findClass own = some m.cls) (hcls : Bundle.fit cls = true) (hnames : ∀ n ∈ names, Bundle.fit n = true)
    (hk : (Cond.classLink own ik cls).before args s = true) (hini : (Cond.initialized cls).before args s = true) (hstr : vk_R own is text sa s) (hat : ∀ w ∈ vx_atS own ic cls names, w.before args s = true)
    (hgood : ∀ w ∈ Cond.classLink own ik cls :: Cond.initialized cls :: vx_atS own ic cls names, vx_ot w = true)
    (hU : vx_Zq Bundle.tN "UNASSIGNED_STACK" Bundle.steD A s s.heap) (hN : vx_Zq Bundle.tN "SUPPRESSED_SENTINEL" Bundle.listD A s s.heap) (hS : va_S A s.heap H locs) (hsize : ls.size = c.maxLocals)
    (d0 : decode cc pc = .ok (.new ik, 3)) (d3 : decode cc (pc + 3) = .ok (.dup, 1)) (d4 : decode cc (pc + 4) = .ok (.ldc is, 2)) (d6 : decode cc (pc + 6) = .ok (.invokespecial ic, 3)) (d9 : decode cc (pc + 9) = .ok (.athrow, 1))
    (hout : ∀ x ∈ c.exceptionTable.toList, covers x (pc + 9) = false)
    (hRframes : names.length + 3 < R.frames) (hRlocals : (rest.map fun v => v.category).sum + (13 * (names.length + 1) + 43) ≤ R.locals) (hRcells : cells + 1 ≤ R.cells) (hRslots : slots + 6 ≤ R.slots) (hlocks : meth.locks = false)
    (hx : ∀ t : State, s.vm.Alike t.vm → H.size ≤ t.heap.size → (∀ q : Nat, q < H.size → t.heap[q]? = H[q]?) → XC cls s t)
    (hf : ∀ z ∈ locs, free z.base) (hc : cells + 1 ≤ mc) (hs : slots + 6 ≤ ms) :
    W p l e R s m args below meth c H locs cells slots (vx_MQ below Qc XC args s mc ms free) (F0 m pc ls rest) := by
  intro T hT X
  have htr : e.platform.stackTraces = false := (show e.platform.stackTraces = l.stackTraces by rw [X.admits.platform]).trans hl
  have Y := vx_rebase X (R' := { frames := R.frames, locals := R.locals, cells := 1, slots := 6 }) (Nat.le_refl _) (Nat.le_refl _) hRcells hRslots
  obtain ⟨s', hA⟩ : ∃ z, z = (T.setVm s.vm).setFrames (.invoking m args :: below) := ⟨_, rfl⟩
  rw [← hA] at Y
  have hvm : s'.vm = s.vm := by rw [hA]; rfl
  have hhp : s'.heap = H := by rw [hA]; exact hT
  have hW0 : s.WarmedH s'.vm := by rw [hvm]; exact State.WarmedH.refl s
  have hat' : ∀ w ∈ vx_atS own ic cls names, w.before args s' = true := fun w hw => vx_ot_at hW0 hvm.symm (hgood w (List.mem_cons_of_mem _ (List.mem_cons_of_mem _ hw))) (hat w hw)
  have hk' : (Cond.classLink own ik cls).before args s' = true := vx_ot_at hW0 hvm.symm (hgood _ List.mem_cons_self) hk
  have hini' : (Cond.initialized cls).before args s' = true := vx_ot_at hW0 hvm.symm (hgood _ (List.mem_cons_of_mem _ List.mem_cons_self)) hini
  have hU' : vx_Zq Bundle.tN "UNASSIGNED_STACK" Bundle.steD A s' s'.heap := by rw [hhp]; exact vx_Zq.moved hW0.alike (hU.kept hS.2.1)
  have hN' : vx_Zq Bundle.tN "SUPPRESSED_SENTINEL" Bundle.listD A s' s'.heap := by rw [hhp]; exact vx_Zq.moved hW0.alike (hN.kept hS.2.1)
  have h : ∀ w ∈ Bundle.ownAtoms own ic cls names, w.before args s' = true := vx_own hat' (vx_isRefq hU'.1) (vx_isRefq hN'.1) hU'.2.word hN'.2.word
  have hown' : s'.vm.findClass own = some m.cls := by rw [hvm]; exact hown
  have hins : (Cond.instantiable cls 6).before args s' = true := h _ (by simp [Bundle.ownAtoms])
  obtain ⟨vm₁, cX, kX, hfX, hkX, -, -, X₁, st1⟩ := Y.newCold hexec (own := own) (C := cls) (index := ik) (n := 6) hown' hk' hins hini'
    (g := F0 m pc ls rest) rfl (by rw [hb]; exact d0) (Nat.le_refl _) (Nat.le_refl _)
  generalize hT1 : (T.setVm vm₁).pushCell { cls := cX, slots := kX.instanceTypes.map defaultValue, vm := .none } = T1 at X₁ st1
  have hcat : (Value.ref T.heap.size).category = 1 := rfl
  have hcellA : T1.heap[T.heap.size]? = some (freshCell cX kX) := by rw [← hT1]; exact State.heap_pushCell_size _ _
  have d3' : decode c.code (pc + 3) = .ok (.dup, 1) := by rw [hb]; exact d3
  have d4' : decode c.code (pc + 4) = .ok (.ldc is, 2) := by rw [hb]; exact d4
  have hstr' : vk_R own is text sa s' := vk_R.warm hW0 hstr
  obtain ⟨U, hsteps, hrun, hend, hW, hsame, ce, hce, hO⟩ := X₁.ctorThrowS hexec htr (own := own) (cls := cls) (names := names) (ic := ic) hown' hcls hnames h (fun x hx => nomatch hx) hfX hkX hcellA (by rw [hhp, hT]; exact Nat.le_refl _) (msg := .ref sa) rfl
    (g := { method := m, pc := pc + 6, locals := ls, stack := .ref sa :: .ref T.heap.size :: .ref T.heap.size :: rest, locked := none }) rfl hsize rfl rfl (rest := rest) rfl
    (by rw [hb]; exact d6) (by rw [hb]; exact d9) hout hRframes (by simp only [List.map_cons, List.sum_cons, hcat]; omega) hlocks
  obtain ⟨f1, f2⟩ := vx_frame hsame
  rw [hhp] at f1 f2
  have hWs : s.WarmedH U.vm := State.WarmedH.trans hW0 hW
  have hcl : s.vm.findClass cls = some ce.cls := by
    have h9 := hO.cls
    rw [hvm] at h9
    exact h9
  have hall : s.sameButNew ({ U with vm := s.vm } : State) locs mc ms := by
    subst hA
    obtain ⟨e1, e2⟩ := hsame
    rw [State.setFrames_setFrames] at e1
    have h2 : (T.setVm s.vm).sameButNew ({ U with vm := s.vm } : State) [] (0 + 1) (0 + 6) := ⟨e1, e2⟩
    have h3 := X.same.trans h2
    rw [List.append_nil] at h3
    exact h3.mono hc hs
  refine ⟨U, ?_, .threw T.heap.size, hrun, hend, Or.inr ⟨T.heap.size, rfl, cls, ce, locs, hx U hWs.alike f1 (fun q hq => f2 q hq (fun z hz => nomatch hz)), hce, hO.vm, hcl, hWs, hall, hf⟩⟩
  refine st1 _ ?_
  show Steps p.tables e below (T1.setTop { method := m, pc := pc + 3, locals := ls, stack := .ref T.heap.size :: rest, locked := none }) _
  jvm_step X₁.here [X₁.here.top, hexec, d3', Value.category]
  exact X₁.ldcString hexec (own := own) (text := text) (index := is) (a := sa) hown' hstr'.1 hstr'.2
    (g := { method := m, pc := pc + 4, locals := ls, stack := .ref T.heap.size :: .ref T.heap.size :: rest, locked := none }) rfl d4' _ hsteps
/-- 'throw new E("text")', the text by a wide index -/
theorem vx_throwSW {cc : ByteArray} {pc : Nat} (hexec : p.tables.exec = Jvm.exec) (hb : c.code = cc) (hl : l.stackTraces = false) {own cls text : String} {names : List String} {ik is ic mc ms sa : Nat} {A : Nat → Prop}
    (hown : s.vm.findClass own = some m.cls) (hcls : Bundle.fit cls = true) (hnames : ∀ n ∈ names, Bundle.fit n = true)
    (hk : (Cond.classLink own ik cls).before args s = true) (hini : (Cond.initialized cls).before args s = true) (hstr : vk_R own is text sa s) (hat : ∀ w ∈ vx_atS own ic cls names, w.before args s = true)
    (hgood : ∀ w ∈ Cond.classLink own ik cls :: Cond.initialized cls :: vx_atS own ic cls names, vx_ot w = true)
    (hU : vx_Zq Bundle.tN "UNASSIGNED_STACK" Bundle.steD A s s.heap) (hN : vx_Zq Bundle.tN "SUPPRESSED_SENTINEL" Bundle.listD A s s.heap) (hS : va_S A s.heap H locs) (hsize : ls.size = c.maxLocals)
    (d0 : decode cc pc = .ok (.new ik, 3)) (d3 : decode cc (pc + 3) = .ok (.dup, 1)) (d4 : decode cc (pc + 4) = .ok (.ldc_w is, 3)) (d7 : decode cc (pc + 7) = .ok (.invokespecial ic, 3)) (d10 : decode cc (pc + 10) = .ok (.athrow, 1))
    (hout : ∀ x ∈ c.exceptionTable.toList, covers x (pc + 10) = false)
    (hRframes : names.length + 3 < R.frames) (hRlocals : (rest.map fun v => v.category).sum + (13 * (names.length + 1) + 43) ≤ R.locals) (hRcells : cells + 1 ≤ R.cells) (hRslots : slots + 6 ≤ R.slots) (hlocks : meth.locks = false)
    (hx : ∀ t : State, s.vm.Alike t.vm → H.size ≤ t.heap.size → (∀ q : Nat, q < H.size → t.heap[q]? = H[q]?) → XC cls s t)
    (hf : ∀ z ∈ locs, free z.base) (hc : cells + 1 ≤ mc) (hs : slots + 6 ≤ ms) :
    W p l e R s m args below meth c H locs cells slots (vx_MQ below Qc XC args s mc ms free) (F0 m pc ls rest) := by
  intro T hT X
  have htr : e.platform.stackTraces = false := (show e.platform.stackTraces = l.stackTraces by rw [X.admits.platform]).trans hl
  have Y := vx_rebase X (R' := { frames := R.frames, locals := R.locals, cells := 1, slots := 6 }) (Nat.le_refl _) (Nat.le_refl _) hRcells hRslots
  obtain ⟨s', hA⟩ : ∃ z, z = (T.setVm s.vm).setFrames (.invoking m args :: below) := ⟨_, rfl⟩
  rw [← hA] at Y
  have hvm : s'.vm = s.vm := by rw [hA]; rfl
  have hhp : s'.heap = H := by rw [hA]; exact hT
  have hW0 : s.WarmedH s'.vm := by rw [hvm]; exact State.WarmedH.refl s
  have hat' : ∀ w ∈ vx_atS own ic cls names, w.before args s' = true := fun w hw => vx_ot_at hW0 hvm.symm (hgood w (List.mem_cons_of_mem _ (List.mem_cons_of_mem _ hw))) (hat w hw)
  have hk' : (Cond.classLink own ik cls).before args s' = true := vx_ot_at hW0 hvm.symm (hgood _ List.mem_cons_self) hk
  have hini' : (Cond.initialized cls).before args s' = true := vx_ot_at hW0 hvm.symm (hgood _ (List.mem_cons_of_mem _ List.mem_cons_self)) hini
  have hU' : vx_Zq Bundle.tN "UNASSIGNED_STACK" Bundle.steD A s' s'.heap := by rw [hhp]; exact vx_Zq.moved hW0.alike (hU.kept hS.2.1)
  have hN' : vx_Zq Bundle.tN "SUPPRESSED_SENTINEL" Bundle.listD A s' s'.heap := by rw [hhp]; exact vx_Zq.moved hW0.alike (hN.kept hS.2.1)
  have h : ∀ w ∈ Bundle.ownAtoms own ic cls names, w.before args s' = true := vx_own hat' (vx_isRefq hU'.1) (vx_isRefq hN'.1) hU'.2.word hN'.2.word
  have hown' : s'.vm.findClass own = some m.cls := by rw [hvm]; exact hown
  have hins : (Cond.instantiable cls 6).before args s' = true := h _ (by simp [Bundle.ownAtoms])
  obtain ⟨vm₁, cX, kX, hfX, hkX, -, -, X₁, st1⟩ := Y.newCold hexec (own := own) (C := cls) (index := ik) (n := 6) hown' hk' hins hini'
    (g := F0 m pc ls rest) rfl (by rw [hb]; exact d0) (Nat.le_refl _) (Nat.le_refl _)
  generalize hT1 : (T.setVm vm₁).pushCell { cls := cX, slots := kX.instanceTypes.map defaultValue, vm := .none } = T1 at X₁ st1
  have hcat : (Value.ref T.heap.size).category = 1 := rfl
  have hcellA : T1.heap[T.heap.size]? = some (freshCell cX kX) := by rw [← hT1]; exact State.heap_pushCell_size _ _
  have d3' : decode c.code (pc + 3) = .ok (.dup, 1) := by rw [hb]; exact d3
  have d4' : decode c.code (pc + 4) = .ok (.ldc_w is, 3) := by rw [hb]; exact d4
  have hstr' : vk_R own is text sa s' := vk_R.warm hW0 hstr
  obtain ⟨U, hsteps, hrun, hend, hW, hsame, ce, hce, hO⟩ := X₁.ctorThrowS hexec htr (own := own) (cls := cls) (names := names) (ic := ic) hown' hcls hnames h (fun x hx => nomatch hx) hfX hkX hcellA (by rw [hhp, hT]; exact Nat.le_refl _) (msg := .ref sa) rfl
    (g := { method := m, pc := pc + 7, locals := ls, stack := .ref sa :: .ref T.heap.size :: .ref T.heap.size :: rest, locked := none }) rfl hsize rfl rfl (rest := rest) rfl
    (by rw [hb]; exact d7) (by rw [hb]; exact d10) hout hRframes (by simp only [List.map_cons, List.sum_cons, hcat]; omega) hlocks
  obtain ⟨f1, f2⟩ := vx_frame hsame
  rw [hhp] at f1 f2
  have hWs : s.WarmedH U.vm := State.WarmedH.trans hW0 hW
  have hcl : s.vm.findClass cls = some ce.cls := by
    have h9 := hO.cls
    rw [hvm] at h9
    exact h9
  have hall : s.sameButNew ({ U with vm := s.vm } : State) locs mc ms := by
    subst hA
    obtain ⟨e1, e2⟩ := hsame
    rw [State.setFrames_setFrames] at e1
    have h2 : (T.setVm s.vm).sameButNew ({ U with vm := s.vm } : State) [] (0 + 1) (0 + 6) := ⟨e1, e2⟩
    have h3 := X.same.trans h2
    rw [List.append_nil] at h3
    exact h3.mono hc hs
  refine ⟨U, ?_, .threw T.heap.size, hrun, hend, Or.inr ⟨T.heap.size, rfl, cls, ce, locs, hx U hWs.alike f1 (fun q hq => f2 q hq (fun z hz => nomatch hz)), hce, hO.vm, hcl, hWs, hall, hf⟩⟩
  refine st1 _ ?_
  show Steps p.tables e below (T1.setTop { method := m, pc := pc + 3, locals := ls, stack := .ref T.heap.size :: rest, locked := none }) _
  jvm_step X₁.here [X₁.here.top, hexec, d3', Value.category]
  exact X₁.ldcStringW hexec (own := own) (text := text) (index := is) (a := sa) hown' hstr'.1 hstr'.2
    (g := { method := m, pc := pc + 4, locals := ls, stack := .ref T.heap.size :: .ref T.heap.size :: rest, locked := none }) rfl d4' _ hsteps
end Ends
section Bodies
variable {l : Launch}
theorem vx_ofW {y : MethodName} {ws ws' : List Cond} {rm : Room} {Pc : Array Value → State → Prop} {Qc : Array Value → State → Outcome → State → Prop} {XC : String → State → State → Prop} {mc ms : Nat} {free : Addr → Prop} {cc : ByteArray} {maxL : Nat} {ret : Option FieldType}
    (hy : plainName y.cls = true) (hw : ws = Cond.code y cc maxL ret :: ws')
    (body : ∀ p e s m args below meth c s₁, BodyLoose p l y (headSpec ws rm) cc maxL ret e s m args below meth c s₁ → c.maxLocals = maxL → (∀ x ∈ c.exceptionTable.toList, False) → Pc args s →
      W p l e (headSpec ws rm).room s m args below meth c s.heap [] 0 0 (vx_MQ below Qc XC args s mc ms free) (entryFrame m args maxL)) : vx_Met l y ws rm Pc Qc XC mc ms free := by
  refine MetFree.of_bodyS (code := cc) (maxLocals := maxL) (ret := ret) hy ?_ ?_
  · intro args s m h hn
    obtain ⟨meth, c, h1, h2, h3, h4, h5, h6, -, -⟩ := Cond.code_spec hn (atoms_spec (ws := ws) h _ (by rw [hw]; exact List.mem_cons_self))
    exact ⟨meth, c, h1, h2, h3, h4, h5, h6⟩
  · intro p e s m args below meth c s₁ B hml hP _
    have hh0 : s₁.heap = s.heap := by rw [B.state]; rfl
    have ht : ∀ x ∈ c.exceptionTable.toList, False := by
      obtain ⟨meth9, c9, h1, h2, -, -, -, -, h7, -⟩ := Cond.code_spec B.named (atoms_spec (ws := ws) B.pre _ (by rw [hw]; exact List.mem_cons_self))
      cases Option.some.inj (h1.symm.trans B.method)
      cases Option.some.inj (h2.symm.trans (Stand.of_body B).code)
      intro x hx
      rw [Array.isEmpty_iff.mp h7] at hx
      cases hx
    obtain ⟨t, a1, o, b1, b2, b3⟩ := body p e s m args below meth c s₁ B hml ht hP s₁ hh0 (Stand.of_body B)
    exact ⟨t, o, a1, b1, b2, b3⟩
/-- the table of a body with handlers -/
theorem vx_table {p : Program} {x y : MethodName} {S : Spec} {cc bytes : ByteArray} {maxL maxL' : Nat} {ret ret' : Option FieldType} {e : Env} {s s₁ : State} {m : MethodId} {args : Array Value} {below : List Frame} {meth : Method} {c : Code} {hh : List (Nat × Nat × Nat × Nat)}
    (B : BodyLoose p l y S cc maxL ret e s m args below meth c s₁) (h : (Cond.codeWith y bytes maxL' ret' hh).before args s = true) : c.exceptionTable.toList = tableOf hh := by
  obtain ⟨m9, meth9, c9, hn9, h1, h2, -, -, h6, -⟩ := Cond.codeWith_spec h
  cases Option.some.inj (hn9.symm.trans B.named)
  cases Option.some.inj (h1.symm.trans B.method)
  cases Option.some.inj (h2.symm.trans (Stand.of_body B).code)
  rw [← h6, table_eq]
end Bodies
end VXA
/-! ===== END ===== -/
/-! ===== BEGIN a static call of a method with an exception table ===== -/
section VXS
variable {p : Program} {l : Launch} {e : Env} {R : Room} {s : State} {m : MethodId} {args : Array Value} {below : List Frame} {meth : Method} {c : Code} {T : State} {H : Heap} {locs : List Loc} {cells slots : Nat}
abbrev vx_CSW (R : Room) (s : State) (args : Array Value) (own : String) (index : Nat) (y : MethodName) (bytes : ByteArray) (maxL : Nat) (ret : Option FieldType) (hh : List (Nat × Nat × Nat × Nat)) (ws : List Cond) (rm : Room) (mc ms n : Nat) : Prop :=
  (rm.cells = mc ∧ rm.slots = ms ∧ rm.frames + 1 ≤ R.frames ∧ 8 + (maxL + 11) + rm.locals ≤ R.locals ∧ (∀ w ∈ ws, ∀ (a' : Array Value) (U : State), s.WarmedH U.vm → w.before a' U = true) ∧ Cond.codeWith y bytes maxL ret hh ∈ ws) ∧
  (Cond.codeWith y bytes maxL ret hh).before args s = true ∧ (Cond.initialized y.cls).before args s = true ∧ (y.cls ≠ "java/lang/invoke/MethodHandle" ∧ y.cls ≠ "java/lang/invoke/VarHandle") ∧
  (∀ sig, parseMethodDescriptor y.desc = some sig → n = sig.parameters.length) ∧ (Cond.methodLink own index y).before args s = true ∧ (Cond.static y).before args s = true
theorem vx_cwSW {own : String} {index maxL mc ms : Nat} {y : MethodName} {bytes : ByteArray} {ret : Option FieldType} {hh : List (Nat × Nat × Nat × Nat)} {Ts ws ws' : List Cond} {rm : Room} (n : Nat) (ht : ∀ w ∈ Ts, w.before args s = true) (hT : GoodIn Ts (va_wsS own index y ws)) (hw : ws = Cond.codeWith y bytes maxL ret hh :: ws') (hrc : rm.cells = mc) (hrs : rm.slots = ms)
    (hd : y.cls ≠ "java/lang/invoke/MethodHandle" ∧ y.cls ≠ "java/lang/invoke/VarHandle" ∧ (parseMethodDescriptor y.desc).map (fun d => d.parameters.length) = some n) (hR : rm.frames + 1 ≤ R.frames ∧ 8 + (maxL + 11) + rm.locals ≤ R.locals) :
    vx_CSW R s args own index y bytes maxL ret hh ws rm mc ms n := by
  have ok : ∀ w ∈ va_wsS own index y ws, w.before args s = true := fun w h => ht w (hT w h).1
  have hG : GoodIn Ts ws := fun w h => hT w (by unfold va_wsS; exact List.mem_append_right _ h)
  have hc : Cond.codeWith y bytes maxL ret hh ∈ ws := by rw [hw]; exact List.mem_cons_self
  refine ⟨⟨hrc, hrs, hR.1, hR.2, pay_in ht hG, hc⟩, ht _ (hG _ hc).1, ok _ (by simp [va_wsS]), ⟨hd.1, hd.2.1⟩, fun sig h => ?_, ok _ (by simp [va_wsS]), ok _ (by simp [va_wsS])⟩
  have h2 := hd.2.2
  rw [h] at h2
  exact (Option.some.inj h2).symm
theorem vx_callSW (X : Stand p l e R s m args below meth c T locs cells slots) (hexec : p.tables.exec = Jvm.exec) {own : String} {index : Nat} {y : MethodName} {bytes : ByteArray} {maxL : Nat} {ret : Option FieldType} {hh : List (Nat × Nat × Nat × Nat)}
    (hown : s.vm.findClass own = some m.cls) (hlink : (Cond.methodLink own index y).before args s = true) (hstat : (Cond.static y).before args s = true) (hinit : (Cond.initialized y.cls).before args s = true)
    (hcode : (Cond.codeWith y bytes maxL ret hh).before args s = true) (hy : y.cls ≠ "java/lang/invoke/MethodHandle" ∧ y.cls ≠ "java/lang/invoke/VarHandle")
    {W9 : Nat} {Pre : Pt → Array Value → Prop} {Post : Pt → Array Value → Option Value → Pt → Prop} (hK : Back l R p e below s args y 3 W9 Pre Post)
    {g : JFrame} (hg : g.method = m) (hsize : g.locals.size = c.maxLocals) {argsL rest : List Value} (hlen : ∀ sig, parseMethodDescriptor y.desc = some sig → argsL.length = sig.parameters.length)
    (hstack : g.stack = argsL.reverse ++ rest) (hW : 2 * g.monitorRoom + (rest.map fun v => v.category).sum ≤ W9) (hdg : decode c.code g.pc = .ok (.invokestatic index, 3))
    (hpre : ∀ vm₁, s.WarmedH vm₁ → Pre ⟨T.setVm vm₁, locs, cells, slots⟩ argsL.toArray) :
    ∃ (v : Option Value) (vm₁ : Vm) (B : Pt), s.WarmedH vm₁ ∧ Stand p l e R s m args below meth c B.U B.locs B.cells B.slots ∧ Post ⟨T.setVm vm₁, locs, cells, slots⟩ argsL.toArray v B ∧
      ∀ target, Steps p.tables e below (B.U.setTop { g with pc := g.pc + 3, stack := v.toList ++ rest }) target → Steps p.tables e below (T.setTop g) target := by
  obtain ⟨mk, methM, cM, hnamed, hmethM, -, -, -, -, -, -, hsigM⟩ := Cond.codeWith_spec hcode
  have hstatic : methM.isStatic = true := Cond.static_spec hnamed hmethM hstat
  obtain ⟨kP, hkP, -⟩ := className_of_methodNamed hnamed
  have hinitP : kP.init = .initialized := Cond.initialized_spec (findClass_of_methodNamed hnamed) hkP hinit
  obtain ⟨vm₁, X₁, hstep₁⟩ := X.invokestatic hexec hown hlink hnamed hmethM hstatic hkP hinitP hy (g := g) hg (argsL := argsL) (rest := rest) (hlen _ hsigM) hstack hdg
  obtain ⟨v, B, X', hpost, hsteps⟩ := hK m meth c ⟨T.setVm vm₁, locs, cells, slots⟩ { g with stack := rest } (.invokestatic index) mk argsL.toArray X₁ hg hsize hdg hW (X₁.named hnamed) (hpre vm₁ X₁.warmed)
  exact ⟨v, vm₁, B, X₁.warmed, X', hpost, fun target h => hstep₁ _ fun acts => by rw [doInvoke_state]; exact hsteps.trans h⟩
theorem vx_runSW {y : MethodName} {bytes cc : ByteArray} {maxL nL mc ms n index : Nat} {ret : Option FieldType} {hh : List (Nat × Nat × Nat × Nat)} {ws : List Cond} {rm : Room} {Pc : Array Value → State → Prop} {Qc : Array Value → State → Outcome → State → Prop} {free : Addr → Prop} {Ts : List Cond} {own : String} {As rest : List Value} {g : JFrame}
    (S : CallFix p m c cc nL s args Ts own) (hM : Met l y ws rm Pc Qc mc ms free) (cw : vx_CSW R s args own index y bytes maxL ret hh ws rm mc ms n) (hp : PreS s H Pc As)
    (hg : g.method = m) (hn : As.length = n) (hsize : g.locals.size = nL) (hstack : g.stack = As.reverse ++ rest) (hW : 2 * g.monitorRoom + (rest.map fun v => v.category).sum ≤ 8) (hdg : decode cc g.pc = .ok (.invokestatic index, 3)) (hf : cells + mc ≤ R.cells ∧ slots + ms ≤ R.slots) :
    va_Run p l e R s m args below meth c H locs cells slots mc ms g rest (Qc As.toArray) (free) := by
  obtain ⟨⟨hrc, hrs, hfr, hlo, hws, hcw⟩, hcode, hini, hy, hlen, hl, hstt⟩ := cw
  have hK : Back l R p e below s args y 3 8 (PreOf R mc ms Pc) (PostOf Qc mc ms free) := va_backW (hh := hh) (bytes := bytes) (maxL := maxL) (ret := ret) hM hp.1 hrc hrs hfr hlo hws hcw (fun a' U hW => word_at hW (Or.inl (by first | rfl | simp [Cond.onTables, Cond.keeps, Cond.steady])) hini)
  obtain ⟨hx, hb, hml, ho, -⟩ := S
  intro T hT X
  obtain ⟨v, vm₁, ⟨U', l2, c2, s2⟩, hW₁, X', ⟨g', mk, t, L, e1, e2, hq, h1, hL, h2, h3⟩, st⟩ := vx_callSW X hx (hh := hh) (bytes := bytes) (maxL := maxL) (ret := ret) ho hl hstt hini hcode hy hK hg (hsize.trans hml.symm) (argsL := As) (rest := rest) (fun sig h => hn.trans (hlen sig h)) hstack hW (by rw [hb]; exact hdg)
    (fun vm₁ hW₁ => ⟨hf.1, hf.2, hp.2 (T.setVm vm₁) hT hW₁⟩)
  dsimp only [Pt.U, Pt.locs, Pt.cells, Pt.slots] at X' e1 e2 h1 h2 h3 st
  subst h1; subst h2; subst h3
  exact ⟨v, (T.setVm vm₁).calling g' mk As.toArray, t, U', L, hT, X', hL, e1, e2, hq, st⟩
/-- not caught here, past rows that name other classes: it goes on to the caller -/
theorem vx_outP {p : Program} {l : Launch} {e : Env} {R : Room} {s : State} {m : MethodId} {args : Array Value} {below : List Frame} {meth : Method} {c : Code} {H : Heap} {locs : List Loc} {cells slots : Nat} {free : Addr → Prop} {ls : Array Slot} {rest : List Value} {Qc : Array Value → State → Outcome → State → Prop} {XC : String → State → State → Prop}
    {pc : Nat} {own E : String} {ce : Cell} {q : Addr} {mc ms : Nat} (hown : s.vm.findClass own = some m.cls) (hlocks : meth.locks = false)
    (hpass : ∀ z ∈ c.exceptionTable.toList, covers z pc = false ∨ (z.catchType ≠ 0 ∧ ∃ nm : String, (Cond.classLink own z.catchType nm).before args s = true ∧ va_Nc E nm s)) (hcell : H[q]? = some ce) (hv : ce.vm = .none) (hcl : s.vm.findClass E = some ce.cls)
    (hx : ∀ t : State, t.heap = H → s.vm.Alike t.vm → XC E s t) (hf : ∀ z ∈ locs, free z.base) (hc : cells ≤ mc) (hs : slots ≤ ms) :
    vx_W p l e R s m args below meth c H locs cells slots (vx_MQ below Qc XC args s mc ms free) (F0 m pc ls rest) q := by
  intro T hT X
  have hpl : e.platform.magicAccessors = ({} : Platform).magicAccessors := by rw [X.admits.platform]
  obtain ⟨vm', hW', X', st⟩ := X.outThrough hlocks q (g := F0 m pc ls rest) rfl rfl rfl (cell := ce) (by rw [hT]; exact hcell) (by rw [hv]; rfl)
    (by obtain ⟨k9, h9, -⟩ := Vm.findClass_spec hcl; exact ⟨k9, h9⟩) (fun z hz => by
      rcases hpass z hz with h | ⟨hz0, nm, hl1, hn1⟩
      · exact Or.inl h
      · obtain ⟨c6, hc6, hcl6⟩ := Cond.classLink_spec hown hl1 e.platform hpl
        obtain ⟨a8, b8, h1, h2, h3⟩ := hn1
        cases Option.some.inj (h1.symm.trans hcl)
        cases Option.some.inj (h2.symm.trans hc6)
        exact Or.inr ⟨hz0, _, hcl6, h3⟩)
  obtain ⟨g₀, hfr⟩ := X'.frames_eq
  have hcell9 : ((T.setVm vm').setFrames (.throwing q :: below)).heap[q]? = some ce := by
    show T.heap[q]? = some ce
    rw [hT]; exact hcell
  have hend : Ended ((T.setVm vm').setFrames (.throwing q :: below)) below (.threw q) := State.frames_setFrames _ (State.cur_lt_of_frames hfr)
  refine ⟨(T.setVm vm').setFrames (.throwing q :: below), ?_, .threw q, X'.here.running, hend, Or.inr ⟨q, rfl, E, ce, locs, hx _ hT (X'.ends _).1.alike, hcell9, hv, hcl, (X'.ends _).1, (X'.ends _).2.mono hc hs, hf⟩⟩
  rw [X.pushThrowing_eq]
  exact st
/-- a thing of a world lies in the heap -/
theorem vx_lt {D : va_G} {cl : List vw_C} {ws : va_W} {H1 : Heap} (h : va_P D cl ws H1) {k : Nat} {q : Nat × va_E} (hk : ws[k]? = some q) : q.1 < H1.size := (h k q hk).lt
end VXS
/-! ===== END ===== -/
/-! ===== BEGIN methods with a table of their own: called by a name, returning or throwing ===== -/
section VXH
/-! vx_backW, vx_callVX, vx_callSX, vx_callVW, vx_runVW, vx_runVX, vx_runSX, vx_ofWH follow the same proofs as their sisters above (Free/Laws.lean, Shelf42/LK1.lean); vx_outP calls Shelf42/NT130.lean (outThrough). -/
section
variable {l : Launch} {R : Room} {p : Program} {e : Env} {below : List Frame} {s : State} {sargs : Array Value} {y : MethodName} {len W9 : Nat}
theorem vx_backW {ws : List Cond} {rm : Room} {Pc : Array Value → State → Prop} {Qc : Array Value → State → Outcome → State → Prop} {XC : String → State → State → Prop} {mc ms : Nat} {free : Addr → Prop} {bytes : ByteArray} {maxL : Nat} {ret : Option FieldType} {hh : List (Nat × Nat × Nat × Nat)}
    (hM : vx_Met l y ws rm Pc Qc XC mc ms free) (hblind : FrameBlind Pc) (hrc : rm.cells = mc) (hrs : rm.slots = ms)
    (hframes : rm.frames + 1 ≤ R.frames) (hlocals : W9 + (maxL + 11) + rm.locals ≤ R.locals)
    (hws : ∀ w ∈ ws, ∀ a' U, s.WarmedH U.vm → w.before a' U = true) (hcode : Cond.codeWith y bytes maxL ret hh ∈ ws) (hinit : ∀ a' U, s.WarmedH U.vm → (Cond.initialized y.cls).before a' U = true) :
    vx_Back l R p e below s sargs y len W9 (PreOf R mc ms Pc) (PostOf Qc mc ms free) (vx_Post XC mc ms free) := by
  intro m meth c A g ig mk a X hg hsize hdg hW hn hp
  have h1 : (headSpec ws rm).pre.before a A.U = true := atoms_intro fun w hw => hws w hw _ _ X.warmed
  have h2 : (Cond.codeWith y bytes maxL ret hh).before a A.U = true := hws _ hcode _ _ X.warmed
  have h3 : (Cond.initialized y.cls).before a A.U = true := hinit _ _ X.warmed
  have h4 : A.cells + (headSpec ws rm).room.cells ≤ R.cells := by rw [show (headSpec ws rm).room.cells = mc from hrc]; exact hp.1
  have h5 : A.slots + (headSpec ws rm).room.slots ≤ R.slots := by rw [show (headSpec ws rm).room.slots = ms from hrs]; exact hp.2.1
  have hPc : Pc a (A.U.calling g mk a) := hblind _ _ _ _ hp.2.2
  obtain ⟨U, Ls, c0, s0⟩ := A
  dsimp only [Pt.U, Pt.locs, Pt.cells, Pt.slots] at h1 h2 h3 h4 h5 X hn hPc ⊢
  obtain ⟨m9, methY, cY, hn9, hmY, hcY, -, hlY, -⟩ := Cond.codeWith_spec h2
  cases Option.some.inj (hn9.symm.trans hn)
  obtain ⟨kY, hkY, -⟩ := className_of_methodNamed hn
  have hinitY : kY.init = .initialized := Cond.initialized_spec (findClass_of_methodNamed hn) hkY h3
  have h : At U g.method c below := by rw [hg]; exact X.here
  have hlocals9 : W9 + (maxL + 11) + (headSpec ws rm).room.locals ≤ R.locals := hlocals
  have happ : (headSpec ws rm).appliesLoose y e.platform (U.calling g mk a) = true :=
    Spec.appliesLoose_calling (g := g) h hdg hn hkY hinitY
      (X.room_calling (g := g) (R' := (headSpec ws rm).room) hsize hmY hcY hframes (by rw [hlY]; omega) h4 h5) h1
  obtain ⟨mid, hmid⟩ := h.above
  have hfr : (U.setTop g).frames = (.java g :: mid) ++ below := by rw [State.frames_setTop' g h.top, hmid]; rfl
  obtain ⟨o, s₂, hsteps, -, hend, hq⟩ := Steps.callFree hM p X.admits X.cas X.clock (acts := []) hfr happ hPc trivial
  have hq' : vx_Q Qc XC mc ms free a (U.calling g mk a) o s₂ := hq
  rw [State.frames_setTop' g h.top] at hend
  obtain ⟨g₀, hg0⟩ := Option.isSome_iff_exists.mp h.top
  obtain ⟨r, hr⟩ := State.topJava?_eq_some.mp hg0
  have hr' : (({ U with heap := s₂.heap, slotsUsed := s₂.slotsUsed } : State).setVm s₂.vm).frames = .java g₀ :: r := hr
  rcases hq' with ⟨hqc, L, hfe, hL⟩ | ⟨q, rfl, E, ce, L, hx, hce, hcv, hcl, hW₂, hsm, hL⟩
  · obtain ⟨⟨v, rfl⟩, hW₂, e2, q2, q3, q4, q5, q6⟩ := id hfe
    have e3 : s₂ = ({ (U.calling g mk a).setFrames s₂.frames with heap := s₂.heap, slotsUsed := s₂.slotsUsed } : State).setVm s₂.vm := by
      have : s₂ = ({ s₂ with vm := (U.calling g mk a).vm } : State).setVm s₂.vm := rfl
      rw [e2] at this
      exact this
    obtain ⟨c₂, i₂, len₂, hc₂, hd₂, hf₂⟩ := hend
    have hW' : U.WarmedH s₂.vm := hW₂
    have hcc : c₂ = c := by
      have h1 : s₂.code? g.method = U.code? g.method := by
        rw [State.code?_eq, State.code?_eq, hW'.alike.method?]
      exact Option.some.inj (hc₂.symm.trans (h1.trans h.code))
    subst hcc
    have hlen : len₂ = len := by rw [hdg] at hd₂; cases hd₂; rfl
    subst hlen
    have hs₂ : s₂ = (({ U with heap := s₂.heap, slotsUsed := s₂.slotsUsed } : State).setVm s₂.vm).setTop { g with pc := g.pc + len₂, stack := v.toList ++ g.stack } := by
      refine e3.trans ?_
      rw [hf₂, State.calling_eq h.top, State.setFrames_setFrames, State.setTop_of_frames _ hr', hr]
      rfl
    have hsame : U.sameButNew ({ U with heap := s₂.heap, slotsUsed := s₂.slotsUsed } : State) L mc ms := by
      refine ⟨?_, q2, q3, q4, q5, q6⟩
      obtain ⟨t, ht, -⟩ := State.frames_cons hr
      show ({ U with heap := s₂.heap, slotsUsed := s₂.slotsUsed } : State) = { U.setFrames U.frames with heap := s₂.heap, slotsUsed := s₂.slotsUsed }
      rw [State.setFrames_self ht]
    subst hg
    refine Or.inl ⟨v, ⟨(({ U with heap := s₂.heap, slotsUsed := s₂.slotsUsed } : State).setVm s₂.vm), Ls ++ L, c0 + mc, s0 + ms⟩,
      ⟨X.admits, X.cas, X.clock, X.frames, X.room, X.hears, X.method, X.code, (X.here.setHeapUsed s₂.heap s₂.slotsUsed).setVm hW'.alike, X.tail, State.WarmedH.trans X.warmed hW', X.limits, X.bytes, X.same.trans (hsame.setVm s.vm)⟩,
      ⟨g, mk, s₂, L, rfl, rfl, hqc, rfl, hL, rfl, rfl⟩, ?_⟩
    show Steps p.tables e below _ ((({ U with heap := s₂.heap, slotsUsed := s₂.slotsUsed } : State).setVm s₂.vm).setTop { g with pc := g.pc + len₂, stack := v.toList ++ g.stack })
    rw [← hs₂]
    exact hsteps
  · obtain ⟨e2, q2, q3, q4, q5, q6⟩ := id hsm
    have e3 : s₂ = ({ (U.calling g mk a).setFrames s₂.frames with heap := s₂.heap, slotsUsed := s₂.slotsUsed } : State).setVm s₂.vm := by
      have : s₂ = ({ s₂ with vm := (U.calling g mk a).vm } : State).setVm s₂.vm := rfl
      rw [e2] at this
      exact this
    have hf₂ : s₂.frames = .throwing q :: .java g :: U.frames.tail := hend
    have hW' : U.WarmedH s₂.vm := hW₂
    have hs₂ : s₂ = ((({ U with heap := s₂.heap, slotsUsed := s₂.slotsUsed } : State).setVm s₂.vm).setTop g).pushFrame (.throwing q) := by
      refine e3.trans ?_
      rw [hf₂, State.calling_eq h.top, State.setFrames_setFrames, State.pushFrame, State.frames_setTop _ hr', State.setTop_of_frames _ hr', State.setFrames_setFrames, hr]
      rfl
    have hsame : U.sameButNew ({ U with heap := s₂.heap, slotsUsed := s₂.slotsUsed } : State) L mc ms := by
      refine ⟨?_, q2, q3, q4, q5, q6⟩
      obtain ⟨t, ht, -⟩ := State.frames_cons hr
      show ({ U with heap := s₂.heap, slotsUsed := s₂.slotsUsed } : State) = { U.setFrames U.frames with heap := s₂.heap, slotsUsed := s₂.slotsUsed }
      rw [State.setFrames_self ht]
    subst hg
    refine Or.inr ⟨q, ⟨(({ U with heap := s₂.heap, slotsUsed := s₂.slotsUsed } : State).setVm s₂.vm), Ls ++ L, c0 + mc, s0 + ms⟩,
      ⟨X.admits, X.cas, X.clock, X.frames, X.room, X.hears, X.method, X.code, (X.here.setHeapUsed s₂.heap s₂.slotsUsed).setVm hW'.alike, X.tail, State.WarmedH.trans X.warmed hW', X.limits, X.bytes, X.same.trans (hsame.setVm s.vm)⟩,
      ⟨g, mk, s₂, L, E, ce, rfl, rfl, hx, hce, hcv, hcl, rfl, hL, rfl, rfl⟩, ?_⟩
    show Steps p.tables e below _ (((({ U with heap := s₂.heap, slotsUsed := s₂.slotsUsed } : State).setVm s₂.vm).setTop g).pushFrame (.throwing q))
    rw [← hs₂]
    exact hsteps
end
variable {p : Program} {l : Launch} {e : Env} {R : Room} {s : State} {m : MethodId} {args : Array Value} {below : List Frame} {meth : Method} {c : Code} {T : State} {H : Heap} {locs : List Loc} {cells slots : Nat}
theorem vx_callVX (X : Stand p l e R s m args below meth c T locs cells slots) (hexec : p.tables.exec = Jvm.exec) {own C : String} {index : Nat} {y : MethodName} {bytes : ByteArray} {maxL : Nat} {ret : Option FieldType} {hh : List (Nat × Nat × Nat × Nat)}
    (hown : s.vm.findClass own = some m.cls) (hlink : (Cond.methodLink own index y).before args s = true) (hinst : (Cond.instanceMethod y).before args s = true) (hsel : (Cond.selects C y y).before args s = true)
    (hcode : (Cond.codeWith y bytes maxL ret hh).before args s = true) (hy : y.cls ≠ "java/lang/invoke/MethodHandle" ∧ y.cls ≠ "java/lang/invoke/VarHandle")
    {W9 : Nat} {Pre : Pt → Array Value → Prop} {Post : Pt → Array Value → Option Value → Pt → Prop} {PostX : Pt → Array Value → Addr → Pt → Prop} (hK : vx_Back l R p e below s args y 3 W9 Pre Post PostX)
    {b : Addr} {cellB : Cell} (hcell : T.heap[b]? = some cellB) (hobj : cellB.vm.isStatics = false) (hcls : s.vm.findClass C = some cellB.cls)
    {g : JFrame} (hg : g.method = m) (hsize : g.locals.size = c.maxLocals) {argsL rest : List Value} (hlen : ∀ sig, parseMethodDescriptor y.desc = some sig → argsL.length = sig.parameters.length)
    (hstack : g.stack = argsL.reverse ++ .ref b :: rest) (hW : 2 * g.monitorRoom + (rest.map fun v => v.category).sum ≤ W9) (hdg : decode c.code g.pc = .ok (.invokevirtual index, 3))
    (hpre : ∀ vm₁, s.WarmedH vm₁ → Pre ⟨T.setVm vm₁, locs, cells, slots⟩ (Value.ref b :: argsL).toArray) :
    (∃ (v : Option Value) (vm₁ : Vm) (B : Pt), s.WarmedH vm₁ ∧ Stand p l e R s m args below meth c B.U B.locs B.cells B.slots ∧ Post ⟨T.setVm vm₁, locs, cells, slots⟩ (Value.ref b :: argsL).toArray v B ∧
      ∀ target, Steps p.tables e below (B.U.setTop { g with pc := g.pc + 3, stack := v.toList ++ rest }) target → Steps p.tables e below (T.setTop g) target) ∨
    (∃ (q : Addr) (vm₁ : Vm) (B : Pt), s.WarmedH vm₁ ∧ Stand p l e R s m args below meth c B.U B.locs B.cells B.slots ∧ PostX ⟨T.setVm vm₁, locs, cells, slots⟩ (Value.ref b :: argsL).toArray q B ∧
      Steps p.tables e below (T.setTop g) ((B.U.setTop { g with stack := rest }).pushFrame (.throwing q))) := by
  obtain ⟨mk, methM, hnamed, hmethM, hstM, habM⟩ := Cond.instanceMethod_spec hinst
  obtain ⟨m8, methM', cM, hn8, hmethM', -, -, -, -, -, -, hsigM⟩ := Cond.codeWith_spec hcode
  cases Option.some.inj (hn8.symm.trans hnamed)
  cases hmethM.symm.trans hmethM'
  obtain ⟨c2, r2, m2, q1, q2, q3, q4, kP, hkP, hkPi⟩ := Cond.selects_spec hsel
  cases hcls.symm.trans q1
  cases (State.methodFound?_of_named hnamed hy).symm.trans q2
  cases hnamed.symm.trans q3
  have hselP : selectMethod e.platform s.vm cellB.cls mk = .method mk := by rw [Launch.admits_selectMethod X.admits]; exact q4
  obtain ⟨vm₁, X₁, hstep₁⟩ := X.invokevirtual hexec hown hlink hnamed hmethM hstM hkP hkPi hy (a := b) (cell := cellB) hcell
    (fun z h => by rw [h] at hobj; cases hobj) hselP hmethM habM hkP hkPi (g := g) hg (argsL := argsL) (rest := rest) (hlen _ hsigM) hstack hdg
  rcases hK m meth c ⟨T.setVm vm₁, locs, cells, slots⟩ { g with stack := rest } (.invokevirtual index) mk (Value.ref b :: argsL).toArray X₁ hg hsize hdg hW (X₁.named hnamed) (hpre vm₁ X₁.warmed) with ⟨v, B, X', hpost, hsteps⟩ | ⟨q, B, X', hpost, hsteps⟩
  · exact Or.inl ⟨v, vm₁, B, X₁.warmed, X', hpost, fun target h => hstep₁ _ fun acts => by rw [doInvoke_state]; exact hsteps.trans h⟩
  · exact Or.inr ⟨q, vm₁, B, X₁.warmed, X', hpost, hstep₁ _ fun acts => by rw [doInvoke_state]; exact hsteps⟩
theorem vx_callSX (X : Stand p l e R s m args below meth c T locs cells slots) (hexec : p.tables.exec = Jvm.exec) {own : String} {index : Nat} {y : MethodName} {bytes : ByteArray} {maxL : Nat} {ret : Option FieldType} {hh : List (Nat × Nat × Nat × Nat)}
    (hown : s.vm.findClass own = some m.cls) (hlink : (Cond.methodLink own index y).before args s = true) (hstat : (Cond.static y).before args s = true) (hinit : (Cond.initialized y.cls).before args s = true)
    (hcode : (Cond.codeWith y bytes maxL ret hh).before args s = true) (hy : y.cls ≠ "java/lang/invoke/MethodHandle" ∧ y.cls ≠ "java/lang/invoke/VarHandle")
    {W9 : Nat} {Pre : Pt → Array Value → Prop} {Post : Pt → Array Value → Option Value → Pt → Prop} {PostX : Pt → Array Value → Addr → Pt → Prop} (hK : vx_Back l R p e below s args y 3 W9 Pre Post PostX)
    {g : JFrame} (hg : g.method = m) (hsize : g.locals.size = c.maxLocals) {argsL rest : List Value} (hlen : ∀ sig, parseMethodDescriptor y.desc = some sig → argsL.length = sig.parameters.length)
    (hstack : g.stack = argsL.reverse ++ rest) (hW : 2 * g.monitorRoom + (rest.map fun v => v.category).sum ≤ W9) (hdg : decode c.code g.pc = .ok (.invokestatic index, 3))
    (hpre : ∀ vm₁, s.WarmedH vm₁ → Pre ⟨T.setVm vm₁, locs, cells, slots⟩ argsL.toArray) :
    (∃ (v : Option Value) (vm₁ : Vm) (B : Pt), s.WarmedH vm₁ ∧ Stand p l e R s m args below meth c B.U B.locs B.cells B.slots ∧ Post ⟨T.setVm vm₁, locs, cells, slots⟩ argsL.toArray v B ∧
      ∀ target, Steps p.tables e below (B.U.setTop { g with pc := g.pc + 3, stack := v.toList ++ rest }) target → Steps p.tables e below (T.setTop g) target) ∨
    (∃ (q : Addr) (vm₁ : Vm) (B : Pt), s.WarmedH vm₁ ∧ Stand p l e R s m args below meth c B.U B.locs B.cells B.slots ∧ PostX ⟨T.setVm vm₁, locs, cells, slots⟩ argsL.toArray q B ∧
      Steps p.tables e below (T.setTop g) ((B.U.setTop { g with stack := rest }).pushFrame (.throwing q))) := by
  obtain ⟨mk, methM, cM, hnamed, hmethM, -, -, -, -, -, -, hsigM⟩ := Cond.codeWith_spec hcode
  have hstatic : methM.isStatic = true := Cond.static_spec hnamed hmethM hstat
  obtain ⟨kP, hkP, -⟩ := className_of_methodNamed hnamed
  have hinitP : kP.init = .initialized := Cond.initialized_spec (findClass_of_methodNamed hnamed) hkP hinit
  obtain ⟨vm₁, X₁, hstep₁⟩ := X.invokestatic hexec hown hlink hnamed hmethM hstatic hkP hinitP hy (g := g) hg (argsL := argsL) (rest := rest) (hlen _ hsigM) hstack hdg
  rcases hK m meth c ⟨T.setVm vm₁, locs, cells, slots⟩ { g with stack := rest } (.invokestatic index) mk argsL.toArray X₁ hg hsize hdg hW (X₁.named hnamed) (hpre vm₁ X₁.warmed) with ⟨v, B, X', hpost, hsteps⟩ | ⟨q, B, X', hpost, hsteps⟩
  · exact Or.inl ⟨v, vm₁, B, X₁.warmed, X', hpost, fun target h => hstep₁ _ fun acts => by rw [doInvoke_state]; exact hsteps.trans h⟩
  · exact Or.inr ⟨q, vm₁, B, X₁.warmed, X', hpost, hstep₁ _ fun acts => by rw [doInvoke_state]; exact hsteps⟩
theorem vx_callVW (X : Stand p l e R s m args below meth c T locs cells slots) (hexec : p.tables.exec = Jvm.exec) {own C : String} {index : Nat} {y : MethodName} {bytes : ByteArray} {maxL : Nat} {ret : Option FieldType} {hh : List (Nat × Nat × Nat × Nat)}
    (hown : s.vm.findClass own = some m.cls) (hlink : (Cond.methodLink own index y).before args s = true) (hinst : (Cond.instanceMethod y).before args s = true) (hsel : (Cond.selects C y y).before args s = true)
    (hcode : (Cond.codeWith y bytes maxL ret hh).before args s = true) (hy : y.cls ≠ "java/lang/invoke/MethodHandle" ∧ y.cls ≠ "java/lang/invoke/VarHandle")
    {W9 : Nat} {Pre : Pt → Array Value → Prop} {Post : Pt → Array Value → Option Value → Pt → Prop} (hK : Back l R p e below s args y 3 W9 Pre Post)
    {b : Addr} {cellB : Cell} (hcell : T.heap[b]? = some cellB) (hobj : cellB.vm.isStatics = false) (hcls : s.vm.findClass C = some cellB.cls)
    {g : JFrame} (hg : g.method = m) (hsize : g.locals.size = c.maxLocals) {argsL rest : List Value} (hlen : ∀ sig, parseMethodDescriptor y.desc = some sig → argsL.length = sig.parameters.length)
    (hstack : g.stack = argsL.reverse ++ .ref b :: rest) (hW : 2 * g.monitorRoom + (rest.map fun v => v.category).sum ≤ W9) (hdg : decode c.code g.pc = .ok (.invokevirtual index, 3))
    (hpre : ∀ vm₁, s.WarmedH vm₁ → Pre ⟨T.setVm vm₁, locs, cells, slots⟩ (Value.ref b :: argsL).toArray) :
    ∃ (v : Option Value) (vm₁ : Vm) (B : Pt), s.WarmedH vm₁ ∧ Stand p l e R s m args below meth c B.U B.locs B.cells B.slots ∧ Post ⟨T.setVm vm₁, locs, cells, slots⟩ (Value.ref b :: argsL).toArray v B ∧
      ∀ target, Steps p.tables e below (B.U.setTop { g with pc := g.pc + 3, stack := v.toList ++ rest }) target → Steps p.tables e below (T.setTop g) target := by
  obtain ⟨mk, methM, hnamed, hmethM, hstM, habM⟩ := Cond.instanceMethod_spec hinst
  obtain ⟨m8, methM', cM, hn8, hmethM', -, -, -, -, -, -, hsigM⟩ := Cond.codeWith_spec hcode
  cases Option.some.inj (hn8.symm.trans hnamed)
  cases hmethM.symm.trans hmethM'
  obtain ⟨c2, r2, m2, q1, q2, q3, q4, kP, hkP, hkPi⟩ := Cond.selects_spec hsel
  cases hcls.symm.trans q1
  cases (State.methodFound?_of_named hnamed hy).symm.trans q2
  cases hnamed.symm.trans q3
  have hselP : selectMethod e.platform s.vm cellB.cls mk = .method mk := by rw [Launch.admits_selectMethod X.admits]; exact q4
  obtain ⟨vm₁, X₁, hstep₁⟩ := X.invokevirtual hexec hown hlink hnamed hmethM hstM hkP hkPi hy (a := b) (cell := cellB) hcell
    (fun z h => by rw [h] at hobj; cases hobj) hselP hmethM habM hkP hkPi (g := g) hg (argsL := argsL) (rest := rest) (hlen _ hsigM) hstack hdg
  obtain ⟨v, B, X', hpost, hsteps⟩ := hK m meth c ⟨T.setVm vm₁, locs, cells, slots⟩ { g with stack := rest } (.invokevirtual index) mk (Value.ref b :: argsL).toArray X₁ hg hsize hdg hW (X₁.named hnamed) (hpre vm₁ X₁.warmed)
  exact ⟨v, vm₁, B, X₁.warmed, X', hpost, fun target h => hstep₁ _ fun acts => by rw [doInvoke_state]; exact hsteps.trans h⟩
abbrev vx_CVW (R : Room) (s : State) (args : Array Value) (own C : String) (index : Nat) (y : MethodName) (bytes : ByteArray) (maxL : Nat) (ret : Option FieldType) (hh : List (Nat × Nat × Nat × Nat)) (ws : List Cond) (rm : Room) (mc ms n : Nat) : Prop :=
  (rm.cells = mc ∧ rm.slots = ms ∧ rm.frames + 1 ≤ R.frames ∧ 8 + (maxL + 11) + rm.locals ≤ R.locals ∧ (∀ w ∈ ws, ∀ (a' : Array Value) (U : State), s.WarmedH U.vm → w.before a' U = true) ∧ Cond.codeWith y bytes maxL ret hh ∈ ws) ∧
  (Cond.codeWith y bytes maxL ret hh).before args s = true ∧ (Cond.initialized y.cls).before args s = true ∧ (y.cls ≠ "java/lang/invoke/MethodHandle" ∧ y.cls ≠ "java/lang/invoke/VarHandle") ∧
  (∀ sig, parseMethodDescriptor y.desc = some sig → n = sig.parameters.length) ∧ (Cond.methodLink own index y).before args s = true ∧ (Cond.instanceMethod y).before args s = true ∧ (Cond.selects C y y).before args s = true
theorem vx_cwVW {own C : String} {index maxL mc ms : Nat} {y : MethodName} {bytes : ByteArray} {ret : Option FieldType} {hh : List (Nat × Nat × Nat × Nat)} {Ts ws ws' : List Cond} {rm : Room} (n : Nat) (ht : ∀ w ∈ Ts, w.before args s = true) (hT : GoodIn Ts (wsV own index C y ws)) (hw : ws = Cond.codeWith y bytes maxL ret hh :: ws') (hrc : rm.cells = mc) (hrs : rm.slots = ms)
    (hd : y.cls = C ∧ y.cls ≠ "java/lang/invoke/MethodHandle" ∧ y.cls ≠ "java/lang/invoke/VarHandle" ∧ (parseMethodDescriptor y.desc).map (fun d => d.parameters.length) = some n) (hR : rm.frames + 1 ≤ R.frames ∧ 8 + (maxL + 11) + rm.locals ≤ R.locals) :
    vx_CVW R s args own C index y bytes maxL ret hh ws rm mc ms n := by
  obtain ⟨hC, hd⟩ := hd
  subst hC
  have ok : ∀ w ∈ wsV own index y.cls y ws, w.before args s = true := fun w h => ht w (hT w h).1
  have hG : GoodIn Ts ws := fun w h => hT w (by unfold wsV; exact List.mem_append_right _ h)
  have hc : Cond.codeWith y bytes maxL ret hh ∈ ws := by rw [hw]; exact List.mem_cons_self
  refine ⟨⟨hrc, hrs, hR.1, hR.2, pay_in ht hG, hc⟩, ht _ (hG _ hc).1, ok _ (by simp [wsV]), ⟨hd.1, hd.2.1⟩, fun sig h => ?_, ok _ (by simp [wsV]), ok _ (by simp [wsV]), ok _ (by simp [wsV])⟩
  have h2 := hd.2.2
  rw [h] at h2
  exact (Option.some.inj h2).symm
theorem vx_runVW {y : MethodName} {bytes cc : ByteArray} {maxL nL mc ms n index : Nat} {ret : Option FieldType} {hh : List (Nat × Nat × Nat × Nat)} {ws : List Cond} {rm : Room} {Pc : Array Value → State → Prop} {Qc : Array Value → State → Outcome → State → Prop} {free : Addr → Prop} {Ts : List Cond} {own C : String} {b : Addr} {As rest : List Value} {g : JFrame}
    (S : CallFix p m c cc nL s args Ts own) (hM : Met l y ws rm Pc Qc mc ms free) (cw : vx_CVW R s args own C index y bytes maxL ret hh ws rm mc ms n) (hp : PreV s H C b Pc As)
    (hg : g.method = m) (hn : As.length = n) (hsize : g.locals.size = nL) (hstack : g.stack = As.reverse ++ .ref b :: rest) (hW : 2 * g.monitorRoom + (rest.map fun v => v.category).sum ≤ 8) (hdg : decode cc g.pc = .ok (.invokevirtual index, 3)) (hf : cells + mc ≤ R.cells ∧ slots + ms ≤ R.slots) :
    va_Run p l e R s m args below meth c H locs cells slots mc ms g rest (Qc (Value.ref b :: As).toArray) free := by
  obtain ⟨⟨hrc, hrs, hfr, hlo, hws, hcw⟩, hcode, hini, hy, hlen, hl, hin, hse⟩ := cw
  have hK : Back l R p e below s args y 3 8 (PreOf R mc ms Pc) (PostOf Qc mc ms free) := va_backW (hh := hh) (bytes := bytes) (maxL := maxL) (ret := ret) hM hp.1 hrc hrs hfr hlo hws hcw (fun a' U hW => word_at hW (Or.inl (by first | rfl | simp [Cond.onTables, Cond.keeps, Cond.steady])) hini)
  obtain ⟨hx, hb, hml, ho, -⟩ := S
  obtain ⟨-, ⟨cellB, hcB, hoB, hclB⟩, hPc⟩ := hp
  intro T hT X
  obtain ⟨v, vm₁, ⟨U', l2, c2, s2⟩, hW₁, X', ⟨g', mk, t, L, e1, e2, hq, h1, hL, h2, h3⟩, st⟩ := vx_callVW X hx (C := C) (hh := hh) (bytes := bytes) (maxL := maxL) (ret := ret) ho hl hin hse hcode hy hK (by rw [hT]; exact hcB) hoB hclB hg (hsize.trans hml.symm) (argsL := As) (rest := rest) (fun sig h => hn.trans (hlen sig h)) hstack hW (by rw [hb]; exact hdg)
    (fun vm₁ hW₁ => ⟨hf.1, hf.2, hPc (T.setVm vm₁) hT hW₁⟩)
  dsimp only [Pt.U, Pt.locs, Pt.cells, Pt.slots] at X' e1 e2 h1 h2 h3 st
  subst h1; subst h2; subst h3
  exact ⟨v, (T.setVm vm₁).calling g' mk (Value.ref b :: As).toArray, t, U', L, hT, X', hL, e1, e2, hq, st⟩
section
variable {y : MethodName} {bytes cc : ByteArray} {maxL nL mc ms n index : Nat} {ret : Option FieldType} {ws : List Cond} {rm : Room} {Pc : Array Value → State → Prop} {Qc : Array Value → State → Outcome → State → Prop} {XC : String → State → State → Prop} {free : Addr → Prop} {Ts : List Cond} {own C : String} {b : Addr} {As rest : List Value} {g : JFrame}
theorem vx_runVX {hh : List (Nat × Nat × Nat × Nat)} (S : CallFix p m c cc nL s args Ts own) (hM : vx_Met l y ws rm Pc Qc XC mc ms free) (cw : vx_CVW R s args own C index y bytes maxL ret hh ws rm mc ms n) (hp : PreV s H C b Pc As)
    (hg : g.method = m) (hn : As.length = n) (hsize : g.locals.size = nL) (hstack : g.stack = As.reverse ++ .ref b :: rest) (hW : 2 * g.monitorRoom + (rest.map fun v => v.category).sum ≤ 8) (hdg : decode cc g.pc = .ok (.invokevirtual index, 3)) (hf : cells + mc ≤ R.cells ∧ slots + ms ≤ R.slots) :
    vx_Run p l e R s m args below meth c H locs cells slots mc ms g rest (Qc (Value.ref b :: As).toArray) XC free := by
  obtain ⟨⟨hrc, hrs, hfr, hlo, hws, hcw⟩, hcode, hini, hy, hlen, hl, hin, hse⟩ := cw
  have hK : vx_Back l R p e below s args y 3 8 (PreOf R mc ms Pc) (PostOf Qc mc ms free) (vx_Post XC mc ms free) := vx_backW (hh := hh) (bytes := bytes) (maxL := maxL) (ret := ret) hM hp.1 hrc hrs hfr hlo hws hcw (fun a' U hW => word_at hW (Or.inl (by first | rfl | simp [Cond.onTables, Cond.keeps, Cond.steady])) hini)
  obtain ⟨hx, hb, hml, ho, -⟩ := S
  obtain ⟨-, ⟨cellB, hcB, hoB, hclB⟩, hPc⟩ := hp
  intro T hT X
  rcases vx_callVX X hx (C := C) (hh := hh) (bytes := bytes) (maxL := maxL) (ret := ret) ho hl hin hse hcode hy hK (by rw [hT]; exact hcB) hoB hclB hg (hsize.trans hml.symm) (argsL := As) (rest := rest) (fun sig h => hn.trans (hlen sig h)) hstack hW (by rw [hb]; exact hdg)
    (fun vm₁ hW₁ => ⟨hf.1, hf.2, hPc (T.setVm vm₁) hT hW₁⟩) with ⟨v, vm₁, ⟨U', l2, c2, s2⟩, hW₁, X', ⟨g', mk, t, L, e1, e2, hq, h1, hL, h2, h3⟩, st⟩ | ⟨q, vm₁, ⟨U', l2, c2, s2⟩, hW₁, X', ⟨g', mk, t, L, E, ce, e1, e2, hq, hce, hcv, hcl, h1, hL, h2, h3⟩, st⟩
  · dsimp only [Pt.U, Pt.locs, Pt.cells, Pt.slots] at X' e1 e2 h1 h2 h3 st
    subst h1; subst h2; subst h3
    exact Or.inl ⟨v, (T.setVm vm₁).calling g' mk (Value.ref b :: As).toArray, t, U', L, hT, X', hL, e1, e2, hq, st⟩
  · dsimp only [Pt.U, Pt.locs, Pt.cells, Pt.slots] at X' e1 e2 h1 h2 h3 st hcl
    subst h1; subst h2; subst h3
    exact Or.inr ⟨q, (T.setVm vm₁).calling g' mk (Value.ref b :: As).toArray, t, U', L, E, ce, hT, X', hL, e1, e2, hq, hce, hcv, vx_cls hW₁ hcl, st⟩
theorem vx_runSX {hh : List (Nat × Nat × Nat × Nat)} (S : CallFix p m c cc nL s args Ts own) (hM : vx_Met l y ws rm Pc Qc XC mc ms free) (cw : vx_CSW R s args own index y bytes maxL ret hh ws rm mc ms n) (hp : PreS s H Pc As)
    (hg : g.method = m) (hn : As.length = n) (hsize : g.locals.size = nL) (hstack : g.stack = As.reverse ++ rest) (hW : 2 * g.monitorRoom + (rest.map fun v => v.category).sum ≤ 8) (hdg : decode cc g.pc = .ok (.invokestatic index, 3)) (hf : cells + mc ≤ R.cells ∧ slots + ms ≤ R.slots) :
    vx_Run p l e R s m args below meth c H locs cells slots mc ms g rest (Qc As.toArray) XC free := by
  obtain ⟨⟨hrc, hrs, hfr, hlo, hws, hcw⟩, hcode, hini, hy, hlen, hl, hstt⟩ := cw
  have hK : vx_Back l R p e below s args y 3 8 (PreOf R mc ms Pc) (PostOf Qc mc ms free) (vx_Post XC mc ms free) := vx_backW (hh := hh) (bytes := bytes) (maxL := maxL) (ret := ret) hM hp.1 hrc hrs hfr hlo hws hcw (fun a' U hW => word_at hW (Or.inl (by first | rfl | simp [Cond.onTables, Cond.keeps, Cond.steady])) hini)
  obtain ⟨hx, hb, hml, ho, -⟩ := S
  intro T hT X
  rcases vx_callSX X hx (hh := hh) (bytes := bytes) (maxL := maxL) (ret := ret) ho hl hstt hini hcode hy hK hg (hsize.trans hml.symm) (argsL := As) (rest := rest) (fun sig h => hn.trans (hlen sig h)) hstack hW (by rw [hb]; exact hdg)
    (fun vm₁ hW₁ => ⟨hf.1, hf.2, hp.2 (T.setVm vm₁) hT hW₁⟩) with ⟨v, vm₁, ⟨U', l2, c2, s2⟩, hW₁, X', ⟨g', mk, t, L, e1, e2, hq, h1, hL, h2, h3⟩, st⟩ | ⟨q, vm₁, ⟨U', l2, c2, s2⟩, hW₁, X', ⟨g', mk, t, L, E, ce, e1, e2, hq, hce, hcv, hcl, h1, hL, h2, h3⟩, st⟩
  · dsimp only [Pt.U, Pt.locs, Pt.cells, Pt.slots] at X' e1 e2 h1 h2 h3 st
    subst h1; subst h2; subst h3
    exact Or.inl ⟨v, (T.setVm vm₁).calling g' mk As.toArray, t, U', L, hT, X', hL, e1, e2, hq, st⟩
  · dsimp only [Pt.U, Pt.locs, Pt.cells, Pt.slots] at X' e1 e2 h1 h2 h3 st hcl
    subst h1; subst h2; subst h3
    exact Or.inr ⟨q, (T.setVm vm₁).calling g' mk As.toArray, t, U', L, E, ce, hT, X', hL, e1, e2, hq, hce, hcv, vx_cls hW₁ hcl, st⟩
end
end VXH
theorem vx_ofWH {l : Launch} {y : MethodName} {ws ws' : List Cond} {rm : Room} {Pc : Array Value → State → Prop} {Qc : Array Value → State → Outcome → State → Prop} {XC : String → State → State → Prop} {mc ms : Nat} {free : Addr → Prop} {cc : ByteArray} {maxL : Nat} {ret : Option FieldType} {hh : List (Nat × Nat × Nat × Nat)}
    (hy : plainName y.cls = true) (hw : ws = Cond.codeWith y cc maxL ret hh :: ws')
    (body : ∀ p e s m args below meth c s₁, BodyLoose p l y (headSpec ws rm) cc maxL ret e s m args below meth c s₁ → c.maxLocals = maxL → Pc args s →
      W p l e (headSpec ws rm).room s m args below meth c s.heap [] 0 0 (vx_MQ below Qc XC args s mc ms free) (entryFrame m args maxL)) : vx_Met l y ws rm Pc Qc XC mc ms free := by
  refine MetFree.of_bodyS (code := cc) (maxLocals := maxL) (ret := ret) hy ?_ ?_
  · intro args s m h hn
    obtain ⟨m9, meth, c, hn9, h1, h2, h3, h4, -, h5, h6, -⟩ := Cond.codeWith_spec (atoms_spec (ws := ws) h _ (by rw [hw]; exact List.mem_cons_self))
    cases hn.symm.trans hn9
    exact ⟨meth, c, h1, h2, h3, h4, h5, h6⟩
  · intro p e s m args below meth c s₁ B hml hP _
    have hh0 : s₁.heap = s.heap := by rw [B.state]; rfl
    obtain ⟨t, a1, o, b1, b2, b3⟩ := body p e s m args below meth c s₁ B hml hP s₁ hh0 (Stand.of_body B)
    exact ⟨t, o, a1, b1, b2, b3⟩
/-! ===== END ===== -/

/-! ===== BEGIN printed: names, fields, word lists, decode rows ===== -/
def RX0 : String := "KnotRugs$Baskets"
def TX0 : u_T := fun k => match k with
  | _ => ("KnotRugs$Baskets", "left", "[I", true)
def tyX0 : Nat → FieldType := fun k => match k with
  | _ => .array .int
abbrev wsX00 : List Cond := u_ws RX0 TX0 1
theorem nmX0 : ∀ a, a < 1 → ∀ b, b < 1 → a ≠ b → (TX0 a).2.1 ≠ (TX0 b).2.1 := by decide +kernel
theorem tyX0_ok : ∀ k, k < 1 → parseFieldDescriptor (TX0 k).2.2.1 = some (tyX0 k) := by decide +kernel
abbrev cX0_init : ByteArray := prog_2_method_1_code
def yX0_init : MethodName := ⟨RX0, "<init>", "()V"⟩
abbrev cX0_fill : ByteArray := prog_2_method_2_code
def yX0_fill : MethodName := ⟨RX0, "fill", "(II)I"⟩
abbrev cX0_take : ByteArray := prog_2_method_3_code
def yX0_take : MethodName := ⟨RX0, "take", "(I)I"⟩
abbrev cX0_inAll : ByteArray := prog_2_method_4_code
def yX0_inAll : MethodName := ⟨RX0, "inAll", "()I"⟩
abbrev cX0_empty : ByteArray := prog_2_method_5_code
def yX0_empty : MethodName := ⟨RX0, "empty", "()I"⟩
def RX1 : String := "KnotRugs$Rug"
def TX1 : u_T := fun k => match k with
  | 0 => ("KnotRugs$Rug", "leftWeaver", "LKnotRugs$Weaver;", true)
  | 1 => ("KnotRugs$Rug", "rightWeaver", "LKnotRugs$Weaver;", true)
  | 2 => ("KnotRugs$Rug", "baskets", "LKnotRugs$Baskets;", true)
  | 3 => ("KnotRugs$Rug", "hour", "I", false)
  | _ => ("KnotRugs$Rug", "unpicked", "I", false)
def tyX1 : Nat → FieldType := fun k => match k with
  | 0 => .object "KnotRugs$Weaver"
  | 1 => .object "KnotRugs$Weaver"
  | 2 => .object "KnotRugs$Baskets"
  | 3 => .int
  | _ => .int
abbrev wsX10 : List Cond := u_ws RX1 TX1 5
theorem nmX1 : ∀ a, a < 5 → ∀ b, b < 5 → a ≠ b → (TX1 a).2.1 ≠ (TX1 b).2.1 := by decide +kernel
theorem tyX1_ok : ∀ k, k < 5 → parseFieldDescriptor (TX1 k).2.2.1 = some (tyX1 k) := by decide +kernel
abbrev cX1_init : ByteArray := prog_3_method_1_code
def yX1_init : MethodName := ⟨RX1, "<init>", "()V"⟩
abbrev cX1_weaverAt : ByteArray := prog_3_method_2_code
def yX1_weaverAt : MethodName := ⟨RX1, "weaverAt", "(I)LKnotRugs$Weaver;"⟩
abbrev cX1_ownerOf : ByteArray := prog_3_method_3_code
def yX1_ownerOf : MethodName := ⟨RX1, "ownerOf", "(I)LKnotRugs$Weaver;"⟩
abbrev cX1_knotAt : ByteArray := prog_3_method_4_code
def yX1_knotAt : MethodName := ⟨RX1, "knotAt", "(II)I"⟩
abbrev cX1_planAt : ByteArray := prog_3_method_5_code
def yX1_planAt : MethodName := ⟨RX1, "planAt", "(II)I"⟩
abbrev cX1_becomeLike : ByteArray := prog_3_method_6_code
def yX1_becomeLike : MethodName := ⟨RX1, "becomeLike", "(LKnotRugs$Rug;)V"⟩
abbrev cX1_letGoBy : ByteArray := prog_3_method_7_code
def yX1_letGoBy : MethodName := ⟨RX1, "letGoBy", "(I)I"⟩
abbrev cX1_number : ByteArray := prog_3_method_8_code
def yX1_number : MethodName := ⟨RX1, "number", "(I)I"⟩
abbrev cX1_knots : ByteArray := prog_3_method_9_code
def yX1_knots : MethodName := ⟨RX1, "knots", "()I"⟩
abbrev cX1_offPlan : ByteArray := prog_3_method_10_code
def yX1_offPlan : MethodName := ⟨RX1, "offPlan", "()I"⟩
abbrev cX1_rowsDone : ByteArray := prog_3_method_11_code
def yX1_rowsDone : MethodName := ⟨RX1, "rowsDone", "()I"⟩
abbrev cX1_tornRows : ByteArray := prog_3_method_12_code
def yX1_tornRows : MethodName := ⟨RX1, "tornRows", "()I"⟩
def RX2 : String := "KnotRugs$Weaver"
def TX2 : u_T := fun k => match k with
  | 0 => ("KnotRugs$Weaver", "side", "I", true)
  | 1 => ("KnotRugs$Weaver", "planned", "[I", true)
  | 2 => ("KnotRugs$Weaver", "knotted", "[I", true)
  | 3 => ("KnotRugs$Weaver", "toldColours", "[I", true)
  | 4 => ("KnotRugs$Weaver", "toldKnots", "[I", true)
  | 5 => ("KnotRugs$Weaver", "speed", "I", false)
  | 6 => ("KnotRugs$Weaver", "told", "I", false)
  | 7 => ("KnotRugs$Weaver", "made", "I", false)
  | _ => ("KnotRugs$Weaver", "inAnotherColour", "I", false)
def tyX2 : Nat → FieldType := fun k => match k with
  | 0 => .int
  | 1 => .array .int
  | 2 => .array .int
  | 3 => .array .int
  | 4 => .array .int
  | 5 => .int
  | 6 => .int
  | 7 => .int
  | _ => .int
abbrev wsX20 : List Cond := u_ws RX2 TX2 9
theorem nmX2 : ∀ a, a < 9 → ∀ b, b < 9 → a ≠ b → (TX2 a).2.1 ≠ (TX2 b).2.1 := by decide +kernel
theorem tyX2_ok : ∀ k, k < 9 → parseFieldDescriptor (TX2 k).2.2.1 = some (tyX2 k) := by decide +kernel
abbrev cX2_init : ByteArray := prog_4_method_1_code
def yX2_init : MethodName := ⟨RX2, "<init>", "(I)V"⟩
abbrev cX2_becomeLike : ByteArray := prog_4_method_2_code
def yX2_becomeLike : MethodName := ⟨RX2, "becomeLike", "(LKnotRugs$Weaver;)V"⟩
abbrev cX2_planCell : ByteArray := prog_4_method_3_code
def yX2_planCell : MethodName := ⟨RX2, "planCell", "(II)Z"⟩
abbrev cX2_knotAtPlace : ByteArray := prog_4_method_4_code
def yX2_knotAtPlace : MethodName := ⟨RX2, "knotAtPlace", "(I)I"⟩
abbrev cX2_isHalfDone : ByteArray := prog_4_method_5_code
def yX2_isHalfDone : MethodName := ⟨RX2, "isHalfDone", "()Z"⟩
abbrev cX2_hasWork : ByteArray := prog_4_method_6_code
def yX2_hasWork : MethodName := ⟨RX2, "hasWork", "()Z"⟩
abbrev cX2_rowsDone : ByteArray := prog_4_method_7_code
def yX2_rowsDone : MethodName := ⟨RX2, "rowsDone", "()I"⟩
abbrev cX2_addRun : ByteArray := prog_4_method_8_code
def yX2_addRun : MethodName := ⟨RX2, "addRun", "(II)V"⟩
abbrev cX2_toldInAll : ByteArray := prog_4_method_9_code
def yX2_toldInAll : MethodName := ⟨RX2, "toldInAll", "()I"⟩
abbrev cX2_workAnHour : ByteArray := prog_4_method_10_code
def yX2_workAnHour : MethodName := ⟨RX2, "workAnHour", "(LKnotRugs$Baskets;)I"⟩
abbrev cX2_knotNext : ByteArray := prog_4_method_11_code
def yX2_knotNext : MethodName := ⟨RX2, "knotNext", "(LKnotRugs$Baskets;)Z"⟩
abbrev cX2_shortenFirstRun : ByteArray := prog_4_method_12_code
def yX2_shortenFirstRun : MethodName := ⟨RX2, "shortenFirstRun", "()V"⟩
abbrev cX2_undo : ByteArray := prog_4_method_13_code
def yX2_undo : MethodName := ⟨RX2, "undo", "(ILKnotRugs$Baskets;)V"⟩
abbrev cX2_number : ByteArray := prog_4_method_14_code
def yX2_number : MethodName := ⟨RX2, "number", "(I)I"⟩
abbrev cX2_nextX : ByteArray := prog_4_method_15_code
def yX2_nextX : MethodName := ⟨RX2, "nextX", "()I"⟩
abbrev cX2_offPlan : ByteArray := prog_4_method_16_code
def yX2_offPlan : MethodName := ⟨RX2, "offPlan", "()I"⟩
abbrev cX2_firstOffPlan : ByteArray := prog_4_method_17_code
def yX2_firstOffPlan : MethodName := ⟨RX2, "firstOffPlan", "()I"⟩
abbrev cX2_alikeAhead : ByteArray := prog_4_method_18_code
def yX2_alikeAhead : MethodName := ⟨RX2, "alikeAhead", "()I"⟩
abbrev cX2_fewestRuns : ByteArray := prog_4_method_19_code
def yX2_fewestRuns : MethodName := ⟨RX2, "fewestRuns", "()I"⟩
abbrev cX2_mixInto : ByteArray := prog_4_method_20_code
def yX2_mixInto : MethodName := ⟨RX2, "mixInto", "(J)J"⟩
def RX3 : String := "KnotRugs"
def TX3 : u_T := fun k => match k with
  | 0 => ("KnotRugs", "rug", "LKnotRugs$Rug;", true)
  | _ => ("KnotRugs", "trial", "LKnotRugs$Rug;", true)
def tyX3 : Nat → FieldType := fun k => match k with
  | 0 => .object "KnotRugs$Rug"
  | _ => .object "KnotRugs$Rug"
abbrev wsX30 : List Cond := u_ws RX3 TX3 2
theorem nmX3 : ∀ a, a < 2 → ∀ b, b < 2 → a ≠ b → (TX3 a).2.1 ≠ (TX3 b).2.1 := by decide +kernel
theorem tyX3_ok : ∀ k, k < 2 → parseFieldDescriptor (TX3 k).2.2.1 = some (tyX3 k) := by decide +kernel
abbrev cX3_init : ByteArray := prog_1_method_1_code
def yX3_init : MethodName := ⟨RX3, "<init>", "()V"⟩
abbrev cX3_plan : ByteArray := prog_1_method_2_code
def yX3_plan : MethodName := ⟨RX3, "plan", "(IIIII)I"⟩
abbrev cX3_bring : ByteArray := prog_1_method_3_code
def yX3_bring : MethodName := ⟨RX3, "bring", "(II)I"⟩
abbrev cX3_setSpeed : ByteArray := prog_1_method_4_code
def yX3_setSpeed : MethodName := ⟨RX3, "setSpeed", "(II)I"⟩
abbrev cX3_tell : ByteArray := prog_1_method_5_code
def yX3_tell : MethodName := ⟨RX3, "tell", "(III)I"⟩
abbrev cX3_hush : ByteArray := prog_1_method_6_code
def yX3_hush : MethodName := ⟨RX3, "hush", "(I)I"⟩
abbrev cX3_unpick : ByteArray := prog_1_method_7_code
def yX3_unpick : MethodName := ⟨RX3, "unpick", "(II)I"⟩
abbrev cX3_cell : ByteArray := prog_1_method_8_code
def yX3_cell : MethodName := ⟨RX3, "cell", "(III)I"⟩
abbrev cX3_sees : ByteArray := prog_1_method_9_code
def yX3_sees : MethodName := ⟨RX3, "sees", "(III)I"⟩
abbrev cX3_weaver : ByteArray := prog_1_method_10_code
def yX3_weaver : MethodName := ⟨RX3, "weaver", "(II)I"⟩
abbrev cX3_run : ByteArray := prog_1_method_11_code
def yX3_run : MethodName := ⟨RX3, "run", "(III)I"⟩
abbrev cX3_count : ByteArray := prog_1_method_12_code
def yX3_count : MethodName := ⟨RX3, "count", "(I)I"⟩
abbrev cX3_wool : ByteArray := prog_1_method_13_code
def yX3_wool : MethodName := ⟨RX3, "wool", "(I)I"⟩
abbrev cX3_advise : ByteArray := prog_1_method_14_code
def yX3_advise : MethodName := ⟨RX3, "advise", "(I)I"⟩
abbrev cX3_runs : ByteArray := prog_1_method_15_code
def yX3_runs : MethodName := ⟨RX3, "runs", "(I)I"⟩
abbrev cX3_mends : ByteArray := prog_1_method_16_code
def yX3_mends : MethodName := ⟨RX3, "mends", "(I)I"⟩
abbrev cX3_pass : ByteArray := prog_1_method_17_code
def yX3_pass : MethodName := ⟨RX3, "pass", "(I)I"⟩
abbrev cX3_done : ByteArray := prog_1_method_18_code
def yX3_done : MethodName := ⟨RX3, "done", "(I)I"⟩
abbrev cX3_foresee : ByteArray := prog_1_method_19_code
def yX3_foresee : MethodName := ⟨RX3, "foresee", "(II)I"⟩
abbrev cX3_share : ByteArray := prog_1_method_20_code
def yX3_share : MethodName := ⟨RX3, "share", "()D"⟩
abbrev cX3_digest : ByteArray := prog_1_method_21_code
def yX3_digest : MethodName := ⟨RX3, "digest", "()J"⟩
abbrev cX3_checkWeaver : ByteArray := prog_1_method_22_code
def yX3_checkWeaver : MethodName := ⟨RX3, "checkWeaver", "(I)V"⟩
abbrev cX3_checkCell : ByteArray := prog_1_method_23_code
def yX3_checkCell : MethodName := ⟨RX3, "checkCell", "(II)V"⟩
abbrev cX3_checkColour : ByteArray := prog_1_method_24_code
def yX3_checkColour : MethodName := ⟨RX3, "checkColour", "(I)V"⟩
abbrev cX3_checkIndex : ByteArray := prog_1_method_25_code
def yX3_checkIndex : MethodName := ⟨RX3, "checkIndex", "(II)V"⟩
abbrev cX3_checkRange : ByteArray := prog_1_method_26_code
def yX3_checkRange : MethodName := ⟨RX3, "checkRange", "(III)V"⟩
abbrev cX3_at : ByteArray := prog_1_method_27_code
def yX3_at : MethodName := ⟨RX3, "at", "([II)I"⟩
abbrev cX3_put : ByteArray := prog_1_method_28_code
def yX3_put : MethodName := ⟨RX3, "put", "([III)V"⟩
abbrev cX3_copyRow : ByteArray := prog_1_method_29_code
def yX3_copyRow : MethodName := ⟨RX3, "copyRow", "([I[I)V"⟩
abbrev cX3_sideOf : ByteArray := prog_1_method_30_code
def yX3_sideOf : MethodName := ⟨RX3, "sideOf", "(I)I"⟩
abbrev cX3_placeOf : ByteArray := prog_1_method_31_code
def yX3_placeOf : MethodName := ⟨RX3, "placeOf", "(II)I"⟩
abbrev cX3_mix : ByteArray := prog_1_method_32_code
def yX3_mix : MethodName := ⟨RX3, "mix", "(JI)J"⟩
def RX4 : String := "KnotRugsModel"
def TX4 : u_T := fun k => match k with
  | 0 => ("KnotRugsModel", "thrown", "I", false)
  | 1 => ("KnotRugsModel", "people", "[I", true)
  | 2 => ("KnotRugsModel", "knots", "[I", true)
  | 3 => ("KnotRugsModel", "plan", "[I", true)
  | 4 => ("KnotRugsModel", "runs", "[I", true)
  | 5 => ("KnotRugsModel", "baskets", "[I", true)
  | _ => ("KnotRugsModel", "numbers", "[I", true)
def tyX4 : Nat → FieldType := fun k => match k with
  | 0 => .int
  | 1 => .array .int
  | 2 => .array .int
  | 3 => .array .int
  | 4 => .array .int
  | 5 => .array .int
  | _ => .array .int
abbrev wsX40 : List Cond := u_ws RX4 TX4 7
theorem nmX4 : ∀ a, a < 7 → ∀ b, b < 7 → a ≠ b → (TX4 a).2.1 ≠ (TX4 b).2.1 := by decide +kernel
theorem tyX4_ok : ∀ k, k < 7 → parseFieldDescriptor (TX4 k).2.2.1 = some (tyX4 k) := by decide +kernel
abbrev cX4_init : ByteArray := prog_6_method_1_code
def yX4_init : MethodName := ⟨RX4, "<init>", "()V"⟩
abbrev cX4_thrown : ByteArray := prog_6_method_2_code
def yX4_thrown : MethodName := ⟨RX4, "thrown", "()I"⟩
abbrev cX4_fail : ByteArray := prog_6_method_3_code
def yX4_fail : MethodName := ⟨RX4, "fail", "(I)I"⟩
abbrev cX4_isIn : ByteArray := prog_6_method_4_code
def yX4_isIn : MethodName := ⟨RX4, "isIn", "(III)Z"⟩
abbrev cX4_isWeaver : ByteArray := prog_6_method_5_code
def yX4_isWeaver : MethodName := ⟨RX4, "isWeaver", "(I)Z"⟩
abbrev cX4_isCell : ByteArray := prog_6_method_6_code
def yX4_isCell : MethodName := ⟨RX4, "isCell", "(II)Z"⟩
abbrev cX4_isColour : ByteArray := prog_6_method_7_code
def yX4_isColour : MethodName := ⟨RX4, "isColour", "(I)Z"⟩
abbrev cX4_pe : ByteArray := prog_6_method_8_code
def yX4_pe : MethodName := ⟨RX4, "pe", "(II)I"⟩
abbrev cX4_put : ByteArray := prog_6_method_9_code
def yX4_put : MethodName := ⟨RX4, "put", "(III)V"⟩
abbrev cX4_at : ByteArray := prog_6_method_10_code
def yX4_at : MethodName := ⟨RX4, "at", "(II)I"⟩
abbrev cX4_xOf : ByteArray := prog_6_method_11_code
def yX4_xOf : MethodName := ⟨RX4, "xOf", "(II)I"⟩
abbrev cX4_colour : ByteArray := prog_6_method_12_code
def yX4_colour : MethodName := ⟨RX4, "colour", "(II)I"⟩
abbrev cX4_plan : ByteArray := prog_6_method_13_code
def yX4_plan : MethodName := ⟨RX4, "plan", "(IIIII)I"⟩
abbrev cX4_bring : ByteArray := prog_6_method_14_code
def yX4_bring : MethodName := ⟨RX4, "bring", "(II)I"⟩
abbrev cX4_setSpeed : ByteArray := prog_6_method_15_code
def yX4_setSpeed : MethodName := ⟨RX4, "setSpeed", "(II)I"⟩
abbrev cX4_runAt : ByteArray := prog_6_method_16_code
def yX4_runAt : MethodName := ⟨RX4, "runAt", "(II)I"⟩
abbrev cX4_tell : ByteArray := prog_6_method_17_code
def yX4_tell : MethodName := ⟨RX4, "tell", "(III)I"⟩
abbrev cX4_told : ByteArray := prog_6_method_18_code
def yX4_told : MethodName := ⟨RX4, "told", "(I)I"⟩
abbrev cX4_hush : ByteArray := prog_6_method_19_code
def yX4_hush : MethodName := ⟨RX4, "hush", "(I)I"⟩
abbrev cX4_unpick : ByteArray := prog_6_method_20_code
def yX4_unpick : MethodName := ⟨RX4, "unpick", "(II)I"⟩
abbrev cX4_cell : ByteArray := prog_6_method_21_code
def yX4_cell : MethodName := ⟨RX4, "cell", "(III)I"⟩
abbrev cX4_sees : ByteArray := prog_6_method_22_code
def yX4_sees : MethodName := ⟨RX4, "sees", "(III)I"⟩
abbrev cX4_weaverTold : ByteArray := prog_6_method_23_code
def yX4_weaverTold : MethodName := ⟨RX4, "weaverTold", "(II)I"⟩
abbrev cX4_weaver : ByteArray := prog_6_method_24_code
def yX4_weaver : MethodName := ⟨RX4, "weaver", "(II)I"⟩
abbrev cX4_run : ByteArray := prog_6_method_25_code
def yX4_run : MethodName := ⟨RX4, "run", "(III)I"⟩
abbrev cX4_differ : ByteArray := prog_6_method_26_code
def yX4_differ : MethodName := ⟨RX4, "differ", "()I"⟩
abbrev cX4_doneRows : ByteArray := prog_6_method_27_code
def yX4_doneRows : MethodName := ⟨RX4, "doneRows", "()I"⟩
abbrev cX4_torn : ByteArray := prog_6_method_28_code
def yX4_torn : MethodName := ⟨RX4, "torn", "()I"⟩
abbrev cX4_counted : ByteArray := prog_6_method_29_code
def yX4_counted : MethodName := ⟨RX4, "counted", "(I)I"⟩
abbrev cX4_count : ByteArray := prog_6_method_30_code
def yX4_count : MethodName := ⟨RX4, "count", "(I)I"⟩
abbrev cX4_wool : ByteArray := prog_6_method_31_code
def yX4_wool : MethodName := ⟨RX4, "wool", "(I)I"⟩
abbrev cX4_runEnd : ByteArray := prog_6_method_32_code
def yX4_runEnd : MethodName := ⟨RX4, "runEnd", "(II)I"⟩
abbrev cX4_advise : ByteArray := prog_6_method_33_code
def yX4_advise : MethodName := ⟨RX4, "advise", "(I)I"⟩
abbrev cX4_runs : ByteArray := prog_6_method_34_code
def yX4_runs : MethodName := ⟨RX4, "runs", "(I)I"⟩
abbrev cX4_mends : ByteArray := prog_6_method_35_code
def yX4_mends : MethodName := ⟨RX4, "mends", "(I)I"⟩
abbrev cX4_isDone : ByteArray := prog_6_method_36_code
def yX4_isDone : MethodName := ⟨RX4, "isDone", "(I)Z"⟩
abbrev cX4_dropRun : ByteArray := prog_6_method_37_code
def yX4_dropRun : MethodName := ⟨RX4, "dropRun", "(I)V"⟩
abbrev cX4_knot : ByteArray := prog_6_method_38_code
def yX4_knot : MethodName := ⟨RX4, "knot", "(I)Z"⟩
abbrev cX4_hoursOn : ByteArray := prog_6_method_39_code
def yX4_hoursOn : MethodName := ⟨RX4, "hoursOn", "(I)V"⟩
abbrev cX4_pass : ByteArray := prog_6_method_40_code
def yX4_pass : MethodName := ⟨RX4, "pass", "(I)I"⟩
abbrev cX4_kept : ByteArray := prog_6_method_41_code
def yX4_kept : MethodName := ⟨RX4, "kept", "()[[I"⟩
abbrev cX4_bringBack : ByteArray := prog_6_method_42_code
def yX4_bringBack : MethodName := ⟨RX4, "bringBack", "([[I)V"⟩
abbrev cX4_done : ByteArray := prog_6_method_43_code
def yX4_done : MethodName := ⟨RX4, "done", "(I)I"⟩
abbrev cX4_foresee : ByteArray := prog_6_method_44_code
def yX4_foresee : MethodName := ⟨RX4, "foresee", "(II)I"⟩
abbrev cX4_share : ByteArray := prog_6_method_45_code
def yX4_share : MethodName := ⟨RX4, "share", "()D"⟩
abbrev cX4_digest : ByteArray := prog_6_method_46_code
def yX4_digest : MethodName := ⟨RX4, "digest", "()J"⟩
def RJx8e188 : String := "java/lang/Cloneable"
def TJx8e188 : u_T := fun k => match k with
  | _ => ("", "", "", false)
def tyJx8e188 : Nat → FieldType := fun k => match k with
  | _ => .int
abbrev wsJx8e1880 : List Cond := u_ws RJx8e188 TJx8e188 0
theorem nmJx8e188 : ∀ a, a < 0 → ∀ b, b < 0 → a ≠ b → (TJx8e188 a).2.1 ≠ (TJx8e188 b).2.1 := by decide +kernel
theorem tyJx8e188_ok : ∀ k, k < 0 → parseFieldDescriptor (TJx8e188 k).2.2.1 = some (tyJx8e188 k) := by decide +kernel
def RJ9 : String := "java/lang/Math"
def TJ9 : u_T := fun k => match k with
  | _ => ("", "", "", false)
def tyJ9 : Nat → FieldType := fun k => match k with
  | _ => .int
abbrev wsJ90 : List Cond := u_ws RJ9 TJ9 0
theorem nmJ9 : ∀ a, a < 0 → ∀ b, b < 0 → a ≠ b → (TJ9 a).2.1 ≠ (TJ9 b).2.1 := by decide +kernel
theorem tyJ9_ok : ∀ k, k < 0 → parseFieldDescriptor (TJ9 k).2.2.1 = some (tyJ9 k) := by decide +kernel
abbrev cJ9_min_7cf53 : ByteArray := prog_12_method_69_code
def yJ9_min_7cf53 : MethodName := ⟨RJ9, "min", "(II)I"⟩
def RJ0 : String := "java/lang/String"
def TJ0 : u_T := fun k => match k with
  | _ => ("", "", "", false)
def tyJ0 : Nat → FieldType := fun k => match k with
  | _ => .int
abbrev wsJ00 : List Cond := u_ws RJ0 TJ0 0
theorem nmJ0 : ∀ a, a < 0 → ∀ b, b < 0 → a ≠ b → (TJ0 a).2.1 ≠ (TJ0 b).2.1 := by decide +kernel
theorem tyJ0_ok : ∀ k, k < 0 → parseFieldDescriptor (TJ0 k).2.2.1 = some (tyJ0 k) := by decide +kernel
def RJ10 : String := "java/lang/System"
def TJ10 : u_T := fun k => match k with
  | _ => ("", "", "", false)
def tyJ10 : Nat → FieldType := fun k => match k with
  | _ => .int
abbrev wsJ100 : List Cond := u_ws RJ10 TJ10 0
theorem nmJ10 : ∀ a, a < 0 → ∀ b, b < 0 → a ≠ b → (TJ10 a).2.1 ≠ (TJ10 b).2.1 := by decide +kernel
theorem tyJ10_ok : ∀ k, k < 0 → parseFieldDescriptor (TJ10 k).2.2.1 = some (tyJ10 k) := by decide +kernel
def RL : String := "KnotRugsLaw"
abbrev cL_plan : ByteArray := method_3_code
def yL_plan : MethodName := ⟨RL, "plan", "(LKnotRugs;IIIII[J)I"⟩
abbrev cL_bring : ByteArray := method_4_code
def yL_bring : MethodName := ⟨RL, "bring", "(LKnotRugs;II[J)I"⟩
abbrev cL_setSpeed : ByteArray := method_5_code
def yL_setSpeed : MethodName := ⟨RL, "setSpeed", "(LKnotRugs;II[J)I"⟩
abbrev cL_tell : ByteArray := method_6_code
def yL_tell : MethodName := ⟨RL, "tell", "(LKnotRugs;III[J)I"⟩
abbrev cL_hush : ByteArray := method_7_code
def yL_hush : MethodName := ⟨RL, "hush", "(LKnotRugs;I[J)I"⟩
abbrev cL_unpick : ByteArray := method_8_code
def yL_unpick : MethodName := ⟨RL, "unpick", "(LKnotRugs;II[J)I"⟩
abbrev cL_cell : ByteArray := method_9_code
def yL_cell : MethodName := ⟨RL, "cell", "(LKnotRugs;III[J)I"⟩
abbrev cL_sees : ByteArray := method_10_code
def yL_sees : MethodName := ⟨RL, "sees", "(LKnotRugs;III[J)I"⟩
abbrev cL_weaver : ByteArray := method_11_code
def yL_weaver : MethodName := ⟨RL, "weaver", "(LKnotRugs;II[J)I"⟩
abbrev cL_run : ByteArray := method_12_code
def yL_run : MethodName := ⟨RL, "run", "(LKnotRugs;III[J)I"⟩
abbrev cL_count : ByteArray := method_13_code
def yL_count : MethodName := ⟨RL, "count", "(LKnotRugs;I[J)I"⟩
abbrev cL_wool : ByteArray := method_14_code
def yL_wool : MethodName := ⟨RL, "wool", "(LKnotRugs;I[J)I"⟩
abbrev cL_advise : ByteArray := method_15_code
def yL_advise : MethodName := ⟨RL, "advise", "(LKnotRugs;I[J)I"⟩
abbrev cL_runs : ByteArray := method_16_code
def yL_runs : MethodName := ⟨RL, "runs", "(LKnotRugs;I[J)I"⟩
abbrev cL_mends : ByteArray := method_17_code
def yL_mends : MethodName := ⟨RL, "mends", "(LKnotRugs;I[J)I"⟩
abbrev cL_pass : ByteArray := method_18_code
def yL_pass : MethodName := ⟨RL, "pass", "(LKnotRugs;I[J)I"⟩
abbrev cL_done : ByteArray := method_19_code
def yL_done : MethodName := ⟨RL, "done", "(LKnotRugs;I[J)I"⟩
abbrev cL_foresee : ByteArray := method_20_code
def yL_foresee : MethodName := ⟨RL, "foresee", "(LKnotRugs;II[J)I"⟩
abbrev cL_law : ByteArray := code
def yL_law : MethodName := ⟨RL, "law", "([I)Z"⟩
def wsX0_init : List Cond := .code yX0_init cX0_init 2 none :: ([.methodLink RX0 3 objectInit, .instanceMethod objectInit, .code objectInit ⟨#[0xb1]⟩ 1 none, .arrayClass .int, .fieldLink RX0 9 "KnotRugs$Baskets" "left" "[I"] ++ wsX00)
def wsX3_at : List Cond := .code yX3_at cX3_at 2 (some .int) :: ([])
def wsX3_put : List Cond := .code yX3_put cX3_put 3 none :: ([])
def wsX0_fill : List Cond := .code yX0_fill cX0_fill 4 (some .int) :: ([.fieldLink RX0 9 "KnotRugs$Baskets" "left" "[I", .methodLink RX0 19 Lib.Math.min.name, .static Lib.Math.min.name, .initialized "java/lang/Math", .code Lib.Math.min.name Lib.Math.min.code 2 (some .int), .static yX3_at, .initialized RX3, .code yX3_at cX3_at 2 (some .int), .static yX3_put, .code yX3_put cX3_put 3 none] ++ wsX00)
def wsX0_take : List Cond := .code yX0_take cX0_take 5 (some .int) :: ([.fieldLink RX0 9 "KnotRugs$Baskets" "left" "[I", .static yX3_at, .initialized RX3, .code yX3_at cX3_at 2 (some .int), .static yX3_put, .code yX3_put cX3_put 3 none] ++ wsX00)
def wsX0_inAll : List Cond := .code yX0_inAll cX0_inAll 3 (some .int) :: ([.fieldLink RX0 9 "KnotRugs$Baskets" "left" "[I", .static yX3_at, .initialized RX3, .code yX3_at cX3_at 2 (some .int)] ++ wsX00)
def wsX0_empty : List Cond := .code yX0_empty cX0_empty 3 (some .int) :: ([.fieldLink RX0 9 "KnotRugs$Baskets" "left" "[I", .static yX3_at, .initialized RX3, .code yX3_at cX3_at 2 (some .int)] ++ wsX00)
def wsX2_init : List Cond := .code yX2_init cX2_init 2 none :: ([.methodLink RX2 3 objectInit, .instanceMethod objectInit, .code objectInit ⟨#[0xb1]⟩ 1 none, .arrayClass .int, .fieldLink RX2 9 "KnotRugs$Weaver" "planned" "[I", .fieldLink RX2 15 "KnotRugs$Weaver" "knotted" "[I", .fieldLink RX2 18 "KnotRugs$Weaver" "toldColours" "[I", .fieldLink RX2 21 "KnotRugs$Weaver" "toldKnots" "[I", .fieldLink RX2 24 "KnotRugs$Weaver" "speed" "I", .fieldLink RX2 28 "KnotRugs$Weaver" "told" "I", .fieldLink RX2 31 "KnotRugs$Weaver" "made" "I", .fieldLink RX2 34 "KnotRugs$Weaver" "inAnotherColour" "I", .fieldLink RX2 37 "KnotRugs$Weaver" "side" "I"] ++ wsX20)
def wsX1_init_r1 : List Cond := [Cond.methodLink RX1 3 objectInit, Cond.instanceMethod objectInit, Cond.code objectInit ⟨#[0xb1]⟩ 1 none, Cond.classLink RX1 9 RX2, Cond.instantiable RX2 9, Cond.initialized RX2, Cond.fieldLink RX1 14 "KnotRugs$Rug" "leftWeaver" "LKnotRugs$Weaver;", Cond.fieldLink RX1 20 "KnotRugs$Rug" "rightWeaver" "LKnotRugs$Weaver;", Cond.classLink RX1 23 RX0, Cond.instantiable RX0 1, Cond.initialized RX0, Cond.fieldLink RX1 26 "KnotRugs$Rug" "baskets" "LKnotRugs$Baskets;", Cond.fieldLink RX1 30 "KnotRugs$Rug" "hour" "I", Cond.fieldLink RX1 34 "KnotRugs$Rug" "unpicked" "I", Cond.methodLink RX1 11 yX2_init, Cond.instanceMethod yX2_init, Cond.code yX2_init cX2_init 2 none, Cond.methodLink RX2 3 objectInit, Cond.arrayClass .int, Cond.fieldLink RX2 9 "KnotRugs$Weaver" "planned" "[I", Cond.fieldLink RX2 15 "KnotRugs$Weaver" "knotted" "[I", Cond.fieldLink RX2 18 "KnotRugs$Weaver" "toldColours" "[I", Cond.fieldLink RX2 21 "KnotRugs$Weaver" "toldKnots" "[I", Cond.fieldLink RX2 24 "KnotRugs$Weaver" "speed" "I"]
def wsX1_init_r2 : List Cond := [Cond.fieldLink RX2 28 "KnotRugs$Weaver" "told" "I", Cond.fieldLink RX2 31 "KnotRugs$Weaver" "made" "I", Cond.fieldLink RX2 34 "KnotRugs$Weaver" "inAnotherColour" "I", Cond.fieldLink RX2 37 "KnotRugs$Weaver" "side" "I", Cond.methodLink RX1 25 yX0_init, Cond.instanceMethod yX0_init, Cond.code yX0_init cX0_init 2 none, Cond.methodLink RX0 3 objectInit, Cond.fieldLink RX0 9 "KnotRugs$Baskets" "left" "[I"]
def wsX1_init : List Cond := .code yX1_init cX1_init 1 none :: ((wsX1_init_r1 ++ wsX1_init_r2) ++ wsX20 ++ wsX10 ++ wsX00)
def wsX1_weaverAt : List Cond := .code yX1_weaverAt cX1_weaverAt 2 (some (.object "KnotRugs$Weaver")) :: ([.fieldLink RX1 14 "KnotRugs$Rug" "leftWeaver" "LKnotRugs$Weaver;", .fieldLink RX1 20 "KnotRugs$Rug" "rightWeaver" "LKnotRugs$Weaver;"] ++ wsX10)
def wsX3_sideOf : List Cond := .code yX3_sideOf cX3_sideOf 1 (some .int) :: ([])
def wsX1_ownerOf : List Cond := .code yX1_ownerOf cX1_ownerOf 2 (some (.object "KnotRugs$Weaver")) :: ([.static yX3_sideOf, .initialized RX3, .code yX3_sideOf cX3_sideOf 1 (some .int), .methodLink RX1 41 yX1_weaverAt, .instanceMethod yX1_weaverAt, .selects RX1 yX1_weaverAt yX1_weaverAt, .initialized RX1, .code yX1_weaverAt cX1_weaverAt 2 (some (.object "KnotRugs$Weaver")), .fieldLink RX1 14 "KnotRugs$Rug" "leftWeaver" "LKnotRugs$Weaver;", .fieldLink RX1 20 "KnotRugs$Rug" "rightWeaver" "LKnotRugs$Weaver;"] ++ wsX10)
def wsX3_placeOf : List Cond := .code yX3_placeOf cX3_placeOf 2 (some .int) :: ([])
def wsX2_knotAtPlace : List Cond := .code yX2_knotAtPlace cX2_knotAtPlace 2 (some .int) :: ([.fieldLink RX2 31 "KnotRugs$Weaver" "made" "I", .fieldLink RX2 15 "KnotRugs$Weaver" "knotted" "[I", .static yX3_at, .initialized RX3, .code yX3_at cX3_at 2 (some .int)] ++ wsX20)
def wsX1_knotAt_r1 : List Cond := [Cond.methodLink RX1 45 yX1_ownerOf, Cond.instanceMethod yX1_ownerOf, Cond.selects RX1 yX1_ownerOf yX1_ownerOf, Cond.initialized RX1, Cond.code yX1_ownerOf cX1_ownerOf 2 (some (.object "KnotRugs$Weaver")), Cond.static yX3_sideOf, Cond.initialized RX3, Cond.code yX3_sideOf cX3_sideOf 1 (some .int), Cond.methodLink RX1 41 yX1_weaverAt, Cond.instanceMethod yX1_weaverAt, Cond.selects RX1 yX1_weaverAt yX1_weaverAt, Cond.code yX1_weaverAt cX1_weaverAt 2 (some (.object "KnotRugs$Weaver")), Cond.fieldLink RX1 14 "KnotRugs$Rug" "leftWeaver" "LKnotRugs$Weaver;", Cond.fieldLink RX1 20 "KnotRugs$Rug" "rightWeaver" "LKnotRugs$Weaver;", Cond.static yX3_placeOf, Cond.code yX3_placeOf cX3_placeOf 2 (some .int), Cond.methodLink RX1 52 yX2_knotAtPlace, Cond.instanceMethod yX2_knotAtPlace, Cond.selects RX2 yX2_knotAtPlace yX2_knotAtPlace, Cond.initialized RX2, Cond.code yX2_knotAtPlace cX2_knotAtPlace 2 (some .int), Cond.fieldLink RX2 31 "KnotRugs$Weaver" "made" "I", Cond.fieldLink RX2 15 "KnotRugs$Weaver" "knotted" "[I", Cond.static yX3_at]
def wsX1_knotAt_r2 : List Cond := [Cond.code yX3_at cX3_at 2 (some .int)]
def wsX1_knotAt : List Cond := .code yX1_knotAt cX1_knotAt 3 (some .int) :: ((wsX1_knotAt_r1 ++ wsX1_knotAt_r2) ++ wsX10 ++ wsX20)
def wsX1_planAt : List Cond := .code yX1_planAt cX1_planAt 3 (some .int) :: ([.methodLink RX1 45 yX1_ownerOf, .instanceMethod yX1_ownerOf, .selects RX1 yX1_ownerOf yX1_ownerOf, .initialized RX1, .code yX1_ownerOf cX1_ownerOf 2 (some (.object "KnotRugs$Weaver")), .static yX3_sideOf, .initialized RX3, .code yX3_sideOf cX3_sideOf 1 (some .int), .methodLink RX1 41 yX1_weaverAt, .instanceMethod yX1_weaverAt, .selects RX1 yX1_weaverAt yX1_weaverAt, .code yX1_weaverAt cX1_weaverAt 2 (some (.object "KnotRugs$Weaver")), .fieldLink RX1 14 "KnotRugs$Rug" "leftWeaver" "LKnotRugs$Weaver;", .fieldLink RX1 20 "KnotRugs$Rug" "rightWeaver" "LKnotRugs$Weaver;", .static yX3_placeOf, .code yX3_placeOf cX3_placeOf 2 (some .int), .static yX3_at, .code yX3_at cX3_at 2 (some .int)] ++ wsX20 ++ wsX10)
def wsX3_copyRow : List Cond := .code yX3_copyRow cX3_copyRow 3 none :: ([])
def wsX2_becomeLike : List Cond := .code yX2_becomeLike cX2_becomeLike 2 none :: ([.fieldLink RX2 9 "KnotRugs$Weaver" "planned" "[I", .fieldLink RX2 15 "KnotRugs$Weaver" "knotted" "[I", .fieldLink RX2 18 "KnotRugs$Weaver" "toldColours" "[I", .fieldLink RX2 21 "KnotRugs$Weaver" "toldKnots" "[I", .fieldLink RX2 24 "KnotRugs$Weaver" "speed" "I", .fieldLink RX2 28 "KnotRugs$Weaver" "told" "I", .fieldLink RX2 31 "KnotRugs$Weaver" "made" "I", .fieldLink RX2 34 "KnotRugs$Weaver" "inAnotherColour" "I", .static yX3_copyRow, .initialized RX3, .code yX3_copyRow cX3_copyRow 3 none] ++ wsX20)
def wsX1_becomeLike : List Cond := .code yX1_becomeLike cX1_becomeLike 2 none :: ([.fieldLink RX1 14 "KnotRugs$Rug" "leftWeaver" "LKnotRugs$Weaver;", .fieldLink RX1 20 "KnotRugs$Rug" "rightWeaver" "LKnotRugs$Weaver;", .fieldLink RX1 26 "KnotRugs$Rug" "baskets" "LKnotRugs$Baskets;", .fieldLink RX1 30 "KnotRugs$Rug" "hour" "I", .fieldLink RX1 34 "KnotRugs$Rug" "unpicked" "I", .methodLink RX1 63 yX2_becomeLike, .instanceMethod yX2_becomeLike, .selects RX2 yX2_becomeLike yX2_becomeLike, .initialized RX2, .code yX2_becomeLike cX2_becomeLike 2 none, .fieldLink RX2 9 "KnotRugs$Weaver" "planned" "[I", .fieldLink RX2 15 "KnotRugs$Weaver" "knotted" "[I", .fieldLink RX2 18 "KnotRugs$Weaver" "toldColours" "[I", .fieldLink RX2 21 "KnotRugs$Weaver" "toldKnots" "[I", .fieldLink RX2 24 "KnotRugs$Weaver" "speed" "I", .fieldLink RX2 28 "KnotRugs$Weaver" "told" "I", .fieldLink RX2 31 "KnotRugs$Weaver" "made" "I", .fieldLink RX2 34 "KnotRugs$Weaver" "inAnotherColour" "I", .static yX3_copyRow, .initialized RX3, .code yX3_copyRow cX3_copyRow 3 none] ++ wsX10 ++ wsX00 ++ wsX20)
def wsX2_isHalfDone : List Cond := .code yX2_isHalfDone cX2_isHalfDone 1 (some .boolean) :: ([.fieldLink RX2 31 "KnotRugs$Weaver" "made" "I"] ++ wsX20)
def wsX2_hasWork : List Cond := .code yX2_hasWork cX2_hasWork 1 (some .boolean) :: ([.fieldLink RX2 28 "KnotRugs$Weaver" "told" "I", .methodLink RX2 52 yX2_isHalfDone, .instanceMethod yX2_isHalfDone, .selects RX2 yX2_isHalfDone yX2_isHalfDone, .initialized RX2, .code yX2_isHalfDone cX2_isHalfDone 1 (some .boolean), .fieldLink RX2 31 "KnotRugs$Weaver" "made" "I"] ++ wsX20)
def wsX2_shortenFirstRun : List Cond := .code yX2_shortenFirstRun cX2_shortenFirstRun 3 none :: ([.fieldLink RX2 21 "KnotRugs$Weaver" "toldKnots" "[I", .fieldLink RX2 28 "KnotRugs$Weaver" "told" "I", .fieldLink RX2 18 "KnotRugs$Weaver" "toldColours" "[I", .static yX3_at, .initialized RX3, .code yX3_at cX3_at 2 (some .int), .static yX3_put, .code yX3_put cX3_put 3 none] ++ wsX20)
def wsX2_knotNext : List Cond := .code yX2_knotNext cX2_knotNext 4 (some .boolean) :: ([.fieldLink RX2 18 "KnotRugs$Weaver" "toldColours" "[I", .fieldLink RX2 15 "KnotRugs$Weaver" "knotted" "[I", .fieldLink RX2 31 "KnotRugs$Weaver" "made" "I", .fieldLink RX2 34 "KnotRugs$Weaver" "inAnotherColour" "I", .static yX3_at, .initialized RX3, .code yX3_at cX3_at 2 (some .int), .methodLink RX2 63 yX0_take, .instanceMethod yX0_take, .selects RX0 yX0_take yX0_take, .initialized RX0, .code yX0_take cX0_take 5 (some .int), .fieldLink RX0 9 "KnotRugs$Baskets" "left" "[I", .static yX3_put, .code yX3_put cX3_put 3 none, .methodLink RX2 69 yX2_shortenFirstRun, .instanceMethod yX2_shortenFirstRun, .selects RX2 yX2_shortenFirstRun yX2_shortenFirstRun, .initialized RX2, .code yX2_shortenFirstRun cX2_shortenFirstRun 3 none, .fieldLink RX2 21 "KnotRugs$Weaver" "toldKnots" "[I", .fieldLink RX2 28 "KnotRugs$Weaver" "told" "I"] ++ wsX20 ++ wsX00)
def wsX2_workAnHour_r1 : List Cond := [Cond.fieldLink RX2 24 "KnotRugs$Weaver" "speed" "I", Cond.methodLink RX2 56 yX2_hasWork, Cond.instanceMethod yX2_hasWork, Cond.selects RX2 yX2_hasWork yX2_hasWork, Cond.initialized RX2, Cond.code yX2_hasWork cX2_hasWork 1 (some .boolean), Cond.fieldLink RX2 28 "KnotRugs$Weaver" "told" "I", Cond.methodLink RX2 52 yX2_isHalfDone, Cond.instanceMethod yX2_isHalfDone, Cond.selects RX2 yX2_isHalfDone yX2_isHalfDone, Cond.code yX2_isHalfDone cX2_isHalfDone 1 (some .boolean), Cond.fieldLink RX2 31 "KnotRugs$Weaver" "made" "I", Cond.methodLink RX2 59 yX2_knotNext, Cond.instanceMethod yX2_knotNext, Cond.selects RX2 yX2_knotNext yX2_knotNext, Cond.code yX2_knotNext cX2_knotNext 4 (some .boolean), Cond.fieldLink RX2 18 "KnotRugs$Weaver" "toldColours" "[I", Cond.fieldLink RX2 15 "KnotRugs$Weaver" "knotted" "[I", Cond.fieldLink RX2 34 "KnotRugs$Weaver" "inAnotherColour" "I", Cond.static yX3_at, Cond.initialized RX3, Cond.code yX3_at cX3_at 2 (some .int), Cond.methodLink RX2 63 yX0_take, Cond.instanceMethod yX0_take]
def wsX2_workAnHour_r2 : List Cond := [Cond.selects RX0 yX0_take yX0_take, Cond.initialized RX0, Cond.code yX0_take cX0_take 5 (some .int), Cond.fieldLink RX0 9 "KnotRugs$Baskets" "left" "[I", Cond.static yX3_put, Cond.code yX3_put cX3_put 3 none, Cond.methodLink RX2 69 yX2_shortenFirstRun, Cond.instanceMethod yX2_shortenFirstRun, Cond.selects RX2 yX2_shortenFirstRun yX2_shortenFirstRun, Cond.code yX2_shortenFirstRun cX2_shortenFirstRun 3 none, Cond.fieldLink RX2 21 "KnotRugs$Weaver" "toldKnots" "[I"]
def wsX2_workAnHour : List Cond := .code yX2_workAnHour cX2_workAnHour 3 (some .int) :: ((wsX2_workAnHour_r1 ++ wsX2_workAnHour_r2) ++ wsX20 ++ wsX00)
def wsX1_letGoBy_r1 : List Cond := [Cond.fieldLink RX1 14 "KnotRugs$Rug" "leftWeaver" "LKnotRugs$Weaver;", Cond.fieldLink RX1 26 "KnotRugs$Rug" "baskets" "LKnotRugs$Baskets;", Cond.fieldLink RX1 20 "KnotRugs$Rug" "rightWeaver" "LKnotRugs$Weaver;", Cond.fieldLink RX1 30 "KnotRugs$Rug" "hour" "I", Cond.methodLink RX1 74 yX2_workAnHour, Cond.instanceMethod yX2_workAnHour, Cond.selects RX2 yX2_workAnHour yX2_workAnHour, Cond.initialized RX2, Cond.code yX2_workAnHour cX2_workAnHour 3 (some .int), Cond.fieldLink RX2 24 "KnotRugs$Weaver" "speed" "I", Cond.methodLink RX2 56 yX2_hasWork, Cond.instanceMethod yX2_hasWork, Cond.selects RX2 yX2_hasWork yX2_hasWork, Cond.code yX2_hasWork cX2_hasWork 1 (some .boolean), Cond.fieldLink RX2 28 "KnotRugs$Weaver" "told" "I", Cond.methodLink RX2 52 yX2_isHalfDone, Cond.instanceMethod yX2_isHalfDone, Cond.selects RX2 yX2_isHalfDone yX2_isHalfDone, Cond.code yX2_isHalfDone cX2_isHalfDone 1 (some .boolean), Cond.fieldLink RX2 31 "KnotRugs$Weaver" "made" "I", Cond.methodLink RX2 59 yX2_knotNext, Cond.instanceMethod yX2_knotNext, Cond.selects RX2 yX2_knotNext yX2_knotNext, Cond.code yX2_knotNext cX2_knotNext 4 (some .boolean)]
def wsX1_letGoBy_r2 : List Cond := [Cond.fieldLink RX2 18 "KnotRugs$Weaver" "toldColours" "[I", Cond.fieldLink RX2 15 "KnotRugs$Weaver" "knotted" "[I", Cond.fieldLink RX2 34 "KnotRugs$Weaver" "inAnotherColour" "I", Cond.static yX3_at, Cond.initialized RX3, Cond.code yX3_at cX3_at 2 (some .int), Cond.methodLink RX2 63 yX0_take, Cond.instanceMethod yX0_take, Cond.selects RX0 yX0_take yX0_take, Cond.initialized RX0, Cond.code yX0_take cX0_take 5 (some .int), Cond.fieldLink RX0 9 "KnotRugs$Baskets" "left" "[I", Cond.static yX3_put, Cond.code yX3_put cX3_put 3 none, Cond.methodLink RX2 69 yX2_shortenFirstRun, Cond.instanceMethod yX2_shortenFirstRun, Cond.selects RX2 yX2_shortenFirstRun yX2_shortenFirstRun, Cond.code yX2_shortenFirstRun cX2_shortenFirstRun 3 none, Cond.fieldLink RX2 21 "KnotRugs$Weaver" "toldKnots" "[I"]
def wsX1_letGoBy : List Cond := .code yX1_letGoBy cX1_letGoBy 4 (some .int) :: ((wsX1_letGoBy_r1 ++ wsX1_letGoBy_r2) ++ wsX10 ++ wsX20 ++ wsX00)
def wsX1_knots : List Cond := .code yX1_knots cX1_knots 1 (some .int) :: ([.fieldLink RX1 14 "KnotRugs$Rug" "leftWeaver" "LKnotRugs$Weaver;", .fieldLink RX1 20 "KnotRugs$Rug" "rightWeaver" "LKnotRugs$Weaver;"] ++ wsX10 ++ wsX20)
def wsX2_offPlan : List Cond := .code yX2_offPlan cX2_offPlan 3 (some .int) :: ([.fieldLink RX2 31 "KnotRugs$Weaver" "made" "I", .fieldLink RX2 15 "KnotRugs$Weaver" "knotted" "[I", .fieldLink RX2 9 "KnotRugs$Weaver" "planned" "[I", .static yX3_at, .initialized RX3, .code yX3_at cX3_at 2 (some .int)] ++ wsX20)
def wsX1_offPlan : List Cond := .code yX1_offPlan cX1_offPlan 1 (some .int) :: ([.fieldLink RX1 14 "KnotRugs$Rug" "leftWeaver" "LKnotRugs$Weaver;", .fieldLink RX1 20 "KnotRugs$Rug" "rightWeaver" "LKnotRugs$Weaver;", .methodLink RX1 100 yX2_offPlan, .instanceMethod yX2_offPlan, .selects RX2 yX2_offPlan yX2_offPlan, .initialized RX2, .code yX2_offPlan cX2_offPlan 3 (some .int), .fieldLink RX2 31 "KnotRugs$Weaver" "made" "I", .fieldLink RX2 15 "KnotRugs$Weaver" "knotted" "[I", .fieldLink RX2 9 "KnotRugs$Weaver" "planned" "[I", .static yX3_at, .initialized RX3, .code yX3_at cX3_at 2 (some .int)] ++ wsX10 ++ wsX20)
def wsX2_rowsDone : List Cond := .code yX2_rowsDone cX2_rowsDone 1 (some .int) :: ([.fieldLink RX2 31 "KnotRugs$Weaver" "made" "I"] ++ wsX20)
def wsX1_rowsDone : List Cond := .code yX1_rowsDone cX1_rowsDone 1 (some .int) :: ([.fieldLink RX1 14 "KnotRugs$Rug" "leftWeaver" "LKnotRugs$Weaver;", .fieldLink RX1 20 "KnotRugs$Rug" "rightWeaver" "LKnotRugs$Weaver;", .methodLink RX1 102 Lib.Math.min.name, .static Lib.Math.min.name, .initialized "java/lang/Math", .code Lib.Math.min.name Lib.Math.min.code 2 (some .int), .methodLink RX1 101 yX2_rowsDone, .instanceMethod yX2_rowsDone, .selects RX2 yX2_rowsDone yX2_rowsDone, .initialized RX2, .code yX2_rowsDone cX2_rowsDone 1 (some .int), .fieldLink RX2 31 "KnotRugs$Weaver" "made" "I"] ++ wsX10 ++ wsX20)
def wsX1_tornRows : List Cond := .code yX1_tornRows cX1_tornRows 7 (some .int) :: ([.fieldLink RX1 14 "KnotRugs$Rug" "leftWeaver" "LKnotRugs$Weaver;", .fieldLink RX1 20 "KnotRugs$Rug" "rightWeaver" "LKnotRugs$Weaver;", .methodLink RX1 85 yX1_rowsDone, .instanceMethod yX1_rowsDone, .selects RX1 yX1_rowsDone yX1_rowsDone, .initialized RX1, .code yX1_rowsDone cX1_rowsDone 1 (some .int), .methodLink RX1 102 Lib.Math.min.name, .static Lib.Math.min.name, .initialized "java/lang/Math", .code Lib.Math.min.name Lib.Math.min.code 2 (some .int), .methodLink RX1 101 yX2_rowsDone, .instanceMethod yX2_rowsDone, .selects RX2 yX2_rowsDone yX2_rowsDone, .initialized RX2, .code yX2_rowsDone cX2_rowsDone 1 (some .int), .fieldLink RX2 31 "KnotRugs$Weaver" "made" "I", .static yX3_placeOf, .initialized RX3, .code yX3_placeOf cX3_placeOf 2 (some .int), .static yX3_at, .code yX3_at cX3_at 2 (some .int)] ++ wsX10 ++ wsX20)
def wsX1_number_r1 : List Cond := [Cond.fieldLink RX1 30 "KnotRugs$Rug" "hour" "I", Cond.fieldLink RX1 26 "KnotRugs$Rug" "baskets" "LKnotRugs$Baskets;", Cond.fieldLink RX1 34 "KnotRugs$Rug" "unpicked" "I", Cond.methodLink RX1 78 yX1_knots, Cond.instanceMethod yX1_knots, Cond.selects RX1 yX1_knots yX1_knots, Cond.initialized RX1, Cond.code yX1_knots cX1_knots 1 (some .int), Cond.fieldLink RX1 14 "KnotRugs$Rug" "leftWeaver" "LKnotRugs$Weaver;", Cond.fieldLink RX1 20 "KnotRugs$Rug" "rightWeaver" "LKnotRugs$Weaver;", Cond.methodLink RX1 82 yX1_offPlan, Cond.instanceMethod yX1_offPlan, Cond.selects RX1 yX1_offPlan yX1_offPlan, Cond.code yX1_offPlan cX1_offPlan 1 (some .int), Cond.methodLink RX1 100 yX2_offPlan, Cond.instanceMethod yX2_offPlan, Cond.selects RX2 yX2_offPlan yX2_offPlan, Cond.initialized RX2, Cond.code yX2_offPlan cX2_offPlan 3 (some .int), Cond.fieldLink RX2 31 "KnotRugs$Weaver" "made" "I", Cond.fieldLink RX2 15 "KnotRugs$Weaver" "knotted" "[I", Cond.fieldLink RX2 9 "KnotRugs$Weaver" "planned" "[I", Cond.static yX3_at, Cond.initialized RX3]
def wsX1_number_r2 : List Cond := [Cond.code yX3_at cX3_at 2 (some .int), Cond.methodLink RX1 85 yX1_rowsDone, Cond.instanceMethod yX1_rowsDone, Cond.selects RX1 yX1_rowsDone yX1_rowsDone, Cond.code yX1_rowsDone cX1_rowsDone 1 (some .int), Cond.methodLink RX1 102 Lib.Math.min.name, Cond.static Lib.Math.min.name, Cond.initialized "java/lang/Math", Cond.code Lib.Math.min.name Lib.Math.min.code 2 (some .int), Cond.methodLink RX1 101 yX2_rowsDone, Cond.instanceMethod yX2_rowsDone, Cond.selects RX2 yX2_rowsDone yX2_rowsDone, Cond.code yX2_rowsDone cX2_rowsDone 1 (some .int), Cond.methodLink RX1 88 yX1_tornRows, Cond.instanceMethod yX1_tornRows, Cond.selects RX1 yX1_tornRows yX1_tornRows, Cond.code yX1_tornRows cX1_tornRows 7 (some .int), Cond.static yX3_placeOf, Cond.code yX3_placeOf cX3_placeOf 2 (some .int), Cond.methodLink RX1 91 yX0_inAll, Cond.instanceMethod yX0_inAll, Cond.selects RX0 yX0_inAll yX0_inAll, Cond.initialized RX0, Cond.code yX0_inAll cX0_inAll 3 (some .int)]
def wsX1_number_r3 : List Cond := [Cond.fieldLink RX0 9 "KnotRugs$Baskets" "left" "[I", Cond.methodLink RX1 94 yX0_empty, Cond.instanceMethod yX0_empty, Cond.selects RX0 yX0_empty yX0_empty, Cond.code yX0_empty cX0_empty 3 (some .int)]
def wsX1_number : List Cond := .code yX1_number cX1_number 2 (some .int) :: ((wsX1_number_r1 ++ (wsX1_number_r2 ++ wsX1_number_r3)) ++ wsX10 ++ wsX20 ++ wsX00)
def wsX2_planCell : List Cond := .code yX2_planCell cX2_planCell 4 (some .boolean) :: ([.fieldLink RX2 9 "KnotRugs$Weaver" "planned" "[I", .static yX3_at, .initialized RX3, .code yX3_at cX3_at 2 (some .int), .static yX3_put, .code yX3_put cX3_put 3 none] ++ wsX20)
def wsX2_addRun : List Cond := .code yX2_addRun cX2_addRun 3 none :: ([.fieldLink RX2 18 "KnotRugs$Weaver" "toldColours" "[I", .fieldLink RX2 28 "KnotRugs$Weaver" "told" "I", .fieldLink RX2 21 "KnotRugs$Weaver" "toldKnots" "[I", .static yX3_put, .initialized RX3, .code yX3_put cX3_put 3 none] ++ wsX20)
def wsX2_toldInAll : List Cond := .code yX2_toldInAll cX2_toldInAll 3 (some .int) :: ([.fieldLink RX2 28 "KnotRugs$Weaver" "told" "I", .fieldLink RX2 21 "KnotRugs$Weaver" "toldKnots" "[I", .static yX3_at, .initialized RX3, .code yX3_at cX3_at 2 (some .int)] ++ wsX20)
def wsX2_undo : List Cond := .code yX2_undo cX2_undo 4 none :: ([.fieldLink RX2 31 "KnotRugs$Weaver" "made" "I", .fieldLink RX2 15 "KnotRugs$Weaver" "knotted" "[I", .static yX3_at, .initialized RX3, .code yX3_at cX3_at 2 (some .int), .methodLink RX2 72 yX0_fill, .instanceMethod yX0_fill, .selects RX0 yX0_fill yX0_fill, .initialized RX0, .code yX0_fill cX0_fill 4 (some .int), .fieldLink RX0 9 "KnotRugs$Baskets" "left" "[I", .methodLink RX0 19 Lib.Math.min.name, .static Lib.Math.min.name, .initialized "java/lang/Math", .code Lib.Math.min.name Lib.Math.min.code 2 (some .int), .static yX3_put, .code yX3_put cX3_put 3 none] ++ wsX20 ++ wsX00)
def wsX2_nextX : List Cond := .code yX2_nextX cX2_nextX 2 (some .int) :: ([.fieldLink RX2 31 "KnotRugs$Weaver" "made" "I", .fieldLink RX2 37 "KnotRugs$Weaver" "side" "I", .methodLink RX2 52 yX2_isHalfDone, .instanceMethod yX2_isHalfDone, .selects RX2 yX2_isHalfDone yX2_isHalfDone, .initialized RX2, .code yX2_isHalfDone cX2_isHalfDone 1 (some .boolean)] ++ wsX20)
def wsX2_number : List Cond := .code yX2_number cX2_number 2 (some .int) :: ([.fieldLink RX2 24 "KnotRugs$Weaver" "speed" "I", .fieldLink RX2 28 "KnotRugs$Weaver" "told" "I", .fieldLink RX2 31 "KnotRugs$Weaver" "made" "I", .fieldLink RX2 34 "KnotRugs$Weaver" "inAnotherColour" "I", .methodLink RX2 76 yX2_toldInAll, .instanceMethod yX2_toldInAll, .selects RX2 yX2_toldInAll yX2_toldInAll, .initialized RX2, .code yX2_toldInAll cX2_toldInAll 3 (some .int), .fieldLink RX2 21 "KnotRugs$Weaver" "toldKnots" "[I", .static yX3_at, .initialized RX3, .code yX3_at cX3_at 2 (some .int), .methodLink RX2 80 yX2_nextX, .instanceMethod yX2_nextX, .selects RX2 yX2_nextX yX2_nextX, .code yX2_nextX cX2_nextX 2 (some .int), .fieldLink RX2 37 "KnotRugs$Weaver" "side" "I", .methodLink RX2 52 yX2_isHalfDone, .instanceMethod yX2_isHalfDone, .selects RX2 yX2_isHalfDone yX2_isHalfDone, .code yX2_isHalfDone cX2_isHalfDone 1 (some .boolean)] ++ wsX20)
def wsX2_firstOffPlan : List Cond := .code yX2_firstOffPlan cX2_firstOffPlan 2 (some .int) :: ([.fieldLink RX2 31 "KnotRugs$Weaver" "made" "I", .fieldLink RX2 15 "KnotRugs$Weaver" "knotted" "[I", .fieldLink RX2 9 "KnotRugs$Weaver" "planned" "[I", .static yX3_at, .initialized RX3, .code yX3_at cX3_at 2 (some .int)] ++ wsX20)
def wsX2_alikeAhead : List Cond := .code yX2_alikeAhead cX2_alikeAhead 2 (some .int) :: ([.fieldLink RX2 31 "KnotRugs$Weaver" "made" "I", .fieldLink RX2 9 "KnotRugs$Weaver" "planned" "[I", .static yX3_at, .initialized RX3, .code yX3_at cX3_at 2 (some .int)] ++ wsX20)
def wsX2_fewestRuns : List Cond := .code yX2_fewestRuns cX2_fewestRuns 3 (some .int) :: ([.fieldLink RX2 31 "KnotRugs$Weaver" "made" "I", .fieldLink RX2 9 "KnotRugs$Weaver" "planned" "[I", .methodLink RX2 52 yX2_isHalfDone, .instanceMethod yX2_isHalfDone, .selects RX2 yX2_isHalfDone yX2_isHalfDone, .initialized RX2, .code yX2_isHalfDone cX2_isHalfDone 1 (some .boolean), .static yX3_at, .initialized RX3, .code yX3_at cX3_at 2 (some .int)] ++ wsX20)
def wsX3_mix : List Cond := .code yX3_mix cX3_mix 3 (some .long) :: ([.constantLong RX3 182 (31)])
def wsX2_mixInto_r1 : List Cond := [Cond.fieldLink RX2 28 "KnotRugs$Weaver" "told" "I", Cond.fieldLink RX2 18 "KnotRugs$Weaver" "toldColours" "[I", Cond.fieldLink RX2 21 "KnotRugs$Weaver" "toldKnots" "[I", Cond.methodLink RX2 83 yX2_number, Cond.instanceMethod yX2_number, Cond.selects RX2 yX2_number yX2_number, Cond.initialized RX2, Cond.code yX2_number cX2_number 2 (some .int), Cond.fieldLink RX2 24 "KnotRugs$Weaver" "speed" "I", Cond.fieldLink RX2 31 "KnotRugs$Weaver" "made" "I", Cond.fieldLink RX2 34 "KnotRugs$Weaver" "inAnotherColour" "I", Cond.methodLink RX2 76 yX2_toldInAll, Cond.instanceMethod yX2_toldInAll, Cond.selects RX2 yX2_toldInAll yX2_toldInAll, Cond.code yX2_toldInAll cX2_toldInAll 3 (some .int), Cond.static yX3_at, Cond.initialized RX3, Cond.code yX3_at cX3_at 2 (some .int), Cond.methodLink RX2 80 yX2_nextX, Cond.instanceMethod yX2_nextX, Cond.selects RX2 yX2_nextX yX2_nextX, Cond.code yX2_nextX cX2_nextX 2 (some .int), Cond.fieldLink RX2 37 "KnotRugs$Weaver" "side" "I", Cond.methodLink RX2 52 yX2_isHalfDone]
def wsX2_mixInto_r2 : List Cond := [Cond.instanceMethod yX2_isHalfDone, Cond.selects RX2 yX2_isHalfDone yX2_isHalfDone, Cond.code yX2_isHalfDone cX2_isHalfDone 1 (some .boolean), Cond.static yX3_mix, Cond.code yX3_mix cX3_mix 3 (some .long), Cond.constantLong RX3 182 (31)]
def wsX2_mixInto : List Cond := .code yX2_mixInto cX2_mixInto 6 (some .long) :: ((wsX2_mixInto_r1 ++ wsX2_mixInto_r2) ++ wsX20)
def wsX3_init_r1 : List Cond := [Cond.methodLink RX3 1 objectInit, Cond.instanceMethod objectInit, Cond.code objectInit ⟨#[0xb1]⟩ 1 none, Cond.classLink RX3 7 RX1, Cond.instantiable RX1 5, Cond.initialized RX1, Cond.fieldLink RX3 10 "KnotRugs" "rug" "LKnotRugs$Rug;", Cond.fieldLink RX3 16 "KnotRugs" "trial" "LKnotRugs$Rug;", Cond.instanceMethod yX1_init, Cond.code yX1_init cX1_init 1 none, Cond.methodLink RX1 3 objectInit, Cond.classLink RX1 9 RX2, Cond.instantiable RX2 9, Cond.initialized RX2, Cond.fieldLink RX1 14 "KnotRugs$Rug" "leftWeaver" "LKnotRugs$Weaver;", Cond.fieldLink RX1 20 "KnotRugs$Rug" "rightWeaver" "LKnotRugs$Weaver;", Cond.classLink RX1 23 RX0, Cond.instantiable RX0 1, Cond.initialized RX0, Cond.fieldLink RX1 26 "KnotRugs$Rug" "baskets" "LKnotRugs$Baskets;", Cond.fieldLink RX1 30 "KnotRugs$Rug" "hour" "I", Cond.fieldLink RX1 34 "KnotRugs$Rug" "unpicked" "I", Cond.methodLink RX1 11 yX2_init, Cond.instanceMethod yX2_init]
def wsX3_init_r2 : List Cond := [Cond.code yX2_init cX2_init 2 none, Cond.methodLink RX2 3 objectInit, Cond.arrayClass .int, Cond.fieldLink RX2 9 "KnotRugs$Weaver" "planned" "[I", Cond.fieldLink RX2 15 "KnotRugs$Weaver" "knotted" "[I", Cond.fieldLink RX2 18 "KnotRugs$Weaver" "toldColours" "[I", Cond.fieldLink RX2 21 "KnotRugs$Weaver" "toldKnots" "[I", Cond.fieldLink RX2 24 "KnotRugs$Weaver" "speed" "I", Cond.fieldLink RX2 28 "KnotRugs$Weaver" "told" "I", Cond.fieldLink RX2 31 "KnotRugs$Weaver" "made" "I", Cond.fieldLink RX2 34 "KnotRugs$Weaver" "inAnotherColour" "I", Cond.fieldLink RX2 37 "KnotRugs$Weaver" "side" "I", Cond.methodLink RX1 25 yX0_init, Cond.instanceMethod yX0_init, Cond.code yX0_init cX0_init 2 none, Cond.methodLink RX0 3 objectInit, Cond.fieldLink RX0 9 "KnotRugs$Baskets" "left" "[I"]
def wsX3_init : List Cond := .code yX3_init cX3_init 1 none :: ((wsX3_init_r1 ++ wsX3_init_r2) ++ wsX10 ++ wsX30 ++ wsX20 ++ wsX00)
def wsX3_checkIndex : List Cond := .code yX3_checkIndex cX3_checkIndex 2 none :: ([.classLink RX3 172 "java/lang/IndexOutOfBoundsException", .initialized "java/lang/IndexOutOfBoundsException"] ++ (vx_atS RX3 176 "java/lang/IndexOutOfBoundsException" ["java/lang/RuntimeException", "java/lang/Exception"]).filter goodWord)
def wsX3_checkCell : List Cond := .code yX3_checkCell cX3_checkCell 2 none :: ([.methodLink RX3 93 yX3_checkIndex, .static yX3_checkIndex, .initialized RX3, .code yX3_checkIndex cX3_checkIndex 2 none, .classLink RX3 172 "java/lang/IndexOutOfBoundsException", .initialized "java/lang/IndexOutOfBoundsException"] ++ (vx_atS RX3 176 "java/lang/IndexOutOfBoundsException" ["java/lang/RuntimeException", "java/lang/Exception"]).filter goodWord)
def wsX3_checkRange : List Cond := .code yX3_checkRange cX3_checkRange 3 none :: ([.classLink RX3 177 "java/lang/IllegalArgumentException", .initialized "java/lang/IllegalArgumentException"] ++ (vx_atS RX3 181 "java/lang/IllegalArgumentException" ["java/lang/RuntimeException", "java/lang/Exception"]).filter goodWord)
def wsX3_checkColour : List Cond := .code yX3_checkColour cX3_checkColour 1 none :: ([.methodLink RX3 23 yX3_checkRange, .static yX3_checkRange, .initialized RX3, .code yX3_checkRange cX3_checkRange 3 none, .classLink RX3 177 "java/lang/IllegalArgumentException", .initialized "java/lang/IllegalArgumentException"] ++ (vx_atS RX3 181 "java/lang/IllegalArgumentException" ["java/lang/RuntimeException", "java/lang/Exception"]).filter goodWord)
def wsX3_plan_r1 : List Cond := [Cond.fieldLink RX3 10 "KnotRugs" "rug" "LKnotRugs$Rug;", Cond.methodLink RX3 19 yX3_checkCell, Cond.static yX3_checkCell, Cond.initialized RX3, Cond.code yX3_checkCell cX3_checkCell 2 none, Cond.methodLink RX3 93 yX3_checkIndex, Cond.static yX3_checkIndex, Cond.code yX3_checkIndex cX3_checkIndex 2 none, Cond.classLink RX3 172 "java/lang/IndexOutOfBoundsException", Cond.initialized "java/lang/IndexOutOfBoundsException", Cond.methodLink RX3 23 yX3_checkRange, Cond.static yX3_checkRange, Cond.code yX3_checkRange cX3_checkRange 3 none, Cond.classLink RX3 177 "java/lang/IllegalArgumentException", Cond.initialized "java/lang/IllegalArgumentException", Cond.methodLink RX3 27 yX3_checkColour, Cond.static yX3_checkColour, Cond.code yX3_checkColour cX3_checkColour 1 none, Cond.methodLink RX3 31 yX1_ownerOf, Cond.instanceMethod yX1_ownerOf, Cond.selects RX1 yX1_ownerOf yX1_ownerOf, Cond.initialized RX1, Cond.code yX1_ownerOf cX1_ownerOf 2 (some (.object "KnotRugs$Weaver")), Cond.static yX3_sideOf]
def wsX3_plan_r2 : List Cond := [Cond.code yX3_sideOf cX3_sideOf 1 (some .int), Cond.methodLink RX1 41 yX1_weaverAt, Cond.instanceMethod yX1_weaverAt, Cond.selects RX1 yX1_weaverAt yX1_weaverAt, Cond.code yX1_weaverAt cX1_weaverAt 2 (some (.object "KnotRugs$Weaver")), Cond.fieldLink RX1 14 "KnotRugs$Rug" "leftWeaver" "LKnotRugs$Weaver;", Cond.fieldLink RX1 20 "KnotRugs$Rug" "rightWeaver" "LKnotRugs$Weaver;", Cond.methodLink RX3 35 yX3_placeOf, Cond.static yX3_placeOf, Cond.code yX3_placeOf cX3_placeOf 2 (some .int), Cond.methodLink RX3 39 yX2_planCell, Cond.instanceMethod yX2_planCell, Cond.selects RX2 yX2_planCell yX2_planCell, Cond.initialized RX2, Cond.code yX2_planCell cX2_planCell 4 (some .boolean), Cond.fieldLink RX2 9 "KnotRugs$Weaver" "planned" "[I", Cond.static yX3_at, Cond.code yX3_at cX3_at 2 (some .int), Cond.static yX3_put, Cond.code yX3_put cX3_put 3 none]
def wsX3_plan : List Cond := .code yX3_plan cX3_plan 9 (some .int) :: ((wsX3_plan_r1 ++ wsX3_plan_r2) ++ wsX30 ++ wsX10 ++ wsX20 ++ (vx_atS RX3 176 "java/lang/IndexOutOfBoundsException" ["java/lang/RuntimeException", "java/lang/Exception"]).filter goodWord ++ (vx_atS RX3 181 "java/lang/IllegalArgumentException" ["java/lang/RuntimeException", "java/lang/Exception"]).filter goodWord)
def wsX3_bring : List Cond := .code yX3_bring cX3_bring 3 (some .int) :: ([.fieldLink RX3 10 "KnotRugs" "rug" "LKnotRugs$Rug;", .methodLink RX3 27 yX3_checkColour, .static yX3_checkColour, .initialized RX3, .code yX3_checkColour cX3_checkColour 1 none, .methodLink RX3 23 yX3_checkRange, .static yX3_checkRange, .code yX3_checkRange cX3_checkRange 3 none, .classLink RX3 177 "java/lang/IllegalArgumentException", .initialized "java/lang/IllegalArgumentException", .methodLink RX3 49 yX0_fill, .instanceMethod yX0_fill, .selects RX0 yX0_fill yX0_fill, .initialized RX0, .code yX0_fill cX0_fill 4 (some .int), .fieldLink RX0 9 "KnotRugs$Baskets" "left" "[I", .methodLink RX0 19 Lib.Math.min.name, .static Lib.Math.min.name, .initialized "java/lang/Math", .code Lib.Math.min.name Lib.Math.min.code 2 (some .int), .static yX3_at, .code yX3_at cX3_at 2 (some .int), .static yX3_put, .code yX3_put cX3_put 3 none] ++ wsX30 ++ wsX10 ++ wsX00 ++ (vx_atS RX3 181 "java/lang/IllegalArgumentException" ["java/lang/RuntimeException", "java/lang/Exception"]).filter goodWord)
def wsX3_checkWeaver : List Cond := .code yX3_checkWeaver cX3_checkWeaver 1 none :: ([.methodLink RX3 93 yX3_checkIndex, .static yX3_checkIndex, .initialized RX3, .code yX3_checkIndex cX3_checkIndex 2 none, .classLink RX3 172 "java/lang/IndexOutOfBoundsException", .initialized "java/lang/IndexOutOfBoundsException"] ++ (vx_atS RX3 176 "java/lang/IndexOutOfBoundsException" ["java/lang/RuntimeException", "java/lang/Exception"]).filter goodWord)
def wsX3_setSpeed : List Cond := .code yX3_setSpeed cX3_setSpeed 5 (some .int) :: ([.fieldLink RX3 10 "KnotRugs" "rug" "LKnotRugs$Rug;", .methodLink RX3 54 yX3_checkWeaver, .static yX3_checkWeaver, .initialized RX3, .code yX3_checkWeaver cX3_checkWeaver 1 none, .methodLink RX3 93 yX3_checkIndex, .static yX3_checkIndex, .code yX3_checkIndex cX3_checkIndex 2 none, .classLink RX3 172 "java/lang/IndexOutOfBoundsException", .initialized "java/lang/IndexOutOfBoundsException", .methodLink RX3 23 yX3_checkRange, .static yX3_checkRange, .code yX3_checkRange cX3_checkRange 3 none, .classLink RX3 177 "java/lang/IllegalArgumentException", .initialized "java/lang/IllegalArgumentException", .methodLink RX3 57 yX1_weaverAt, .instanceMethod yX1_weaverAt, .selects RX1 yX1_weaverAt yX1_weaverAt, .initialized RX1, .code yX1_weaverAt cX1_weaverAt 2 (some (.object "KnotRugs$Weaver")), .fieldLink RX1 14 "KnotRugs$Rug" "leftWeaver" "LKnotRugs$Weaver;", .fieldLink RX1 20 "KnotRugs$Rug" "rightWeaver" "LKnotRugs$Weaver;"] ++ wsX30 ++ wsX20 ++ wsX10 ++ (vx_atS RX3 176 "java/lang/IndexOutOfBoundsException" ["java/lang/RuntimeException", "java/lang/Exception"]).filter goodWord ++ (vx_atS RX3 181 "java/lang/IllegalArgumentException" ["java/lang/RuntimeException", "java/lang/Exception"]).filter goodWord)
def wsX3_tell_r1 : List Cond := [Cond.classLink RX3 67 "java/lang/IllegalStateException", Cond.initialized "java/lang/IllegalStateException", Cond.fieldLink RX3 10 "KnotRugs" "rug" "LKnotRugs$Rug;", Cond.methodLink RX3 54 yX3_checkWeaver, Cond.static yX3_checkWeaver, Cond.initialized RX3, Cond.code yX3_checkWeaver cX3_checkWeaver 1 none, Cond.methodLink RX3 93 yX3_checkIndex, Cond.static yX3_checkIndex, Cond.code yX3_checkIndex cX3_checkIndex 2 none, Cond.classLink RX3 172 "java/lang/IndexOutOfBoundsException", Cond.initialized "java/lang/IndexOutOfBoundsException", Cond.methodLink RX3 27 yX3_checkColour, Cond.static yX3_checkColour, Cond.code yX3_checkColour cX3_checkColour 1 none, Cond.methodLink RX3 23 yX3_checkRange, Cond.static yX3_checkRange, Cond.code yX3_checkRange cX3_checkRange 3 none, Cond.classLink RX3 177 "java/lang/IllegalArgumentException", Cond.initialized "java/lang/IllegalArgumentException", Cond.methodLink RX3 57 yX1_weaverAt, Cond.instanceMethod yX1_weaverAt, Cond.selects RX1 yX1_weaverAt yX1_weaverAt, Cond.initialized RX1]
def wsX3_tell_r2 : List Cond := [Cond.code yX1_weaverAt cX1_weaverAt 2 (some (.object "KnotRugs$Weaver")), Cond.fieldLink RX1 14 "KnotRugs$Rug" "leftWeaver" "LKnotRugs$Weaver;", Cond.fieldLink RX1 20 "KnotRugs$Rug" "rightWeaver" "LKnotRugs$Weaver;", Cond.methodLink RX3 74 yX2_addRun, Cond.instanceMethod yX2_addRun, Cond.selects RX2 yX2_addRun yX2_addRun, Cond.initialized RX2, Cond.code yX2_addRun cX2_addRun 3 none, Cond.fieldLink RX2 18 "KnotRugs$Weaver" "toldColours" "[I", Cond.fieldLink RX2 28 "KnotRugs$Weaver" "told" "I", Cond.fieldLink RX2 21 "KnotRugs$Weaver" "toldKnots" "[I", Cond.static yX3_put, Cond.code yX3_put cX3_put 3 none]
def wsX3_tell : List Cond := .code yX3_tell cX3_tell 5 (some .int) :: ((wsX3_tell_r1 ++ wsX3_tell_r2) ++ wsX30 ++ wsX20 ++ wsX10 ++ (vx_atS RX3 71 "java/lang/IllegalStateException" ["java/lang/RuntimeException", "java/lang/Exception"]).filter goodWord ++ (vx_atS RX3 176 "java/lang/IndexOutOfBoundsException" ["java/lang/RuntimeException", "java/lang/Exception"]).filter goodWord ++ (vx_atS RX3 181 "java/lang/IllegalArgumentException" ["java/lang/RuntimeException", "java/lang/Exception"]).filter goodWord)
def wsX3_hush_r1 : List Cond := [Cond.fieldLink RX3 10 "KnotRugs" "rug" "LKnotRugs$Rug;", Cond.methodLink RX3 54 yX3_checkWeaver, Cond.static yX3_checkWeaver, Cond.initialized RX3, Cond.code yX3_checkWeaver cX3_checkWeaver 1 none, Cond.methodLink RX3 93 yX3_checkIndex, Cond.static yX3_checkIndex, Cond.code yX3_checkIndex cX3_checkIndex 2 none, Cond.classLink RX3 172 "java/lang/IndexOutOfBoundsException", Cond.initialized "java/lang/IndexOutOfBoundsException", Cond.methodLink RX3 57 yX1_weaverAt, Cond.instanceMethod yX1_weaverAt, Cond.selects RX1 yX1_weaverAt yX1_weaverAt, Cond.initialized RX1, Cond.code yX1_weaverAt cX1_weaverAt 2 (some (.object "KnotRugs$Weaver")), Cond.fieldLink RX1 14 "KnotRugs$Rug" "leftWeaver" "LKnotRugs$Weaver;", Cond.fieldLink RX1 20 "KnotRugs$Rug" "rightWeaver" "LKnotRugs$Weaver;", Cond.methodLink RX3 77 yX2_toldInAll, Cond.instanceMethod yX2_toldInAll, Cond.selects RX2 yX2_toldInAll yX2_toldInAll, Cond.initialized RX2, Cond.code yX2_toldInAll cX2_toldInAll 3 (some .int), Cond.fieldLink RX2 28 "KnotRugs$Weaver" "told" "I", Cond.fieldLink RX2 21 "KnotRugs$Weaver" "toldKnots" "[I"]
def wsX3_hush_r2 : List Cond := [Cond.static yX3_at, Cond.code yX3_at cX3_at 2 (some .int)]
def wsX3_hush : List Cond := .code yX3_hush cX3_hush 4 (some .int) :: ((wsX3_hush_r1 ++ wsX3_hush_r2) ++ wsX30 ++ wsX20 ++ wsX10 ++ (vx_atS RX3 176 "java/lang/IndexOutOfBoundsException" ["java/lang/RuntimeException", "java/lang/Exception"]).filter goodWord)
def wsX3_unpick_r1 : List Cond := [Cond.classLink RX3 67 "java/lang/IllegalStateException", Cond.initialized "java/lang/IllegalStateException", Cond.fieldLink RX3 10 "KnotRugs" "rug" "LKnotRugs$Rug;", Cond.methodLink RX3 54 yX3_checkWeaver, Cond.static yX3_checkWeaver, Cond.initialized RX3, Cond.code yX3_checkWeaver cX3_checkWeaver 1 none, Cond.methodLink RX3 93 yX3_checkIndex, Cond.static yX3_checkIndex, Cond.code yX3_checkIndex cX3_checkIndex 2 none, Cond.classLink RX3 172 "java/lang/IndexOutOfBoundsException", Cond.initialized "java/lang/IndexOutOfBoundsException", Cond.methodLink RX3 23 yX3_checkRange, Cond.static yX3_checkRange, Cond.code yX3_checkRange cX3_checkRange 3 none, Cond.classLink RX3 177 "java/lang/IllegalArgumentException", Cond.initialized "java/lang/IllegalArgumentException", Cond.methodLink RX3 57 yX1_weaverAt, Cond.instanceMethod yX1_weaverAt, Cond.selects RX1 yX1_weaverAt yX1_weaverAt, Cond.initialized RX1, Cond.code yX1_weaverAt cX1_weaverAt 2 (some (.object "KnotRugs$Weaver")), Cond.fieldLink RX1 14 "KnotRugs$Rug" "leftWeaver" "LKnotRugs$Weaver;", Cond.fieldLink RX1 20 "KnotRugs$Rug" "rightWeaver" "LKnotRugs$Weaver;"]
def wsX3_unpick_r2 : List Cond := [Cond.methodLink RX3 86 yX2_undo, Cond.instanceMethod yX2_undo, Cond.selects RX2 yX2_undo yX2_undo, Cond.initialized RX2, Cond.code yX2_undo cX2_undo 4 none, Cond.fieldLink RX2 31 "KnotRugs$Weaver" "made" "I", Cond.fieldLink RX2 15 "KnotRugs$Weaver" "knotted" "[I", Cond.static yX3_at, Cond.code yX3_at cX3_at 2 (some .int), Cond.methodLink RX2 72 yX0_fill, Cond.instanceMethod yX0_fill, Cond.selects RX0 yX0_fill yX0_fill, Cond.initialized RX0, Cond.code yX0_fill cX0_fill 4 (some .int), Cond.fieldLink RX0 9 "KnotRugs$Baskets" "left" "[I", Cond.methodLink RX0 19 Lib.Math.min.name, Cond.static Lib.Math.min.name, Cond.initialized "java/lang/Math", Cond.code Lib.Math.min.name Lib.Math.min.code 2 (some .int), Cond.static yX3_put, Cond.code yX3_put cX3_put 3 none]
def wsX3_unpick : List Cond := .code yX3_unpick cX3_unpick 4 (some .int) :: ((wsX3_unpick_r1 ++ wsX3_unpick_r2) ++ wsX30 ++ wsX20 ++ wsX10 ++ wsX00 ++ (vx_atS RX3 71 "java/lang/IllegalStateException" ["java/lang/RuntimeException", "java/lang/Exception"]).filter goodWord ++ (vx_atS RX3 176 "java/lang/IndexOutOfBoundsException" ["java/lang/RuntimeException", "java/lang/Exception"]).filter goodWord ++ (vx_atS RX3 181 "java/lang/IllegalArgumentException" ["java/lang/RuntimeException", "java/lang/Exception"]).filter goodWord)
def wsX3_cell_r1 : List Cond := [Cond.fieldLink RX3 10 "KnotRugs" "rug" "LKnotRugs$Rug;", Cond.methodLink RX3 19 yX3_checkCell, Cond.static yX3_checkCell, Cond.initialized RX3, Cond.code yX3_checkCell cX3_checkCell 2 none, Cond.methodLink RX3 93 yX3_checkIndex, Cond.static yX3_checkIndex, Cond.code yX3_checkIndex cX3_checkIndex 2 none, Cond.classLink RX3 172 "java/lang/IndexOutOfBoundsException", Cond.initialized "java/lang/IndexOutOfBoundsException", Cond.methodLink RX3 96 yX1_knotAt, Cond.instanceMethod yX1_knotAt, Cond.selects RX1 yX1_knotAt yX1_knotAt, Cond.initialized RX1, Cond.code yX1_knotAt cX1_knotAt 3 (some .int), Cond.methodLink RX1 45 yX1_ownerOf, Cond.instanceMethod yX1_ownerOf, Cond.selects RX1 yX1_ownerOf yX1_ownerOf, Cond.code yX1_ownerOf cX1_ownerOf 2 (some (.object "KnotRugs$Weaver")), Cond.static yX3_sideOf, Cond.code yX3_sideOf cX3_sideOf 1 (some .int), Cond.methodLink RX1 41 yX1_weaverAt, Cond.instanceMethod yX1_weaverAt, Cond.selects RX1 yX1_weaverAt yX1_weaverAt]
def wsX3_cell_r2 : List Cond := [Cond.code yX1_weaverAt cX1_weaverAt 2 (some (.object "KnotRugs$Weaver")), Cond.fieldLink RX1 14 "KnotRugs$Rug" "leftWeaver" "LKnotRugs$Weaver;", Cond.fieldLink RX1 20 "KnotRugs$Rug" "rightWeaver" "LKnotRugs$Weaver;", Cond.static yX3_placeOf, Cond.code yX3_placeOf cX3_placeOf 2 (some .int), Cond.methodLink RX1 52 yX2_knotAtPlace, Cond.instanceMethod yX2_knotAtPlace, Cond.selects RX2 yX2_knotAtPlace yX2_knotAtPlace, Cond.initialized RX2, Cond.code yX2_knotAtPlace cX2_knotAtPlace 2 (some .int), Cond.fieldLink RX2 31 "KnotRugs$Weaver" "made" "I", Cond.fieldLink RX2 15 "KnotRugs$Weaver" "knotted" "[I", Cond.static yX3_at, Cond.code yX3_at cX3_at 2 (some .int), Cond.methodLink RX3 99 yX1_planAt, Cond.instanceMethod yX1_planAt, Cond.selects RX1 yX1_planAt yX1_planAt, Cond.code yX1_planAt cX1_planAt 3 (some .int)]
def wsX3_cell : List Cond := .code yX3_cell cX3_cell 4 (some .int) :: ((wsX3_cell_r1 ++ wsX3_cell_r2) ++ wsX30 ++ wsX10 ++ wsX20 ++ (vx_atS RX3 176 "java/lang/IndexOutOfBoundsException" ["java/lang/RuntimeException", "java/lang/Exception"]).filter goodWord)
def wsX3_sees_r1 : List Cond := [Cond.fieldLink RX3 10 "KnotRugs" "rug" "LKnotRugs$Rug;", Cond.methodLink RX3 54 yX3_checkWeaver, Cond.static yX3_checkWeaver, Cond.initialized RX3, Cond.code yX3_checkWeaver cX3_checkWeaver 1 none, Cond.methodLink RX3 93 yX3_checkIndex, Cond.static yX3_checkIndex, Cond.code yX3_checkIndex cX3_checkIndex 2 none, Cond.classLink RX3 172 "java/lang/IndexOutOfBoundsException", Cond.initialized "java/lang/IndexOutOfBoundsException", Cond.methodLink RX3 19 yX3_checkCell, Cond.static yX3_checkCell, Cond.code yX3_checkCell cX3_checkCell 2 none, Cond.methodLink RX3 102 yX3_sideOf, Cond.static yX3_sideOf, Cond.code yX3_sideOf cX3_sideOf 1 (some .int), Cond.methodLink RX3 57 yX1_weaverAt, Cond.instanceMethod yX1_weaverAt, Cond.selects RX1 yX1_weaverAt yX1_weaverAt, Cond.initialized RX1, Cond.code yX1_weaverAt cX1_weaverAt 2 (some (.object "KnotRugs$Weaver")), Cond.fieldLink RX1 14 "KnotRugs$Rug" "leftWeaver" "LKnotRugs$Weaver;", Cond.fieldLink RX1 20 "KnotRugs$Rug" "rightWeaver" "LKnotRugs$Weaver;", Cond.methodLink RX3 106 yX2_rowsDone]
def wsX3_sees_r2 : List Cond := [Cond.instanceMethod yX2_rowsDone, Cond.selects RX2 yX2_rowsDone yX2_rowsDone, Cond.initialized RX2, Cond.code yX2_rowsDone cX2_rowsDone 1 (some .int), Cond.fieldLink RX2 31 "KnotRugs$Weaver" "made" "I", Cond.methodLink RX3 96 yX1_knotAt, Cond.instanceMethod yX1_knotAt, Cond.selects RX1 yX1_knotAt yX1_knotAt, Cond.code yX1_knotAt cX1_knotAt 3 (some .int), Cond.methodLink RX1 45 yX1_ownerOf, Cond.instanceMethod yX1_ownerOf, Cond.selects RX1 yX1_ownerOf yX1_ownerOf, Cond.code yX1_ownerOf cX1_ownerOf 2 (some (.object "KnotRugs$Weaver")), Cond.methodLink RX1 41 yX1_weaverAt, Cond.static yX3_placeOf, Cond.code yX3_placeOf cX3_placeOf 2 (some .int), Cond.methodLink RX1 52 yX2_knotAtPlace, Cond.instanceMethod yX2_knotAtPlace, Cond.selects RX2 yX2_knotAtPlace yX2_knotAtPlace, Cond.code yX2_knotAtPlace cX2_knotAtPlace 2 (some .int), Cond.fieldLink RX2 15 "KnotRugs$Weaver" "knotted" "[I", Cond.static yX3_at, Cond.code yX3_at cX3_at 2 (some .int)]
def wsX3_sees : List Cond := .code yX3_sees cX3_sees 6 (some .int) :: ((wsX3_sees_r1 ++ wsX3_sees_r2) ++ wsX30 ++ wsX10 ++ wsX20 ++ (vx_atS RX3 176 "java/lang/IndexOutOfBoundsException" ["java/lang/RuntimeException", "java/lang/Exception"]).filter goodWord)
def wsX3_weaver_r1 : List Cond := [Cond.fieldLink RX3 10 "KnotRugs" "rug" "LKnotRugs$Rug;", Cond.methodLink RX3 54 yX3_checkWeaver, Cond.static yX3_checkWeaver, Cond.initialized RX3, Cond.code yX3_checkWeaver cX3_checkWeaver 1 none, Cond.methodLink RX3 93 yX3_checkIndex, Cond.static yX3_checkIndex, Cond.code yX3_checkIndex cX3_checkIndex 2 none, Cond.classLink RX3 172 "java/lang/IndexOutOfBoundsException", Cond.initialized "java/lang/IndexOutOfBoundsException", Cond.methodLink RX3 57 yX1_weaverAt, Cond.instanceMethod yX1_weaverAt, Cond.selects RX1 yX1_weaverAt yX1_weaverAt, Cond.initialized RX1, Cond.code yX1_weaverAt cX1_weaverAt 2 (some (.object "KnotRugs$Weaver")), Cond.fieldLink RX1 14 "KnotRugs$Rug" "leftWeaver" "LKnotRugs$Weaver;", Cond.fieldLink RX1 20 "KnotRugs$Rug" "rightWeaver" "LKnotRugs$Weaver;", Cond.methodLink RX3 109 yX2_number, Cond.instanceMethod yX2_number, Cond.selects RX2 yX2_number yX2_number, Cond.initialized RX2, Cond.code yX2_number cX2_number 2 (some .int), Cond.fieldLink RX2 24 "KnotRugs$Weaver" "speed" "I", Cond.fieldLink RX2 28 "KnotRugs$Weaver" "told" "I"]
def wsX3_weaver_r2 : List Cond := [Cond.fieldLink RX2 31 "KnotRugs$Weaver" "made" "I", Cond.fieldLink RX2 34 "KnotRugs$Weaver" "inAnotherColour" "I", Cond.methodLink RX2 76 yX2_toldInAll, Cond.instanceMethod yX2_toldInAll, Cond.selects RX2 yX2_toldInAll yX2_toldInAll, Cond.code yX2_toldInAll cX2_toldInAll 3 (some .int), Cond.fieldLink RX2 21 "KnotRugs$Weaver" "toldKnots" "[I", Cond.static yX3_at, Cond.code yX3_at cX3_at 2 (some .int), Cond.methodLink RX2 80 yX2_nextX, Cond.instanceMethod yX2_nextX, Cond.selects RX2 yX2_nextX yX2_nextX, Cond.code yX2_nextX cX2_nextX 2 (some .int), Cond.fieldLink RX2 37 "KnotRugs$Weaver" "side" "I", Cond.methodLink RX2 52 yX2_isHalfDone, Cond.instanceMethod yX2_isHalfDone, Cond.selects RX2 yX2_isHalfDone yX2_isHalfDone, Cond.code yX2_isHalfDone cX2_isHalfDone 1 (some .boolean)]
def wsX3_weaver : List Cond := .code yX3_weaver cX3_weaver 3 (some .int) :: ((wsX3_weaver_r1 ++ wsX3_weaver_r2) ++ wsX30 ++ wsX10 ++ wsX20 ++ (vx_atS RX3 176 "java/lang/IndexOutOfBoundsException" ["java/lang/RuntimeException", "java/lang/Exception"]).filter goodWord)
def wsX3_run : List Cond := .code yX3_run cX3_run 5 (some .int) :: ([.fieldLink RX3 10 "KnotRugs" "rug" "LKnotRugs$Rug;", .methodLink RX3 54 yX3_checkWeaver, .static yX3_checkWeaver, .initialized RX3, .code yX3_checkWeaver cX3_checkWeaver 1 none, .methodLink RX3 93 yX3_checkIndex, .static yX3_checkIndex, .code yX3_checkIndex cX3_checkIndex 2 none, .classLink RX3 172 "java/lang/IndexOutOfBoundsException", .initialized "java/lang/IndexOutOfBoundsException", .methodLink RX3 57 yX1_weaverAt, .instanceMethod yX1_weaverAt, .selects RX1 yX1_weaverAt yX1_weaverAt, .initialized RX1, .code yX1_weaverAt cX1_weaverAt 2 (some (.object "KnotRugs$Weaver")), .fieldLink RX1 14 "KnotRugs$Rug" "leftWeaver" "LKnotRugs$Weaver;", .fieldLink RX1 20 "KnotRugs$Rug" "rightWeaver" "LKnotRugs$Weaver;", .methodLink RX3 116 yX3_at, .static yX3_at, .code yX3_at cX3_at 2 (some .int)] ++ wsX30 ++ wsX20 ++ wsX10 ++ (vx_atS RX3 176 "java/lang/IndexOutOfBoundsException" ["java/lang/RuntimeException", "java/lang/Exception"]).filter goodWord)
def wsX3_count_r1 : List Cond := [Cond.fieldLink RX3 10 "KnotRugs" "rug" "LKnotRugs$Rug;", Cond.methodLink RX3 93 yX3_checkIndex, Cond.static yX3_checkIndex, Cond.initialized RX3, Cond.code yX3_checkIndex cX3_checkIndex 2 none, Cond.classLink RX3 172 "java/lang/IndexOutOfBoundsException", Cond.initialized "java/lang/IndexOutOfBoundsException", Cond.methodLink RX3 123 yX1_number, Cond.instanceMethod yX1_number, Cond.selects RX1 yX1_number yX1_number, Cond.initialized RX1, Cond.code yX1_number cX1_number 2 (some .int), Cond.fieldLink RX1 30 "KnotRugs$Rug" "hour" "I", Cond.fieldLink RX1 26 "KnotRugs$Rug" "baskets" "LKnotRugs$Baskets;", Cond.fieldLink RX1 34 "KnotRugs$Rug" "unpicked" "I", Cond.methodLink RX1 78 yX1_knots, Cond.instanceMethod yX1_knots, Cond.selects RX1 yX1_knots yX1_knots, Cond.code yX1_knots cX1_knots 1 (some .int), Cond.fieldLink RX1 14 "KnotRugs$Rug" "leftWeaver" "LKnotRugs$Weaver;", Cond.fieldLink RX1 20 "KnotRugs$Rug" "rightWeaver" "LKnotRugs$Weaver;", Cond.methodLink RX1 82 yX1_offPlan, Cond.instanceMethod yX1_offPlan, Cond.selects RX1 yX1_offPlan yX1_offPlan]
def wsX3_count_r2 : List Cond := [Cond.code yX1_offPlan cX1_offPlan 1 (some .int), Cond.methodLink RX1 100 yX2_offPlan, Cond.instanceMethod yX2_offPlan, Cond.selects RX2 yX2_offPlan yX2_offPlan, Cond.initialized RX2, Cond.code yX2_offPlan cX2_offPlan 3 (some .int), Cond.fieldLink RX2 31 "KnotRugs$Weaver" "made" "I", Cond.fieldLink RX2 15 "KnotRugs$Weaver" "knotted" "[I", Cond.fieldLink RX2 9 "KnotRugs$Weaver" "planned" "[I", Cond.static yX3_at, Cond.code yX3_at cX3_at 2 (some .int), Cond.methodLink RX1 85 yX1_rowsDone, Cond.instanceMethod yX1_rowsDone, Cond.selects RX1 yX1_rowsDone yX1_rowsDone, Cond.code yX1_rowsDone cX1_rowsDone 1 (some .int), Cond.methodLink RX1 102 Lib.Math.min.name, Cond.static Lib.Math.min.name, Cond.initialized "java/lang/Math", Cond.code Lib.Math.min.name Lib.Math.min.code 2 (some .int), Cond.methodLink RX1 101 yX2_rowsDone, Cond.instanceMethod yX2_rowsDone, Cond.selects RX2 yX2_rowsDone yX2_rowsDone, Cond.code yX2_rowsDone cX2_rowsDone 1 (some .int), Cond.methodLink RX1 88 yX1_tornRows]
def wsX3_count_r3 : List Cond := [Cond.instanceMethod yX1_tornRows, Cond.selects RX1 yX1_tornRows yX1_tornRows, Cond.code yX1_tornRows cX1_tornRows 7 (some .int), Cond.static yX3_placeOf, Cond.code yX3_placeOf cX3_placeOf 2 (some .int), Cond.methodLink RX1 91 yX0_inAll, Cond.instanceMethod yX0_inAll, Cond.selects RX0 yX0_inAll yX0_inAll, Cond.initialized RX0, Cond.code yX0_inAll cX0_inAll 3 (some .int), Cond.fieldLink RX0 9 "KnotRugs$Baskets" "left" "[I", Cond.methodLink RX1 94 yX0_empty, Cond.instanceMethod yX0_empty, Cond.selects RX0 yX0_empty yX0_empty, Cond.code yX0_empty cX0_empty 3 (some .int)]
def wsX3_count : List Cond := .code yX3_count cX3_count 2 (some .int) :: ((wsX3_count_r1 ++ (wsX3_count_r2 ++ wsX3_count_r3)) ++ wsX30 ++ wsX10 ++ wsX20 ++ wsX00 ++ (vx_atS RX3 176 "java/lang/IndexOutOfBoundsException" ["java/lang/RuntimeException", "java/lang/Exception"]).filter goodWord)
def wsX3_wool : List Cond := .code yX3_wool cX3_wool 2 (some .int) :: ([.fieldLink RX3 10 "KnotRugs" "rug" "LKnotRugs$Rug;", .methodLink RX3 27 yX3_checkColour, .static yX3_checkColour, .initialized RX3, .code yX3_checkColour cX3_checkColour 1 none, .methodLink RX3 23 yX3_checkRange, .static yX3_checkRange, .code yX3_checkRange cX3_checkRange 3 none, .classLink RX3 177 "java/lang/IllegalArgumentException", .initialized "java/lang/IllegalArgumentException", .methodLink RX3 116 yX3_at, .static yX3_at, .code yX3_at cX3_at 2 (some .int)] ++ wsX30 ++ wsX10 ++ wsX00 ++ (vx_atS RX3 181 "java/lang/IllegalArgumentException" ["java/lang/RuntimeException", "java/lang/Exception"]).filter goodWord)
def wsX3_advise_r1 : List Cond := [Cond.fieldLink RX3 10 "KnotRugs" "rug" "LKnotRugs$Rug;", Cond.methodLink RX3 54 yX3_checkWeaver, Cond.static yX3_checkWeaver, Cond.initialized RX3, Cond.code yX3_checkWeaver cX3_checkWeaver 1 none, Cond.methodLink RX3 93 yX3_checkIndex, Cond.static yX3_checkIndex, Cond.code yX3_checkIndex cX3_checkIndex 2 none, Cond.classLink RX3 172 "java/lang/IndexOutOfBoundsException", Cond.initialized "java/lang/IndexOutOfBoundsException", Cond.methodLink RX3 57 yX1_weaverAt, Cond.instanceMethod yX1_weaverAt, Cond.selects RX1 yX1_weaverAt yX1_weaverAt, Cond.initialized RX1, Cond.code yX1_weaverAt cX1_weaverAt 2 (some (.object "KnotRugs$Weaver")), Cond.fieldLink RX1 14 "KnotRugs$Rug" "leftWeaver" "LKnotRugs$Weaver;", Cond.fieldLink RX1 20 "KnotRugs$Rug" "rightWeaver" "LKnotRugs$Weaver;", Cond.methodLink RX3 127 yX2_isHalfDone, Cond.instanceMethod yX2_isHalfDone, Cond.selects RX2 yX2_isHalfDone yX2_isHalfDone, Cond.initialized RX2, Cond.code yX2_isHalfDone cX2_isHalfDone 1 (some .boolean), Cond.fieldLink RX2 31 "KnotRugs$Weaver" "made" "I", Cond.methodLink RX3 116 yX3_at]
def wsX3_advise_r2 : List Cond := [Cond.static yX3_at, Cond.code yX3_at cX3_at 2 (some .int), Cond.methodLink RX3 134 yX2_alikeAhead, Cond.instanceMethod yX2_alikeAhead, Cond.selects RX2 yX2_alikeAhead yX2_alikeAhead, Cond.code yX2_alikeAhead cX2_alikeAhead 2 (some .int), Cond.fieldLink RX2 9 "KnotRugs$Weaver" "planned" "[I"]
def wsX3_advise : List Cond := .code yX3_advise cX3_advise 3 (some .int) :: ((wsX3_advise_r1 ++ wsX3_advise_r2) ++ wsX30 ++ wsX20 ++ wsX10 ++ (vx_atS RX3 176 "java/lang/IndexOutOfBoundsException" ["java/lang/RuntimeException", "java/lang/Exception"]).filter goodWord)
def wsX3_runs_r1 : List Cond := [Cond.fieldLink RX3 10 "KnotRugs" "rug" "LKnotRugs$Rug;", Cond.methodLink RX3 54 yX3_checkWeaver, Cond.static yX3_checkWeaver, Cond.initialized RX3, Cond.code yX3_checkWeaver cX3_checkWeaver 1 none, Cond.methodLink RX3 93 yX3_checkIndex, Cond.static yX3_checkIndex, Cond.code yX3_checkIndex cX3_checkIndex 2 none, Cond.classLink RX3 172 "java/lang/IndexOutOfBoundsException", Cond.initialized "java/lang/IndexOutOfBoundsException", Cond.methodLink RX3 57 yX1_weaverAt, Cond.instanceMethod yX1_weaverAt, Cond.selects RX1 yX1_weaverAt yX1_weaverAt, Cond.initialized RX1, Cond.code yX1_weaverAt cX1_weaverAt 2 (some (.object "KnotRugs$Weaver")), Cond.fieldLink RX1 14 "KnotRugs$Rug" "leftWeaver" "LKnotRugs$Weaver;", Cond.fieldLink RX1 20 "KnotRugs$Rug" "rightWeaver" "LKnotRugs$Weaver;", Cond.methodLink RX3 137 yX2_fewestRuns, Cond.instanceMethod yX2_fewestRuns, Cond.selects RX2 yX2_fewestRuns yX2_fewestRuns, Cond.initialized RX2, Cond.code yX2_fewestRuns cX2_fewestRuns 3 (some .int), Cond.fieldLink RX2 31 "KnotRugs$Weaver" "made" "I", Cond.fieldLink RX2 9 "KnotRugs$Weaver" "planned" "[I"]
def wsX3_runs_r2 : List Cond := [Cond.methodLink RX2 52 yX2_isHalfDone, Cond.instanceMethod yX2_isHalfDone, Cond.selects RX2 yX2_isHalfDone yX2_isHalfDone, Cond.code yX2_isHalfDone cX2_isHalfDone 1 (some .boolean), Cond.static yX3_at, Cond.code yX3_at cX3_at 2 (some .int)]
def wsX3_runs : List Cond := .code yX3_runs cX3_runs 2 (some .int) :: ((wsX3_runs_r1 ++ wsX3_runs_r2) ++ wsX30 ++ wsX10 ++ wsX20 ++ (vx_atS RX3 176 "java/lang/IndexOutOfBoundsException" ["java/lang/RuntimeException", "java/lang/Exception"]).filter goodWord)
def wsX3_mends_r1 : List Cond := [Cond.fieldLink RX3 10 "KnotRugs" "rug" "LKnotRugs$Rug;", Cond.methodLink RX3 54 yX3_checkWeaver, Cond.static yX3_checkWeaver, Cond.initialized RX3, Cond.code yX3_checkWeaver cX3_checkWeaver 1 none, Cond.methodLink RX3 93 yX3_checkIndex, Cond.static yX3_checkIndex, Cond.code yX3_checkIndex cX3_checkIndex 2 none, Cond.classLink RX3 172 "java/lang/IndexOutOfBoundsException", Cond.initialized "java/lang/IndexOutOfBoundsException", Cond.methodLink RX3 57 yX1_weaverAt, Cond.instanceMethod yX1_weaverAt, Cond.selects RX1 yX1_weaverAt yX1_weaverAt, Cond.initialized RX1, Cond.code yX1_weaverAt cX1_weaverAt 2 (some (.object "KnotRugs$Weaver")), Cond.fieldLink RX1 14 "KnotRugs$Rug" "leftWeaver" "LKnotRugs$Weaver;", Cond.fieldLink RX1 20 "KnotRugs$Rug" "rightWeaver" "LKnotRugs$Weaver;", Cond.methodLink RX3 140 yX2_firstOffPlan, Cond.instanceMethod yX2_firstOffPlan, Cond.selects RX2 yX2_firstOffPlan yX2_firstOffPlan, Cond.initialized RX2, Cond.code yX2_firstOffPlan cX2_firstOffPlan 2 (some .int), Cond.fieldLink RX2 31 "KnotRugs$Weaver" "made" "I", Cond.fieldLink RX2 15 "KnotRugs$Weaver" "knotted" "[I"]
def wsX3_mends_r2 : List Cond := [Cond.fieldLink RX2 9 "KnotRugs$Weaver" "planned" "[I", Cond.static yX3_at, Cond.code yX3_at cX3_at 2 (some .int)]
def wsX3_mends : List Cond := .code yX3_mends cX3_mends 3 (some .int) :: ((wsX3_mends_r1 ++ wsX3_mends_r2) ++ wsX30 ++ wsX20 ++ wsX10 ++ (vx_atS RX3 176 "java/lang/IndexOutOfBoundsException" ["java/lang/RuntimeException", "java/lang/Exception"]).filter goodWord)
def wsX3_pass_r1 : List Cond := [Cond.fieldLink RX3 10 "KnotRugs" "rug" "LKnotRugs$Rug;", Cond.methodLink RX3 23 yX3_checkRange, Cond.static yX3_checkRange, Cond.initialized RX3, Cond.code yX3_checkRange cX3_checkRange 3 none, Cond.classLink RX3 177 "java/lang/IllegalArgumentException", Cond.initialized "java/lang/IllegalArgumentException", Cond.methodLink RX3 143 yX1_letGoBy, Cond.instanceMethod yX1_letGoBy, Cond.selects RX1 yX1_letGoBy yX1_letGoBy, Cond.initialized RX1, Cond.code yX1_letGoBy cX1_letGoBy 4 (some .int), Cond.fieldLink RX1 14 "KnotRugs$Rug" "leftWeaver" "LKnotRugs$Weaver;", Cond.fieldLink RX1 26 "KnotRugs$Rug" "baskets" "LKnotRugs$Baskets;", Cond.fieldLink RX1 20 "KnotRugs$Rug" "rightWeaver" "LKnotRugs$Weaver;", Cond.fieldLink RX1 30 "KnotRugs$Rug" "hour" "I", Cond.methodLink RX1 74 yX2_workAnHour, Cond.instanceMethod yX2_workAnHour, Cond.selects RX2 yX2_workAnHour yX2_workAnHour, Cond.initialized RX2, Cond.code yX2_workAnHour cX2_workAnHour 3 (some .int), Cond.fieldLink RX2 24 "KnotRugs$Weaver" "speed" "I", Cond.methodLink RX2 56 yX2_hasWork, Cond.instanceMethod yX2_hasWork]
def wsX3_pass_r2 : List Cond := [Cond.selects RX2 yX2_hasWork yX2_hasWork, Cond.code yX2_hasWork cX2_hasWork 1 (some .boolean), Cond.fieldLink RX2 28 "KnotRugs$Weaver" "told" "I", Cond.methodLink RX2 52 yX2_isHalfDone, Cond.instanceMethod yX2_isHalfDone, Cond.selects RX2 yX2_isHalfDone yX2_isHalfDone, Cond.code yX2_isHalfDone cX2_isHalfDone 1 (some .boolean), Cond.fieldLink RX2 31 "KnotRugs$Weaver" "made" "I", Cond.methodLink RX2 59 yX2_knotNext, Cond.instanceMethod yX2_knotNext, Cond.selects RX2 yX2_knotNext yX2_knotNext, Cond.code yX2_knotNext cX2_knotNext 4 (some .boolean), Cond.fieldLink RX2 18 "KnotRugs$Weaver" "toldColours" "[I", Cond.fieldLink RX2 15 "KnotRugs$Weaver" "knotted" "[I", Cond.fieldLink RX2 34 "KnotRugs$Weaver" "inAnotherColour" "I", Cond.static yX3_at, Cond.code yX3_at cX3_at 2 (some .int), Cond.methodLink RX2 63 yX0_take, Cond.instanceMethod yX0_take, Cond.selects RX0 yX0_take yX0_take, Cond.initialized RX0, Cond.code yX0_take cX0_take 5 (some .int), Cond.fieldLink RX0 9 "KnotRugs$Baskets" "left" "[I", Cond.static yX3_put]
def wsX3_pass_r3 : List Cond := [Cond.code yX3_put cX3_put 3 none, Cond.methodLink RX2 69 yX2_shortenFirstRun, Cond.instanceMethod yX2_shortenFirstRun, Cond.selects RX2 yX2_shortenFirstRun yX2_shortenFirstRun, Cond.code yX2_shortenFirstRun cX2_shortenFirstRun 3 none, Cond.fieldLink RX2 21 "KnotRugs$Weaver" "toldKnots" "[I"]
def wsX3_pass : List Cond := .code yX3_pass cX3_pass 2 (some .int) :: ((wsX3_pass_r1 ++ (wsX3_pass_r2 ++ wsX3_pass_r3)) ++ wsX30 ++ wsX10 ++ wsX20 ++ wsX00 ++ (vx_atS RX3 181 "java/lang/IllegalArgumentException" ["java/lang/RuntimeException", "java/lang/Exception"]).filter goodWord)
def wsX3_done_r1 : List Cond := [Cond.fieldLink RX3 16 "KnotRugs" "trial" "LKnotRugs$Rug;", Cond.fieldLink RX3 10 "KnotRugs" "rug" "LKnotRugs$Rug;", Cond.methodLink RX3 54 yX3_checkWeaver, Cond.static yX3_checkWeaver, Cond.initialized RX3, Cond.code yX3_checkWeaver cX3_checkWeaver 1 none, Cond.methodLink RX3 93 yX3_checkIndex, Cond.static yX3_checkIndex, Cond.code yX3_checkIndex cX3_checkIndex 2 none, Cond.classLink RX3 172 "java/lang/IndexOutOfBoundsException", Cond.initialized "java/lang/IndexOutOfBoundsException", Cond.methodLink RX3 146 yX1_becomeLike, Cond.instanceMethod yX1_becomeLike, Cond.selects RX1 yX1_becomeLike yX1_becomeLike, Cond.initialized RX1, Cond.code yX1_becomeLike cX1_becomeLike 2 none, Cond.fieldLink RX1 14 "KnotRugs$Rug" "leftWeaver" "LKnotRugs$Weaver;", Cond.fieldLink RX1 20 "KnotRugs$Rug" "rightWeaver" "LKnotRugs$Weaver;", Cond.fieldLink RX1 26 "KnotRugs$Rug" "baskets" "LKnotRugs$Baskets;", Cond.fieldLink RX1 30 "KnotRugs$Rug" "hour" "I", Cond.fieldLink RX1 34 "KnotRugs$Rug" "unpicked" "I", Cond.methodLink RX1 63 yX2_becomeLike, Cond.instanceMethod yX2_becomeLike, Cond.selects RX2 yX2_becomeLike yX2_becomeLike]
def wsX3_done_r2 : List Cond := [Cond.initialized RX2, Cond.code yX2_becomeLike cX2_becomeLike 2 none, Cond.fieldLink RX2 9 "KnotRugs$Weaver" "planned" "[I", Cond.fieldLink RX2 15 "KnotRugs$Weaver" "knotted" "[I", Cond.fieldLink RX2 18 "KnotRugs$Weaver" "toldColours" "[I", Cond.fieldLink RX2 21 "KnotRugs$Weaver" "toldKnots" "[I", Cond.fieldLink RX2 24 "KnotRugs$Weaver" "speed" "I", Cond.fieldLink RX2 28 "KnotRugs$Weaver" "told" "I", Cond.fieldLink RX2 31 "KnotRugs$Weaver" "made" "I", Cond.fieldLink RX2 34 "KnotRugs$Weaver" "inAnotherColour" "I", Cond.static yX3_copyRow, Cond.code yX3_copyRow cX3_copyRow 3 none, Cond.methodLink RX3 57 yX1_weaverAt, Cond.instanceMethod yX1_weaverAt, Cond.selects RX1 yX1_weaverAt yX1_weaverAt, Cond.code yX1_weaverAt cX1_weaverAt 2 (some (.object "KnotRugs$Weaver")), Cond.methodLink RX3 150 yX2_hasWork, Cond.instanceMethod yX2_hasWork, Cond.selects RX2 yX2_hasWork yX2_hasWork, Cond.code yX2_hasWork cX2_hasWork 1 (some .boolean), Cond.methodLink RX2 52 yX2_isHalfDone, Cond.instanceMethod yX2_isHalfDone, Cond.selects RX2 yX2_isHalfDone yX2_isHalfDone, Cond.code yX2_isHalfDone cX2_isHalfDone 1 (some .boolean)]
def wsX3_done_r3 : List Cond := [Cond.methodLink RX3 143 yX1_letGoBy, Cond.instanceMethod yX1_letGoBy, Cond.selects RX1 yX1_letGoBy yX1_letGoBy, Cond.code yX1_letGoBy cX1_letGoBy 4 (some .int), Cond.methodLink RX1 74 yX2_workAnHour, Cond.instanceMethod yX2_workAnHour, Cond.selects RX2 yX2_workAnHour yX2_workAnHour, Cond.code yX2_workAnHour cX2_workAnHour 3 (some .int), Cond.methodLink RX2 56 yX2_hasWork, Cond.methodLink RX2 59 yX2_knotNext, Cond.instanceMethod yX2_knotNext, Cond.selects RX2 yX2_knotNext yX2_knotNext, Cond.code yX2_knotNext cX2_knotNext 4 (some .boolean), Cond.static yX3_at, Cond.code yX3_at cX3_at 2 (some .int), Cond.methodLink RX2 63 yX0_take, Cond.instanceMethod yX0_take, Cond.selects RX0 yX0_take yX0_take, Cond.initialized RX0, Cond.code yX0_take cX0_take 5 (some .int), Cond.fieldLink RX0 9 "KnotRugs$Baskets" "left" "[I", Cond.static yX3_put, Cond.code yX3_put cX3_put 3 none, Cond.methodLink RX2 69 yX2_shortenFirstRun]
def wsX3_done_r4 : List Cond := [Cond.instanceMethod yX2_shortenFirstRun, Cond.selects RX2 yX2_shortenFirstRun yX2_shortenFirstRun, Cond.code yX2_shortenFirstRun cX2_shortenFirstRun 3 none]
def wsX3_done : List Cond := .code yX3_done cX3_done 4 (some .int) :: ((wsX3_done_r1 ++ (wsX3_done_r2 ++ (wsX3_done_r3 ++ wsX3_done_r4))) ++ wsX30 ++ wsX10 ++ wsX00 ++ wsX20 ++ (vx_atS RX3 176 "java/lang/IndexOutOfBoundsException" ["java/lang/RuntimeException", "java/lang/Exception"]).filter goodWord)
def wsX3_foresee_r1 : List Cond := [Cond.fieldLink RX3 16 "KnotRugs" "trial" "LKnotRugs$Rug;", Cond.fieldLink RX3 10 "KnotRugs" "rug" "LKnotRugs$Rug;", Cond.methodLink RX3 23 yX3_checkRange, Cond.static yX3_checkRange, Cond.initialized RX3, Cond.code yX3_checkRange cX3_checkRange 3 none, Cond.classLink RX3 177 "java/lang/IllegalArgumentException", Cond.initialized "java/lang/IllegalArgumentException", Cond.methodLink RX3 93 yX3_checkIndex, Cond.static yX3_checkIndex, Cond.code yX3_checkIndex cX3_checkIndex 2 none, Cond.classLink RX3 172 "java/lang/IndexOutOfBoundsException", Cond.initialized "java/lang/IndexOutOfBoundsException", Cond.methodLink RX3 146 yX1_becomeLike, Cond.instanceMethod yX1_becomeLike, Cond.selects RX1 yX1_becomeLike yX1_becomeLike, Cond.initialized RX1, Cond.code yX1_becomeLike cX1_becomeLike 2 none, Cond.fieldLink RX1 14 "KnotRugs$Rug" "leftWeaver" "LKnotRugs$Weaver;", Cond.fieldLink RX1 20 "KnotRugs$Rug" "rightWeaver" "LKnotRugs$Weaver;", Cond.fieldLink RX1 26 "KnotRugs$Rug" "baskets" "LKnotRugs$Baskets;", Cond.fieldLink RX1 30 "KnotRugs$Rug" "hour" "I", Cond.fieldLink RX1 34 "KnotRugs$Rug" "unpicked" "I", Cond.methodLink RX1 63 yX2_becomeLike]
def wsX3_foresee_r2 : List Cond := [Cond.instanceMethod yX2_becomeLike, Cond.selects RX2 yX2_becomeLike yX2_becomeLike, Cond.initialized RX2, Cond.code yX2_becomeLike cX2_becomeLike 2 none, Cond.fieldLink RX2 9 "KnotRugs$Weaver" "planned" "[I", Cond.fieldLink RX2 15 "KnotRugs$Weaver" "knotted" "[I", Cond.fieldLink RX2 18 "KnotRugs$Weaver" "toldColours" "[I", Cond.fieldLink RX2 21 "KnotRugs$Weaver" "toldKnots" "[I", Cond.fieldLink RX2 24 "KnotRugs$Weaver" "speed" "I", Cond.fieldLink RX2 28 "KnotRugs$Weaver" "told" "I", Cond.fieldLink RX2 31 "KnotRugs$Weaver" "made" "I", Cond.fieldLink RX2 34 "KnotRugs$Weaver" "inAnotherColour" "I", Cond.static yX3_copyRow, Cond.code yX3_copyRow cX3_copyRow 3 none, Cond.methodLink RX3 143 yX1_letGoBy, Cond.instanceMethod yX1_letGoBy, Cond.selects RX1 yX1_letGoBy yX1_letGoBy, Cond.code yX1_letGoBy cX1_letGoBy 4 (some .int), Cond.methodLink RX1 74 yX2_workAnHour, Cond.instanceMethod yX2_workAnHour, Cond.selects RX2 yX2_workAnHour yX2_workAnHour, Cond.code yX2_workAnHour cX2_workAnHour 3 (some .int), Cond.methodLink RX2 56 yX2_hasWork, Cond.instanceMethod yX2_hasWork]
def wsX3_foresee_r3 : List Cond := [Cond.selects RX2 yX2_hasWork yX2_hasWork, Cond.code yX2_hasWork cX2_hasWork 1 (some .boolean), Cond.methodLink RX2 52 yX2_isHalfDone, Cond.instanceMethod yX2_isHalfDone, Cond.selects RX2 yX2_isHalfDone yX2_isHalfDone, Cond.code yX2_isHalfDone cX2_isHalfDone 1 (some .boolean), Cond.methodLink RX2 59 yX2_knotNext, Cond.instanceMethod yX2_knotNext, Cond.selects RX2 yX2_knotNext yX2_knotNext, Cond.code yX2_knotNext cX2_knotNext 4 (some .boolean), Cond.static yX3_at, Cond.code yX3_at cX3_at 2 (some .int), Cond.methodLink RX2 63 yX0_take, Cond.instanceMethod yX0_take, Cond.selects RX0 yX0_take yX0_take, Cond.initialized RX0, Cond.code yX0_take cX0_take 5 (some .int), Cond.fieldLink RX0 9 "KnotRugs$Baskets" "left" "[I", Cond.static yX3_put, Cond.code yX3_put cX3_put 3 none, Cond.methodLink RX2 69 yX2_shortenFirstRun, Cond.instanceMethod yX2_shortenFirstRun, Cond.selects RX2 yX2_shortenFirstRun yX2_shortenFirstRun, Cond.code yX2_shortenFirstRun cX2_shortenFirstRun 3 none]
def wsX3_foresee_r4 : List Cond := [Cond.methodLink RX3 153 yX1_knots, Cond.instanceMethod yX1_knots, Cond.selects RX1 yX1_knots yX1_knots, Cond.code yX1_knots cX1_knots 1 (some .int), Cond.methodLink RX3 156 yX1_offPlan, Cond.instanceMethod yX1_offPlan, Cond.selects RX1 yX1_offPlan yX1_offPlan, Cond.code yX1_offPlan cX1_offPlan 1 (some .int), Cond.methodLink RX1 100 yX2_offPlan, Cond.instanceMethod yX2_offPlan, Cond.selects RX2 yX2_offPlan yX2_offPlan, Cond.code yX2_offPlan cX2_offPlan 3 (some .int), Cond.methodLink RX3 159 yX1_tornRows, Cond.instanceMethod yX1_tornRows, Cond.selects RX1 yX1_tornRows yX1_tornRows, Cond.code yX1_tornRows cX1_tornRows 7 (some .int), Cond.methodLink RX1 85 yX1_rowsDone, Cond.instanceMethod yX1_rowsDone, Cond.selects RX1 yX1_rowsDone yX1_rowsDone, Cond.code yX1_rowsDone cX1_rowsDone 1 (some .int), Cond.methodLink RX1 102 Lib.Math.min.name, Cond.static Lib.Math.min.name, Cond.initialized "java/lang/Math", Cond.code Lib.Math.min.name Lib.Math.min.code 2 (some .int)]
def wsX3_foresee_r5 : List Cond := [Cond.methodLink RX1 101 yX2_rowsDone, Cond.instanceMethod yX2_rowsDone, Cond.selects RX2 yX2_rowsDone yX2_rowsDone, Cond.code yX2_rowsDone cX2_rowsDone 1 (some .int), Cond.static yX3_placeOf, Cond.code yX3_placeOf cX3_placeOf 2 (some .int)]
def wsX3_foresee : List Cond := .code yX3_foresee cX3_foresee 3 (some .int) :: ((wsX3_foresee_r1 ++ (wsX3_foresee_r2 ++ (wsX3_foresee_r3 ++ (wsX3_foresee_r4 ++ wsX3_foresee_r5)))) ++ wsX30 ++ wsX10 ++ wsX00 ++ wsX20 ++ (vx_atS RX3 181 "java/lang/IllegalArgumentException" ["java/lang/RuntimeException", "java/lang/Exception"]).filter goodWord ++ (vx_atS RX3 176 "java/lang/IndexOutOfBoundsException" ["java/lang/RuntimeException", "java/lang/Exception"]).filter goodWord)
def wsX3_share : List Cond := .code yX3_share cX3_share 2 (some .double) :: ([.fieldLink RX3 10 "KnotRugs" "rug" "LKnotRugs$Rug;", .methodLink RX3 153 yX1_knots, .instanceMethod yX1_knots, .selects RX1 yX1_knots yX1_knots, .initialized RX1, .code yX1_knots cX1_knots 1 (some .int), .fieldLink RX1 14 "KnotRugs$Rug" "leftWeaver" "LKnotRugs$Weaver;", .fieldLink RX1 20 "KnotRugs$Rug" "rightWeaver" "LKnotRugs$Weaver;", .methodLink RX3 156 yX1_offPlan, .instanceMethod yX1_offPlan, .selects RX1 yX1_offPlan yX1_offPlan, .code yX1_offPlan cX1_offPlan 1 (some .int), .methodLink RX1 100 yX2_offPlan, .instanceMethod yX2_offPlan, .selects RX2 yX2_offPlan yX2_offPlan, .initialized RX2, .code yX2_offPlan cX2_offPlan 3 (some .int), .fieldLink RX2 31 "KnotRugs$Weaver" "made" "I", .fieldLink RX2 15 "KnotRugs$Weaver" "knotted" "[I", .fieldLink RX2 9 "KnotRugs$Weaver" "planned" "[I", .static yX3_at, .initialized RX3, .code yX3_at cX3_at 2 (some .int)] ++ wsX30 ++ wsX10 ++ wsX20)
def wsX3_digest_r1 : List Cond := [Cond.constantLong RX3 162 (983), Cond.fieldLink RX3 10 "KnotRugs" "rug" "LKnotRugs$Rug;", Cond.methodLink RX3 123 yX1_number, Cond.instanceMethod yX1_number, Cond.selects RX1 yX1_number yX1_number, Cond.initialized RX1, Cond.code yX1_number cX1_number 2 (some .int), Cond.fieldLink RX1 30 "KnotRugs$Rug" "hour" "I", Cond.fieldLink RX1 26 "KnotRugs$Rug" "baskets" "LKnotRugs$Baskets;", Cond.fieldLink RX1 34 "KnotRugs$Rug" "unpicked" "I", Cond.methodLink RX1 78 yX1_knots, Cond.instanceMethod yX1_knots, Cond.selects RX1 yX1_knots yX1_knots, Cond.code yX1_knots cX1_knots 1 (some .int), Cond.fieldLink RX1 14 "KnotRugs$Rug" "leftWeaver" "LKnotRugs$Weaver;", Cond.fieldLink RX1 20 "KnotRugs$Rug" "rightWeaver" "LKnotRugs$Weaver;", Cond.methodLink RX1 82 yX1_offPlan, Cond.instanceMethod yX1_offPlan, Cond.selects RX1 yX1_offPlan yX1_offPlan, Cond.code yX1_offPlan cX1_offPlan 1 (some .int), Cond.methodLink RX1 100 yX2_offPlan, Cond.instanceMethod yX2_offPlan, Cond.selects RX2 yX2_offPlan yX2_offPlan, Cond.initialized RX2]
def wsX3_digest_r2 : List Cond := [Cond.code yX2_offPlan cX2_offPlan 3 (some .int), Cond.fieldLink RX2 31 "KnotRugs$Weaver" "made" "I", Cond.fieldLink RX2 15 "KnotRugs$Weaver" "knotted" "[I", Cond.fieldLink RX2 9 "KnotRugs$Weaver" "planned" "[I", Cond.static yX3_at, Cond.initialized RX3, Cond.code yX3_at cX3_at 2 (some .int), Cond.methodLink RX1 85 yX1_rowsDone, Cond.instanceMethod yX1_rowsDone, Cond.selects RX1 yX1_rowsDone yX1_rowsDone, Cond.code yX1_rowsDone cX1_rowsDone 1 (some .int), Cond.methodLink RX1 102 Lib.Math.min.name, Cond.static Lib.Math.min.name, Cond.initialized "java/lang/Math", Cond.code Lib.Math.min.name Lib.Math.min.code 2 (some .int), Cond.methodLink RX1 101 yX2_rowsDone, Cond.instanceMethod yX2_rowsDone, Cond.selects RX2 yX2_rowsDone yX2_rowsDone, Cond.code yX2_rowsDone cX2_rowsDone 1 (some .int), Cond.methodLink RX1 88 yX1_tornRows, Cond.instanceMethod yX1_tornRows, Cond.selects RX1 yX1_tornRows yX1_tornRows, Cond.code yX1_tornRows cX1_tornRows 7 (some .int), Cond.static yX3_placeOf]
def wsX3_digest_r3 : List Cond := [Cond.code yX3_placeOf cX3_placeOf 2 (some .int), Cond.methodLink RX1 91 yX0_inAll, Cond.instanceMethod yX0_inAll, Cond.selects RX0 yX0_inAll yX0_inAll, Cond.initialized RX0, Cond.code yX0_inAll cX0_inAll 3 (some .int), Cond.fieldLink RX0 9 "KnotRugs$Baskets" "left" "[I", Cond.methodLink RX1 94 yX0_empty, Cond.instanceMethod yX0_empty, Cond.selects RX0 yX0_empty yX0_empty, Cond.code yX0_empty cX0_empty 3 (some .int), Cond.methodLink RX3 164 yX3_mix, Cond.static yX3_mix, Cond.code yX3_mix cX3_mix 3 (some .long), Cond.constantLong RX3 182 (31), Cond.methodLink RX3 96 yX1_knotAt, Cond.instanceMethod yX1_knotAt, Cond.selects RX1 yX1_knotAt yX1_knotAt, Cond.code yX1_knotAt cX1_knotAt 3 (some .int), Cond.methodLink RX1 45 yX1_ownerOf, Cond.instanceMethod yX1_ownerOf, Cond.selects RX1 yX1_ownerOf yX1_ownerOf, Cond.code yX1_ownerOf cX1_ownerOf 2 (some (.object "KnotRugs$Weaver")), Cond.static yX3_sideOf]
def wsX3_digest_r4 : List Cond := [Cond.code yX3_sideOf cX3_sideOf 1 (some .int), Cond.methodLink RX1 41 yX1_weaverAt, Cond.instanceMethod yX1_weaverAt, Cond.selects RX1 yX1_weaverAt yX1_weaverAt, Cond.code yX1_weaverAt cX1_weaverAt 2 (some (.object "KnotRugs$Weaver")), Cond.methodLink RX1 52 yX2_knotAtPlace, Cond.instanceMethod yX2_knotAtPlace, Cond.selects RX2 yX2_knotAtPlace yX2_knotAtPlace, Cond.code yX2_knotAtPlace cX2_knotAtPlace 2 (some .int), Cond.methodLink RX3 99 yX1_planAt, Cond.instanceMethod yX1_planAt, Cond.selects RX1 yX1_planAt yX1_planAt, Cond.code yX1_planAt cX1_planAt 3 (some .int), Cond.methodLink RX3 57 yX1_weaverAt, Cond.methodLink RX3 168 yX2_mixInto, Cond.instanceMethod yX2_mixInto, Cond.selects RX2 yX2_mixInto yX2_mixInto, Cond.code yX2_mixInto cX2_mixInto 6 (some .long), Cond.fieldLink RX2 28 "KnotRugs$Weaver" "told" "I", Cond.fieldLink RX2 18 "KnotRugs$Weaver" "toldColours" "[I", Cond.fieldLink RX2 21 "KnotRugs$Weaver" "toldKnots" "[I", Cond.methodLink RX2 83 yX2_number, Cond.instanceMethod yX2_number, Cond.selects RX2 yX2_number yX2_number]
def wsX3_digest_r5 : List Cond := [Cond.code yX2_number cX2_number 2 (some .int), Cond.fieldLink RX2 24 "KnotRugs$Weaver" "speed" "I", Cond.fieldLink RX2 34 "KnotRugs$Weaver" "inAnotherColour" "I", Cond.methodLink RX2 76 yX2_toldInAll, Cond.instanceMethod yX2_toldInAll, Cond.selects RX2 yX2_toldInAll yX2_toldInAll, Cond.code yX2_toldInAll cX2_toldInAll 3 (some .int), Cond.methodLink RX2 80 yX2_nextX, Cond.instanceMethod yX2_nextX, Cond.selects RX2 yX2_nextX yX2_nextX, Cond.code yX2_nextX cX2_nextX 2 (some .int), Cond.fieldLink RX2 37 "KnotRugs$Weaver" "side" "I", Cond.methodLink RX2 52 yX2_isHalfDone, Cond.instanceMethod yX2_isHalfDone, Cond.selects RX2 yX2_isHalfDone yX2_isHalfDone, Cond.code yX2_isHalfDone cX2_isHalfDone 1 (some .boolean), Cond.methodLink RX3 116 yX3_at]
def wsX3_digest : List Cond := .code yX3_digest cX3_digest 5 (some .long) :: ((wsX3_digest_r1 ++ (wsX3_digest_r2 ++ (wsX3_digest_r3 ++ (wsX3_digest_r4 ++ wsX3_digest_r5)))) ++ wsX30 ++ wsX10 ++ wsX00 ++ wsX20)
def wsX4_init : List Cond := .code yX4_init cX4_init 2 none :: ([.methodLink RX4 1 objectInit, .instanceMethod objectInit, .code objectInit ⟨#[0xb1]⟩ 1 none, .arrayClass .int, .fieldLink RX4 7 "KnotRugsModel" "people" "[I", .fieldLink RX4 13 "KnotRugsModel" "knots" "[I", .fieldLink RX4 16 "KnotRugsModel" "plan" "[I", .fieldLink RX4 19 "KnotRugsModel" "runs" "[I", .fieldLink RX4 22 "KnotRugsModel" "baskets" "[I", .fieldLink RX4 25 "KnotRugsModel" "numbers" "[I"] ++ wsX40)
def wsX4_thrown : List Cond := .code yX4_thrown cX4_thrown 1 (some .int) :: ([.fieldLink RX4 28 "KnotRugsModel" "thrown" "I"] ++ wsX40)
def wsX4_fail : List Cond := .code yX4_fail cX4_fail 2 (some .int) :: ([.fieldLink RX4 28 "KnotRugsModel" "thrown" "I"] ++ wsX40)
def wsX4_isIn : List Cond := .code yX4_isIn cX4_isIn 3 (some .boolean) :: ([])
def wsX4_isWeaver : List Cond := .code yX4_isWeaver cX4_isWeaver 1 (some .boolean) :: ([.methodLink RX4 32 yX4_isIn, .static yX4_isIn, .initialized RX4, .code yX4_isIn cX4_isIn 3 (some .boolean)])
def wsX4_isCell : List Cond := .code yX4_isCell cX4_isCell 2 (some .boolean) :: ([.methodLink RX4 32 yX4_isIn, .static yX4_isIn, .initialized RX4, .code yX4_isIn cX4_isIn 3 (some .boolean)])
def wsX4_isColour : List Cond := .code yX4_isColour cX4_isColour 1 (some .boolean) :: ([.methodLink RX4 32 yX4_isIn, .static yX4_isIn, .initialized RX4, .code yX4_isIn cX4_isIn 3 (some .boolean)])
def wsX4_pe : List Cond := .code yX4_pe cX4_pe 3 (some .int) :: ([.fieldLink RX4 7 "KnotRugsModel" "people" "[I"] ++ wsX40)
def wsX4_put : List Cond := .code yX4_put cX4_put 4 none :: ([.fieldLink RX4 7 "KnotRugsModel" "people" "[I"] ++ wsX40)
def wsX4_at : List Cond := .code yX4_at cX4_at 2 (some .int) :: ([])
def wsX4_xOf : List Cond := .code yX4_xOf cX4_xOf 2 (some .int) :: ([])
def wsX4_colour : List Cond := .code yX4_colour cX4_colour 4 (some .int) :: ([.fieldLink RX4 13 "KnotRugsModel" "knots" "[I", .methodLink RX4 36 yX4_at, .static yX4_at, .initialized RX4, .code yX4_at cX4_at 2 (some .int), .methodLink RX4 40 yX4_pe, .instanceMethod yX4_pe, .selects RX4 yX4_pe yX4_pe, .code yX4_pe cX4_pe 3 (some .int), .fieldLink RX4 7 "KnotRugsModel" "people" "[I"] ++ wsX40)
def wsX4_plan : List Cond := .code yX4_plan cX4_plan 9 (some .int) :: ([.fieldLink RX4 28 "KnotRugsModel" "thrown" "I", .fieldLink RX4 16 "KnotRugsModel" "plan" "[I", .methodLink RX4 43 yX4_isCell, .static yX4_isCell, .initialized RX4, .code yX4_isCell cX4_isCell 2 (some .boolean), .methodLink RX4 32 yX4_isIn, .static yX4_isIn, .code yX4_isIn cX4_isIn 3 (some .boolean), .methodLink RX4 47 yX4_fail, .instanceMethod yX4_fail, .selects RX4 yX4_fail yX4_fail, .code yX4_fail cX4_fail 2 (some .int), .methodLink RX4 51 yX4_isColour, .static yX4_isColour, .code yX4_isColour cX4_isColour 1 (some .boolean), .methodLink RX4 36 yX4_at, .static yX4_at, .code yX4_at cX4_at 2 (some .int)] ++ wsX40)
def wsX4_bring : List Cond := .code yX4_bring cX4_bring 3 (some .int) :: ([.fieldLink RX4 28 "KnotRugsModel" "thrown" "I", .fieldLink RX4 22 "KnotRugsModel" "baskets" "[I", .methodLink RX4 55 Lib.Math.min.name, .static Lib.Math.min.name, .initialized "java/lang/Math", .code Lib.Math.min.name Lib.Math.min.code 2 (some .int), .methodLink RX4 51 yX4_isColour, .static yX4_isColour, .initialized RX4, .code yX4_isColour cX4_isColour 1 (some .boolean), .methodLink RX4 32 yX4_isIn, .static yX4_isIn, .code yX4_isIn cX4_isIn 3 (some .boolean), .methodLink RX4 47 yX4_fail, .instanceMethod yX4_fail, .selects RX4 yX4_fail yX4_fail, .code yX4_fail cX4_fail 2 (some .int)] ++ wsX40)
def wsX4_setSpeed : List Cond := .code yX4_setSpeed cX4_setSpeed 4 (some .int) :: ([.fieldLink RX4 28 "KnotRugsModel" "thrown" "I", .methodLink RX4 60 yX4_isWeaver, .static yX4_isWeaver, .initialized RX4, .code yX4_isWeaver cX4_isWeaver 1 (some .boolean), .methodLink RX4 32 yX4_isIn, .static yX4_isIn, .code yX4_isIn cX4_isIn 3 (some .boolean), .methodLink RX4 47 yX4_fail, .instanceMethod yX4_fail, .selects RX4 yX4_fail yX4_fail, .code yX4_fail cX4_fail 2 (some .int), .methodLink RX4 40 yX4_pe, .instanceMethod yX4_pe, .selects RX4 yX4_pe yX4_pe, .code yX4_pe cX4_pe 3 (some .int), .fieldLink RX4 7 "KnotRugsModel" "people" "[I", .methodLink RX4 63 yX4_put, .instanceMethod yX4_put, .selects RX4 yX4_put yX4_put, .code yX4_put cX4_put 4 none] ++ wsX40)
def wsX4_runAt : List Cond := .code yX4_runAt cX4_runAt 3 (some .int) :: ([])
def wsX4_tell_r1 : List Cond := [Cond.fieldLink RX4 28 "KnotRugsModel" "thrown" "I", Cond.fieldLink RX4 19 "KnotRugsModel" "runs" "[I", Cond.methodLink RX4 60 yX4_isWeaver, Cond.static yX4_isWeaver, Cond.initialized RX4, Cond.code yX4_isWeaver cX4_isWeaver 1 (some .boolean), Cond.methodLink RX4 32 yX4_isIn, Cond.static yX4_isIn, Cond.code yX4_isIn cX4_isIn 3 (some .boolean), Cond.methodLink RX4 47 yX4_fail, Cond.instanceMethod yX4_fail, Cond.selects RX4 yX4_fail yX4_fail, Cond.code yX4_fail cX4_fail 2 (some .int), Cond.methodLink RX4 51 yX4_isColour, Cond.static yX4_isColour, Cond.code yX4_isColour cX4_isColour 1 (some .boolean), Cond.methodLink RX4 40 yX4_pe, Cond.instanceMethod yX4_pe, Cond.selects RX4 yX4_pe yX4_pe, Cond.code yX4_pe cX4_pe 3 (some .int), Cond.fieldLink RX4 7 "KnotRugsModel" "people" "[I", Cond.methodLink RX4 67 yX4_runAt, Cond.instanceMethod yX4_runAt, Cond.selects RX4 yX4_runAt yX4_runAt]
def wsX4_tell_r2 : List Cond := [Cond.code yX4_runAt cX4_runAt 3 (some .int), Cond.methodLink RX4 63 yX4_put, Cond.instanceMethod yX4_put, Cond.selects RX4 yX4_put yX4_put, Cond.code yX4_put cX4_put 4 none]
def wsX4_tell : List Cond := .code yX4_tell cX4_tell 5 (some .int) :: ((wsX4_tell_r1 ++ wsX4_tell_r2) ++ wsX40)
def wsX4_told : List Cond := .code yX4_told cX4_told 4 (some .int) :: ([.fieldLink RX4 19 "KnotRugsModel" "runs" "[I", .methodLink RX4 40 yX4_pe, .instanceMethod yX4_pe, .selects RX4 yX4_pe yX4_pe, .initialized RX4, .code yX4_pe cX4_pe 3 (some .int), .fieldLink RX4 7 "KnotRugsModel" "people" "[I", .methodLink RX4 67 yX4_runAt, .instanceMethod yX4_runAt, .selects RX4 yX4_runAt yX4_runAt, .code yX4_runAt cX4_runAt 3 (some .int)] ++ wsX40)
def wsX4_hush_r1 : List Cond := [Cond.fieldLink RX4 28 "KnotRugsModel" "thrown" "I", Cond.methodLink RX4 60 yX4_isWeaver, Cond.static yX4_isWeaver, Cond.initialized RX4, Cond.code yX4_isWeaver cX4_isWeaver 1 (some .boolean), Cond.methodLink RX4 32 yX4_isIn, Cond.static yX4_isIn, Cond.code yX4_isIn cX4_isIn 3 (some .boolean), Cond.methodLink RX4 47 yX4_fail, Cond.instanceMethod yX4_fail, Cond.selects RX4 yX4_fail yX4_fail, Cond.code yX4_fail cX4_fail 2 (some .int), Cond.methodLink RX4 70 yX4_told, Cond.instanceMethod yX4_told, Cond.selects RX4 yX4_told yX4_told, Cond.code yX4_told cX4_told 4 (some .int), Cond.fieldLink RX4 19 "KnotRugsModel" "runs" "[I", Cond.methodLink RX4 40 yX4_pe, Cond.instanceMethod yX4_pe, Cond.selects RX4 yX4_pe yX4_pe, Cond.code yX4_pe cX4_pe 3 (some .int), Cond.fieldLink RX4 7 "KnotRugsModel" "people" "[I", Cond.methodLink RX4 67 yX4_runAt, Cond.instanceMethod yX4_runAt]
def wsX4_hush_r2 : List Cond := [Cond.selects RX4 yX4_runAt yX4_runAt, Cond.code yX4_runAt cX4_runAt 3 (some .int), Cond.methodLink RX4 63 yX4_put, Cond.instanceMethod yX4_put, Cond.selects RX4 yX4_put yX4_put, Cond.code yX4_put cX4_put 4 none]
def wsX4_hush : List Cond := .code yX4_hush cX4_hush 3 (some .int) :: ((wsX4_hush_r1 ++ wsX4_hush_r2) ++ wsX40)
def wsX4_unpick_r1 : List Cond := [Cond.fieldLink RX4 28 "KnotRugsModel" "thrown" "I", Cond.fieldLink RX4 13 "KnotRugsModel" "knots" "[I", Cond.fieldLink RX4 22 "KnotRugsModel" "baskets" "[I", Cond.methodLink RX4 55 Lib.Math.min.name, Cond.static Lib.Math.min.name, Cond.initialized "java/lang/Math", Cond.code Lib.Math.min.name Lib.Math.min.code 2 (some .int), Cond.fieldLink RX4 25 "KnotRugsModel" "numbers" "[I", Cond.methodLink RX4 60 yX4_isWeaver, Cond.static yX4_isWeaver, Cond.initialized RX4, Cond.code yX4_isWeaver cX4_isWeaver 1 (some .boolean), Cond.methodLink RX4 32 yX4_isIn, Cond.static yX4_isIn, Cond.code yX4_isIn cX4_isIn 3 (some .boolean), Cond.methodLink RX4 47 yX4_fail, Cond.instanceMethod yX4_fail, Cond.selects RX4 yX4_fail yX4_fail, Cond.code yX4_fail cX4_fail 2 (some .int), Cond.methodLink RX4 40 yX4_pe, Cond.instanceMethod yX4_pe, Cond.selects RX4 yX4_pe yX4_pe, Cond.code yX4_pe cX4_pe 3 (some .int), Cond.fieldLink RX4 7 "KnotRugsModel" "people" "[I"]
def wsX4_unpick_r2 : List Cond := [Cond.methodLink RX4 63 yX4_put, Cond.instanceMethod yX4_put, Cond.selects RX4 yX4_put yX4_put, Cond.code yX4_put cX4_put 4 none]
def wsX4_unpick : List Cond := .code yX4_unpick cX4_unpick 6 (some .int) :: ((wsX4_unpick_r1 ++ wsX4_unpick_r2) ++ wsX40)
def wsX4_cell_r1 : List Cond := [Cond.fieldLink RX4 28 "KnotRugsModel" "thrown" "I", Cond.fieldLink RX4 16 "KnotRugsModel" "plan" "[I", Cond.methodLink RX4 43 yX4_isCell, Cond.static yX4_isCell, Cond.initialized RX4, Cond.code yX4_isCell cX4_isCell 2 (some .boolean), Cond.methodLink RX4 32 yX4_isIn, Cond.static yX4_isIn, Cond.code yX4_isIn cX4_isIn 3 (some .boolean), Cond.methodLink RX4 73 yX4_colour, Cond.instanceMethod yX4_colour, Cond.selects RX4 yX4_colour yX4_colour, Cond.code yX4_colour cX4_colour 4 (some .int), Cond.fieldLink RX4 13 "KnotRugsModel" "knots" "[I", Cond.methodLink RX4 36 yX4_at, Cond.static yX4_at, Cond.code yX4_at cX4_at 2 (some .int), Cond.methodLink RX4 40 yX4_pe, Cond.instanceMethod yX4_pe, Cond.selects RX4 yX4_pe yX4_pe, Cond.code yX4_pe cX4_pe 3 (some .int), Cond.fieldLink RX4 7 "KnotRugsModel" "people" "[I", Cond.methodLink RX4 47 yX4_fail, Cond.instanceMethod yX4_fail]
def wsX4_cell_r2 : List Cond := [Cond.selects RX4 yX4_fail yX4_fail, Cond.code yX4_fail cX4_fail 2 (some .int)]
def wsX4_cell : List Cond := .code yX4_cell cX4_cell 4 (some .int) :: ((wsX4_cell_r1 ++ wsX4_cell_r2) ++ wsX40)
def wsX4_sees_r1 : List Cond := [Cond.fieldLink RX4 28 "KnotRugsModel" "thrown" "I", Cond.methodLink RX4 60 yX4_isWeaver, Cond.static yX4_isWeaver, Cond.initialized RX4, Cond.code yX4_isWeaver cX4_isWeaver 1 (some .boolean), Cond.methodLink RX4 32 yX4_isIn, Cond.static yX4_isIn, Cond.code yX4_isIn cX4_isIn 3 (some .boolean), Cond.methodLink RX4 43 yX4_isCell, Cond.static yX4_isCell, Cond.code yX4_isCell cX4_isCell 2 (some .boolean), Cond.methodLink RX4 47 yX4_fail, Cond.instanceMethod yX4_fail, Cond.selects RX4 yX4_fail yX4_fail, Cond.code yX4_fail cX4_fail 2 (some .int), Cond.methodLink RX4 40 yX4_pe, Cond.instanceMethod yX4_pe, Cond.selects RX4 yX4_pe yX4_pe, Cond.code yX4_pe cX4_pe 3 (some .int), Cond.fieldLink RX4 7 "KnotRugsModel" "people" "[I", Cond.methodLink RX4 73 yX4_colour, Cond.instanceMethod yX4_colour, Cond.selects RX4 yX4_colour yX4_colour, Cond.code yX4_colour cX4_colour 4 (some .int)]
def wsX4_sees_r2 : List Cond := [Cond.fieldLink RX4 13 "KnotRugsModel" "knots" "[I", Cond.methodLink RX4 36 yX4_at, Cond.static yX4_at, Cond.code yX4_at cX4_at 2 (some .int)]
def wsX4_sees : List Cond := .code yX4_sees cX4_sees 6 (some .int) :: ((wsX4_sees_r1 ++ wsX4_sees_r2) ++ wsX40)
def wsX4_weaverTold : List Cond := .code yX4_weaverTold cX4_weaverTold 4 (some .int) :: ([.methodLink RX4 40 yX4_pe, .instanceMethod yX4_pe, .selects RX4 yX4_pe yX4_pe, .initialized RX4, .code yX4_pe cX4_pe 3 (some .int), .fieldLink RX4 7 "KnotRugsModel" "people" "[I", .methodLink RX4 70 yX4_told, .instanceMethod yX4_told, .selects RX4 yX4_told yX4_told, .code yX4_told cX4_told 4 (some .int), .fieldLink RX4 19 "KnotRugsModel" "runs" "[I", .methodLink RX4 67 yX4_runAt, .instanceMethod yX4_runAt, .selects RX4 yX4_runAt yX4_runAt, .code yX4_runAt cX4_runAt 3 (some .int), .methodLink RX4 76 yX4_xOf, .static yX4_xOf, .code yX4_xOf cX4_xOf 2 (some .int)] ++ wsX40)
def wsX4_weaver_r1 : List Cond := [Cond.fieldLink RX4 28 "KnotRugsModel" "thrown" "I", Cond.methodLink RX4 60 yX4_isWeaver, Cond.static yX4_isWeaver, Cond.initialized RX4, Cond.code yX4_isWeaver cX4_isWeaver 1 (some .boolean), Cond.methodLink RX4 32 yX4_isIn, Cond.static yX4_isIn, Cond.code yX4_isIn cX4_isIn 3 (some .boolean), Cond.methodLink RX4 79 yX4_weaverTold, Cond.instanceMethod yX4_weaverTold, Cond.selects RX4 yX4_weaverTold yX4_weaverTold, Cond.code yX4_weaverTold cX4_weaverTold 4 (some .int), Cond.methodLink RX4 40 yX4_pe, Cond.instanceMethod yX4_pe, Cond.selects RX4 yX4_pe yX4_pe, Cond.code yX4_pe cX4_pe 3 (some .int), Cond.fieldLink RX4 7 "KnotRugsModel" "people" "[I", Cond.methodLink RX4 70 yX4_told, Cond.instanceMethod yX4_told, Cond.selects RX4 yX4_told yX4_told, Cond.code yX4_told cX4_told 4 (some .int), Cond.fieldLink RX4 19 "KnotRugsModel" "runs" "[I", Cond.methodLink RX4 67 yX4_runAt, Cond.instanceMethod yX4_runAt]
def wsX4_weaver_r2 : List Cond := [Cond.selects RX4 yX4_runAt yX4_runAt, Cond.code yX4_runAt cX4_runAt 3 (some .int), Cond.methodLink RX4 76 yX4_xOf, Cond.static yX4_xOf, Cond.code yX4_xOf cX4_xOf 2 (some .int), Cond.methodLink RX4 47 yX4_fail, Cond.instanceMethod yX4_fail, Cond.selects RX4 yX4_fail yX4_fail, Cond.code yX4_fail cX4_fail 2 (some .int)]
def wsX4_weaver : List Cond := .code yX4_weaver cX4_weaver 3 (some .int) :: ((wsX4_weaver_r1 ++ wsX4_weaver_r2) ++ wsX40)
def wsX4_run : List Cond := .code yX4_run cX4_run 4 (some .int) :: ([.fieldLink RX4 28 "KnotRugsModel" "thrown" "I", .fieldLink RX4 19 "KnotRugsModel" "runs" "[I", .methodLink RX4 60 yX4_isWeaver, .static yX4_isWeaver, .initialized RX4, .code yX4_isWeaver cX4_isWeaver 1 (some .boolean), .methodLink RX4 32 yX4_isIn, .static yX4_isIn, .code yX4_isIn cX4_isIn 3 (some .boolean), .methodLink RX4 40 yX4_pe, .instanceMethod yX4_pe, .selects RX4 yX4_pe yX4_pe, .code yX4_pe cX4_pe 3 (some .int), .fieldLink RX4 7 "KnotRugsModel" "people" "[I", .methodLink RX4 67 yX4_runAt, .instanceMethod yX4_runAt, .selects RX4 yX4_runAt yX4_runAt, .code yX4_runAt cX4_runAt 3 (some .int), .methodLink RX4 47 yX4_fail, .instanceMethod yX4_fail, .selects RX4 yX4_fail yX4_fail, .code yX4_fail cX4_fail 2 (some .int)] ++ wsX40)
def wsX4_differ : List Cond := .code yX4_differ cX4_differ 4 (some .int) :: ([.fieldLink RX4 13 "KnotRugsModel" "knots" "[I", .fieldLink RX4 16 "KnotRugsModel" "plan" "[I", .methodLink RX4 40 yX4_pe, .instanceMethod yX4_pe, .selects RX4 yX4_pe yX4_pe, .initialized RX4, .code yX4_pe cX4_pe 3 (some .int), .fieldLink RX4 7 "KnotRugsModel" "people" "[I"] ++ wsX40)
def wsX4_doneRows : List Cond := .code yX4_doneRows cX4_doneRows 1 (some .int) :: ([.methodLink RX4 55 Lib.Math.min.name, .static Lib.Math.min.name, .initialized "java/lang/Math", .code Lib.Math.min.name Lib.Math.min.code 2 (some .int), .methodLink RX4 40 yX4_pe, .instanceMethod yX4_pe, .selects RX4 yX4_pe yX4_pe, .initialized RX4, .code yX4_pe cX4_pe 3 (some .int), .fieldLink RX4 7 "KnotRugsModel" "people" "[I"] ++ wsX40)
def wsX4_torn : List Cond := .code yX4_torn cX4_torn 4 (some .int) :: ([.fieldLink RX4 16 "KnotRugsModel" "plan" "[I", .methodLink RX4 82 yX4_doneRows, .instanceMethod yX4_doneRows, .selects RX4 yX4_doneRows yX4_doneRows, .initialized RX4, .code yX4_doneRows cX4_doneRows 1 (some .int), .methodLink RX4 55 Lib.Math.min.name, .static Lib.Math.min.name, .initialized "java/lang/Math", .code Lib.Math.min.name Lib.Math.min.code 2 (some .int), .methodLink RX4 40 yX4_pe, .instanceMethod yX4_pe, .selects RX4 yX4_pe yX4_pe, .code yX4_pe cX4_pe 3 (some .int), .fieldLink RX4 7 "KnotRugsModel" "people" "[I", .methodLink RX4 73 yX4_colour, .instanceMethod yX4_colour, .selects RX4 yX4_colour yX4_colour, .code yX4_colour cX4_colour 4 (some .int), .fieldLink RX4 13 "KnotRugsModel" "knots" "[I", .methodLink RX4 36 yX4_at, .static yX4_at, .code yX4_at cX4_at 2 (some .int)] ++ wsX40)
def wsX4_counted_r1 : List Cond := [Cond.fieldLink RX4 25 "KnotRugsModel" "numbers" "[I", Cond.fieldLink RX4 22 "KnotRugsModel" "baskets" "[I", Cond.methodLink RX4 40 yX4_pe, Cond.instanceMethod yX4_pe, Cond.selects RX4 yX4_pe yX4_pe, Cond.initialized RX4, Cond.code yX4_pe cX4_pe 3 (some .int), Cond.fieldLink RX4 7 "KnotRugsModel" "people" "[I", Cond.methodLink RX4 86 yX4_differ, Cond.instanceMethod yX4_differ, Cond.selects RX4 yX4_differ yX4_differ, Cond.code yX4_differ cX4_differ 4 (some .int), Cond.fieldLink RX4 13 "KnotRugsModel" "knots" "[I", Cond.fieldLink RX4 16 "KnotRugsModel" "plan" "[I", Cond.methodLink RX4 82 yX4_doneRows, Cond.instanceMethod yX4_doneRows, Cond.selects RX4 yX4_doneRows yX4_doneRows, Cond.code yX4_doneRows cX4_doneRows 1 (some .int), Cond.methodLink RX4 55 Lib.Math.min.name, Cond.static Lib.Math.min.name, Cond.initialized "java/lang/Math", Cond.code Lib.Math.min.name Lib.Math.min.code 2 (some .int), Cond.methodLink RX4 89 yX4_torn, Cond.instanceMethod yX4_torn]
def wsX4_counted_r2 : List Cond := [Cond.selects RX4 yX4_torn yX4_torn, Cond.code yX4_torn cX4_torn 4 (some .int), Cond.methodLink RX4 73 yX4_colour, Cond.instanceMethod yX4_colour, Cond.selects RX4 yX4_colour yX4_colour, Cond.code yX4_colour cX4_colour 4 (some .int), Cond.methodLink RX4 36 yX4_at, Cond.static yX4_at, Cond.code yX4_at cX4_at 2 (some .int)]
def wsX4_counted : List Cond := .code yX4_counted cX4_counted 7 (some .int) :: ((wsX4_counted_r1 ++ wsX4_counted_r2) ++ wsX40)
def wsX4_count_r1 : List Cond := [Cond.fieldLink RX4 28 "KnotRugsModel" "thrown" "I", Cond.methodLink RX4 32 yX4_isIn, Cond.static yX4_isIn, Cond.initialized RX4, Cond.code yX4_isIn cX4_isIn 3 (some .boolean), Cond.methodLink RX4 92 yX4_counted, Cond.instanceMethod yX4_counted, Cond.selects RX4 yX4_counted yX4_counted, Cond.code yX4_counted cX4_counted 7 (some .int), Cond.fieldLink RX4 25 "KnotRugsModel" "numbers" "[I", Cond.fieldLink RX4 22 "KnotRugsModel" "baskets" "[I", Cond.methodLink RX4 40 yX4_pe, Cond.instanceMethod yX4_pe, Cond.selects RX4 yX4_pe yX4_pe, Cond.code yX4_pe cX4_pe 3 (some .int), Cond.fieldLink RX4 7 "KnotRugsModel" "people" "[I", Cond.methodLink RX4 86 yX4_differ, Cond.instanceMethod yX4_differ, Cond.selects RX4 yX4_differ yX4_differ, Cond.code yX4_differ cX4_differ 4 (some .int), Cond.fieldLink RX4 13 "KnotRugsModel" "knots" "[I", Cond.fieldLink RX4 16 "KnotRugsModel" "plan" "[I", Cond.methodLink RX4 82 yX4_doneRows, Cond.instanceMethod yX4_doneRows]
def wsX4_count_r2 : List Cond := [Cond.selects RX4 yX4_doneRows yX4_doneRows, Cond.code yX4_doneRows cX4_doneRows 1 (some .int), Cond.methodLink RX4 55 Lib.Math.min.name, Cond.static Lib.Math.min.name, Cond.initialized "java/lang/Math", Cond.code Lib.Math.min.name Lib.Math.min.code 2 (some .int), Cond.methodLink RX4 89 yX4_torn, Cond.instanceMethod yX4_torn, Cond.selects RX4 yX4_torn yX4_torn, Cond.code yX4_torn cX4_torn 4 (some .int), Cond.methodLink RX4 73 yX4_colour, Cond.instanceMethod yX4_colour, Cond.selects RX4 yX4_colour yX4_colour, Cond.code yX4_colour cX4_colour 4 (some .int), Cond.methodLink RX4 36 yX4_at, Cond.static yX4_at, Cond.code yX4_at cX4_at 2 (some .int), Cond.methodLink RX4 47 yX4_fail, Cond.instanceMethod yX4_fail, Cond.selects RX4 yX4_fail yX4_fail, Cond.code yX4_fail cX4_fail 2 (some .int)]
def wsX4_count : List Cond := .code yX4_count cX4_count 2 (some .int) :: ((wsX4_count_r1 ++ wsX4_count_r2) ++ wsX40)
def wsX4_wool : List Cond := .code yX4_wool cX4_wool 2 (some .int) :: ([.fieldLink RX4 28 "KnotRugsModel" "thrown" "I", .fieldLink RX4 22 "KnotRugsModel" "baskets" "[I", .methodLink RX4 51 yX4_isColour, .static yX4_isColour, .initialized RX4, .code yX4_isColour cX4_isColour 1 (some .boolean), .methodLink RX4 32 yX4_isIn, .static yX4_isIn, .code yX4_isIn cX4_isIn 3 (some .boolean), .methodLink RX4 47 yX4_fail, .instanceMethod yX4_fail, .selects RX4 yX4_fail yX4_fail, .code yX4_fail cX4_fail 2 (some .int)] ++ wsX40)
def wsX4_runEnd : List Cond := .code yX4_runEnd cX4_runEnd 4 (some .int) :: ([.fieldLink RX4 16 "KnotRugsModel" "plan" "[I"] ++ wsX40)
def wsX4_advise : List Cond := .code yX4_advise cX4_advise 3 (some .int) :: ([.fieldLink RX4 28 "KnotRugsModel" "thrown" "I", .fieldLink RX4 16 "KnotRugsModel" "plan" "[I", .methodLink RX4 60 yX4_isWeaver, .static yX4_isWeaver, .initialized RX4, .code yX4_isWeaver cX4_isWeaver 1 (some .boolean), .methodLink RX4 32 yX4_isIn, .static yX4_isIn, .code yX4_isIn cX4_isIn 3 (some .boolean), .methodLink RX4 47 yX4_fail, .instanceMethod yX4_fail, .selects RX4 yX4_fail yX4_fail, .code yX4_fail cX4_fail 2 (some .int), .methodLink RX4 40 yX4_pe, .instanceMethod yX4_pe, .selects RX4 yX4_pe yX4_pe, .code yX4_pe cX4_pe 3 (some .int), .fieldLink RX4 7 "KnotRugsModel" "people" "[I", .methodLink RX4 95 yX4_runEnd, .instanceMethod yX4_runEnd, .selects RX4 yX4_runEnd yX4_runEnd, .code yX4_runEnd cX4_runEnd 4 (some .int)] ++ wsX40)
def wsX4_runs : List Cond := .code yX4_runs cX4_runs 4 (some .int) :: ([.fieldLink RX4 28 "KnotRugsModel" "thrown" "I", .methodLink RX4 60 yX4_isWeaver, .static yX4_isWeaver, .initialized RX4, .code yX4_isWeaver cX4_isWeaver 1 (some .boolean), .methodLink RX4 32 yX4_isIn, .static yX4_isIn, .code yX4_isIn cX4_isIn 3 (some .boolean), .methodLink RX4 47 yX4_fail, .instanceMethod yX4_fail, .selects RX4 yX4_fail yX4_fail, .code yX4_fail cX4_fail 2 (some .int), .methodLink RX4 40 yX4_pe, .instanceMethod yX4_pe, .selects RX4 yX4_pe yX4_pe, .code yX4_pe cX4_pe 3 (some .int), .fieldLink RX4 7 "KnotRugsModel" "people" "[I", .methodLink RX4 95 yX4_runEnd, .instanceMethod yX4_runEnd, .selects RX4 yX4_runEnd yX4_runEnd, .code yX4_runEnd cX4_runEnd 4 (some .int), .fieldLink RX4 16 "KnotRugsModel" "plan" "[I"] ++ wsX40)
def wsX4_mends : List Cond := .code yX4_mends cX4_mends 3 (some .int) :: ([.fieldLink RX4 28 "KnotRugsModel" "thrown" "I", .fieldLink RX4 13 "KnotRugsModel" "knots" "[I", .fieldLink RX4 16 "KnotRugsModel" "plan" "[I", .methodLink RX4 60 yX4_isWeaver, .static yX4_isWeaver, .initialized RX4, .code yX4_isWeaver cX4_isWeaver 1 (some .boolean), .methodLink RX4 32 yX4_isIn, .static yX4_isIn, .code yX4_isIn cX4_isIn 3 (some .boolean), .methodLink RX4 47 yX4_fail, .instanceMethod yX4_fail, .selects RX4 yX4_fail yX4_fail, .code yX4_fail cX4_fail 2 (some .int), .methodLink RX4 40 yX4_pe, .instanceMethod yX4_pe, .selects RX4 yX4_pe yX4_pe, .code yX4_pe cX4_pe 3 (some .int), .fieldLink RX4 7 "KnotRugsModel" "people" "[I"] ++ wsX40)
def wsX4_isDone : List Cond := .code yX4_isDone cX4_isDone 2 (some .boolean) :: ([.methodLink RX4 40 yX4_pe, .instanceMethod yX4_pe, .selects RX4 yX4_pe yX4_pe, .initialized RX4, .code yX4_pe cX4_pe 3 (some .int), .fieldLink RX4 7 "KnotRugsModel" "people" "[I"] ++ wsX40)
def wsX4_dropRun : List Cond := .code yX4_dropRun cX4_dropRun 2 none :: ([.fieldLink RX4 19 "KnotRugsModel" "runs" "[I", .methodLink RX4 98 arraycopyName, .native arraycopyName, .static arraycopyName, .initialized "java/lang/System", .methodLink RX4 67 yX4_runAt, .instanceMethod yX4_runAt, .selects RX4 yX4_runAt yX4_runAt, .initialized RX4, .code yX4_runAt cX4_runAt 3 (some .int), .methodLink RX4 40 yX4_pe, .instanceMethod yX4_pe, .selects RX4 yX4_pe yX4_pe, .code yX4_pe cX4_pe 3 (some .int), .fieldLink RX4 7 "KnotRugsModel" "people" "[I", .methodLink RX4 63 yX4_put, .instanceMethod yX4_put, .selects RX4 yX4_put yX4_put, .code yX4_put cX4_put 4 none] ++ wsX40)
def wsX4_knot_r1 : List Cond := [Cond.fieldLink RX4 19 "KnotRugsModel" "runs" "[I", Cond.fieldLink RX4 22 "KnotRugsModel" "baskets" "[I", Cond.fieldLink RX4 13 "KnotRugsModel" "knots" "[I", Cond.methodLink RX4 67 yX4_runAt, Cond.instanceMethod yX4_runAt, Cond.selects RX4 yX4_runAt yX4_runAt, Cond.initialized RX4, Cond.code yX4_runAt cX4_runAt 3 (some .int), Cond.methodLink RX4 40 yX4_pe, Cond.instanceMethod yX4_pe, Cond.selects RX4 yX4_pe yX4_pe, Cond.code yX4_pe cX4_pe 3 (some .int), Cond.fieldLink RX4 7 "KnotRugsModel" "people" "[I", Cond.methodLink RX4 63 yX4_put, Cond.instanceMethod yX4_put, Cond.selects RX4 yX4_put yX4_put, Cond.code yX4_put cX4_put 4 none, Cond.methodLink RX4 104 yX4_dropRun, Cond.instanceMethod yX4_dropRun, Cond.selects RX4 yX4_dropRun yX4_dropRun, Cond.code yX4_dropRun cX4_dropRun 2 none, Cond.methodLink RX4 98 arraycopyName, Cond.native arraycopyName, Cond.static arraycopyName]
def wsX4_knot_r2 : List Cond := [Cond.initialized "java/lang/System"]
def wsX4_knot : List Cond := .code yX4_knot cX4_knot 5 (some .boolean) :: ((wsX4_knot_r1 ++ wsX4_knot_r2) ++ wsX40)
def wsX4_hoursOn_r1 : List Cond := [Cond.fieldLink RX4 25 "KnotRugsModel" "numbers" "[I", Cond.methodLink RX4 40 yX4_pe, Cond.instanceMethod yX4_pe, Cond.selects RX4 yX4_pe yX4_pe, Cond.initialized RX4, Cond.code yX4_pe cX4_pe 3 (some .int), Cond.fieldLink RX4 7 "KnotRugsModel" "people" "[I", Cond.methodLink RX4 108 yX4_isDone, Cond.instanceMethod yX4_isDone, Cond.selects RX4 yX4_isDone yX4_isDone, Cond.code yX4_isDone cX4_isDone 2 (some .boolean), Cond.methodLink RX4 111 yX4_knot, Cond.instanceMethod yX4_knot, Cond.selects RX4 yX4_knot yX4_knot, Cond.code yX4_knot cX4_knot 5 (some .boolean), Cond.fieldLink RX4 19 "KnotRugsModel" "runs" "[I", Cond.fieldLink RX4 22 "KnotRugsModel" "baskets" "[I", Cond.fieldLink RX4 13 "KnotRugsModel" "knots" "[I", Cond.methodLink RX4 67 yX4_runAt, Cond.instanceMethod yX4_runAt, Cond.selects RX4 yX4_runAt yX4_runAt, Cond.code yX4_runAt cX4_runAt 3 (some .int), Cond.methodLink RX4 63 yX4_put, Cond.instanceMethod yX4_put]
def wsX4_hoursOn_r2 : List Cond := [Cond.selects RX4 yX4_put yX4_put, Cond.code yX4_put cX4_put 4 none, Cond.methodLink RX4 104 yX4_dropRun, Cond.instanceMethod yX4_dropRun, Cond.selects RX4 yX4_dropRun yX4_dropRun, Cond.code yX4_dropRun cX4_dropRun 2 none, Cond.methodLink RX4 98 arraycopyName, Cond.native arraycopyName, Cond.static arraycopyName, Cond.initialized "java/lang/System"]
def wsX4_hoursOn : List Cond := .code yX4_hoursOn cX4_hoursOn 5 none :: ((wsX4_hoursOn_r1 ++ wsX4_hoursOn_r2) ++ wsX40)
def wsX4_pass_r1 : List Cond := [Cond.fieldLink RX4 28 "KnotRugsModel" "thrown" "I", Cond.methodLink RX4 32 yX4_isIn, Cond.static yX4_isIn, Cond.initialized RX4, Cond.code yX4_isIn cX4_isIn 3 (some .boolean), Cond.methodLink RX4 47 yX4_fail, Cond.instanceMethod yX4_fail, Cond.selects RX4 yX4_fail yX4_fail, Cond.code yX4_fail cX4_fail 2 (some .int), Cond.methodLink RX4 92 yX4_counted, Cond.instanceMethod yX4_counted, Cond.selects RX4 yX4_counted yX4_counted, Cond.code yX4_counted cX4_counted 7 (some .int), Cond.fieldLink RX4 25 "KnotRugsModel" "numbers" "[I", Cond.fieldLink RX4 22 "KnotRugsModel" "baskets" "[I", Cond.methodLink RX4 40 yX4_pe, Cond.instanceMethod yX4_pe, Cond.selects RX4 yX4_pe yX4_pe, Cond.code yX4_pe cX4_pe 3 (some .int), Cond.fieldLink RX4 7 "KnotRugsModel" "people" "[I", Cond.methodLink RX4 86 yX4_differ, Cond.instanceMethod yX4_differ, Cond.selects RX4 yX4_differ yX4_differ, Cond.code yX4_differ cX4_differ 4 (some .int)]
def wsX4_pass_r2 : List Cond := [Cond.fieldLink RX4 13 "KnotRugsModel" "knots" "[I", Cond.fieldLink RX4 16 "KnotRugsModel" "plan" "[I", Cond.methodLink RX4 82 yX4_doneRows, Cond.instanceMethod yX4_doneRows, Cond.selects RX4 yX4_doneRows yX4_doneRows, Cond.code yX4_doneRows cX4_doneRows 1 (some .int), Cond.methodLink RX4 55 Lib.Math.min.name, Cond.static Lib.Math.min.name, Cond.initialized "java/lang/Math", Cond.code Lib.Math.min.name Lib.Math.min.code 2 (some .int), Cond.methodLink RX4 89 yX4_torn, Cond.instanceMethod yX4_torn, Cond.selects RX4 yX4_torn yX4_torn, Cond.code yX4_torn cX4_torn 4 (some .int), Cond.methodLink RX4 73 yX4_colour, Cond.instanceMethod yX4_colour, Cond.selects RX4 yX4_colour yX4_colour, Cond.code yX4_colour cX4_colour 4 (some .int), Cond.methodLink RX4 36 yX4_at, Cond.static yX4_at, Cond.code yX4_at cX4_at 2 (some .int), Cond.methodLink RX4 114 yX4_hoursOn, Cond.instanceMethod yX4_hoursOn, Cond.selects RX4 yX4_hoursOn yX4_hoursOn]
def wsX4_pass_r3 : List Cond := [Cond.code yX4_hoursOn cX4_hoursOn 5 none, Cond.methodLink RX4 108 yX4_isDone, Cond.instanceMethod yX4_isDone, Cond.selects RX4 yX4_isDone yX4_isDone, Cond.code yX4_isDone cX4_isDone 2 (some .boolean), Cond.methodLink RX4 111 yX4_knot, Cond.instanceMethod yX4_knot, Cond.selects RX4 yX4_knot yX4_knot, Cond.code yX4_knot cX4_knot 5 (some .boolean), Cond.fieldLink RX4 19 "KnotRugsModel" "runs" "[I", Cond.methodLink RX4 67 yX4_runAt, Cond.instanceMethod yX4_runAt, Cond.selects RX4 yX4_runAt yX4_runAt, Cond.code yX4_runAt cX4_runAt 3 (some .int), Cond.methodLink RX4 63 yX4_put, Cond.instanceMethod yX4_put, Cond.selects RX4 yX4_put yX4_put, Cond.code yX4_put cX4_put 4 none, Cond.methodLink RX4 104 yX4_dropRun, Cond.instanceMethod yX4_dropRun, Cond.selects RX4 yX4_dropRun yX4_dropRun, Cond.code yX4_dropRun cX4_dropRun 2 none, Cond.methodLink RX4 98 arraycopyName, Cond.native arraycopyName]
def wsX4_pass_r4 : List Cond := [Cond.static arraycopyName, Cond.initialized "java/lang/System"]
def wsX4_pass : List Cond := .code yX4_pass cX4_pass 3 (some .int) :: ((wsX4_pass_r1 ++ (wsX4_pass_r2 ++ (wsX4_pass_r3 ++ wsX4_pass_r4))) ++ wsX40)
def wsX4_kept : List Cond := .code yX4_kept cX4_kept 1 (some (.array (.array .int))) :: ([.classLink RX4 117 "[I", .fieldLink RX4 7 "KnotRugsModel" "people" "[I", .methodLink RX4 118 ⟨"[I", "clone", "()Ljava/lang/Object;"⟩, .sameMethod "[I" "java/lang/Object" "clone" "()Ljava/lang/Object;", .native ⟨"java/lang/Object", "clone", "()Ljava/lang/Object;"⟩, .instanceMethod ⟨"java/lang/Object", "clone", "()Ljava/lang/Object;"⟩, .selects "[I" ⟨"[I", "clone", "()Ljava/lang/Object;"⟩ ⟨"java/lang/Object", "clone", "()Ljava/lang/Object;"⟩, .fieldLink RX4 13 "KnotRugsModel" "knots" "[I", .fieldLink RX4 19 "KnotRugsModel" "runs" "[I", .fieldLink RX4 22 "KnotRugsModel" "baskets" "[I", .fieldLink RX4 25 "KnotRugsModel" "numbers" "[I"] ++ wsX40)
def wsX4_bringBack : List Cond := .code yX4_bringBack cX4_bringBack 4 none :: ([.classLink RX4 117 "[I", .fieldLink RX4 7 "KnotRugsModel" "people" "[I", .fieldLink RX4 13 "KnotRugsModel" "knots" "[I", .fieldLink RX4 19 "KnotRugsModel" "runs" "[I", .fieldLink RX4 22 "KnotRugsModel" "baskets" "[I", .fieldLink RX4 25 "KnotRugsModel" "numbers" "[I", .methodLink RX4 98 arraycopyName, .native arraycopyName, .static arraycopyName, .initialized "java/lang/System"] ++ wsX40)
def wsX4_done_r1 : List Cond := [Cond.fieldLink RX4 28 "KnotRugsModel" "thrown" "I", Cond.methodLink RX4 60 yX4_isWeaver, Cond.static yX4_isWeaver, Cond.initialized RX4, Cond.code yX4_isWeaver cX4_isWeaver 1 (some .boolean), Cond.methodLink RX4 32 yX4_isIn, Cond.static yX4_isIn, Cond.code yX4_isIn cX4_isIn 3 (some .boolean), Cond.methodLink RX4 47 yX4_fail, Cond.instanceMethod yX4_fail, Cond.selects RX4 yX4_fail yX4_fail, Cond.code yX4_fail cX4_fail 2 (some .int), Cond.methodLink RX4 122 yX4_kept, Cond.instanceMethod yX4_kept, Cond.selects RX4 yX4_kept yX4_kept, Cond.code yX4_kept cX4_kept 1 (some (.array (.array .int))), Cond.classLink RX4 117 "[I", Cond.fieldLink RX4 7 "KnotRugsModel" "people" "[I", Cond.methodLink RX4 118 ⟨"[I", "clone", "()Ljava/lang/Object;"⟩, Cond.sameMethod "[I" "java/lang/Object" "clone" "()Ljava/lang/Object;", Cond.native ⟨"java/lang/Object", "clone", "()Ljava/lang/Object;"⟩, Cond.instanceMethod ⟨"java/lang/Object", "clone", "()Ljava/lang/Object;"⟩, Cond.selects "[I" ⟨"[I", "clone", "()Ljava/lang/Object;"⟩ ⟨"java/lang/Object", "clone", "()Ljava/lang/Object;"⟩, Cond.fieldLink RX4 13 "KnotRugsModel" "knots" "[I"]
def wsX4_done_r2 : List Cond := [Cond.fieldLink RX4 19 "KnotRugsModel" "runs" "[I", Cond.fieldLink RX4 22 "KnotRugsModel" "baskets" "[I", Cond.fieldLink RX4 25 "KnotRugsModel" "numbers" "[I", Cond.methodLink RX4 108 yX4_isDone, Cond.instanceMethod yX4_isDone, Cond.selects RX4 yX4_isDone yX4_isDone, Cond.code yX4_isDone cX4_isDone 2 (some .boolean), Cond.methodLink RX4 40 yX4_pe, Cond.instanceMethod yX4_pe, Cond.selects RX4 yX4_pe yX4_pe, Cond.code yX4_pe cX4_pe 3 (some .int), Cond.methodLink RX4 114 yX4_hoursOn, Cond.instanceMethod yX4_hoursOn, Cond.selects RX4 yX4_hoursOn yX4_hoursOn, Cond.code yX4_hoursOn cX4_hoursOn 5 none, Cond.methodLink RX4 111 yX4_knot, Cond.instanceMethod yX4_knot, Cond.selects RX4 yX4_knot yX4_knot, Cond.code yX4_knot cX4_knot 5 (some .boolean), Cond.methodLink RX4 67 yX4_runAt, Cond.instanceMethod yX4_runAt, Cond.selects RX4 yX4_runAt yX4_runAt, Cond.code yX4_runAt cX4_runAt 3 (some .int), Cond.methodLink RX4 63 yX4_put]
def wsX4_done_r3 : List Cond := [Cond.instanceMethod yX4_put, Cond.selects RX4 yX4_put yX4_put, Cond.code yX4_put cX4_put 4 none, Cond.methodLink RX4 104 yX4_dropRun, Cond.instanceMethod yX4_dropRun, Cond.selects RX4 yX4_dropRun yX4_dropRun, Cond.code yX4_dropRun cX4_dropRun 2 none, Cond.methodLink RX4 98 arraycopyName, Cond.native arraycopyName, Cond.static arraycopyName, Cond.initialized "java/lang/System", Cond.methodLink RX4 126 yX4_bringBack, Cond.instanceMethod yX4_bringBack, Cond.selects RX4 yX4_bringBack yX4_bringBack, Cond.code yX4_bringBack cX4_bringBack 4 none]
def wsX4_done : List Cond := .code yX4_done cX4_done 4 (some .int) :: ((wsX4_done_r1 ++ (wsX4_done_r2 ++ wsX4_done_r3)) ++ wsX40)
def wsX4_foresee_r1 : List Cond := [Cond.fieldLink RX4 28 "KnotRugsModel" "thrown" "I", Cond.methodLink RX4 32 yX4_isIn, Cond.static yX4_isIn, Cond.initialized RX4, Cond.code yX4_isIn cX4_isIn 3 (some .boolean), Cond.methodLink RX4 47 yX4_fail, Cond.instanceMethod yX4_fail, Cond.selects RX4 yX4_fail yX4_fail, Cond.code yX4_fail cX4_fail 2 (some .int), Cond.methodLink RX4 122 yX4_kept, Cond.instanceMethod yX4_kept, Cond.selects RX4 yX4_kept yX4_kept, Cond.code yX4_kept cX4_kept 1 (some (.array (.array .int))), Cond.classLink RX4 117 "[I", Cond.fieldLink RX4 7 "KnotRugsModel" "people" "[I", Cond.methodLink RX4 118 ⟨"[I", "clone", "()Ljava/lang/Object;"⟩, Cond.sameMethod "[I" "java/lang/Object" "clone" "()Ljava/lang/Object;", Cond.native ⟨"java/lang/Object", "clone", "()Ljava/lang/Object;"⟩, Cond.instanceMethod ⟨"java/lang/Object", "clone", "()Ljava/lang/Object;"⟩, Cond.selects "[I" ⟨"[I", "clone", "()Ljava/lang/Object;"⟩ ⟨"java/lang/Object", "clone", "()Ljava/lang/Object;"⟩, Cond.fieldLink RX4 13 "KnotRugsModel" "knots" "[I", Cond.fieldLink RX4 19 "KnotRugsModel" "runs" "[I", Cond.fieldLink RX4 22 "KnotRugsModel" "baskets" "[I", Cond.fieldLink RX4 25 "KnotRugsModel" "numbers" "[I"]
def wsX4_foresee_r2 : List Cond := [Cond.methodLink RX4 114 yX4_hoursOn, Cond.instanceMethod yX4_hoursOn, Cond.selects RX4 yX4_hoursOn yX4_hoursOn, Cond.code yX4_hoursOn cX4_hoursOn 5 none, Cond.methodLink RX4 40 yX4_pe, Cond.instanceMethod yX4_pe, Cond.selects RX4 yX4_pe yX4_pe, Cond.code yX4_pe cX4_pe 3 (some .int), Cond.methodLink RX4 108 yX4_isDone, Cond.instanceMethod yX4_isDone, Cond.selects RX4 yX4_isDone yX4_isDone, Cond.code yX4_isDone cX4_isDone 2 (some .boolean), Cond.methodLink RX4 111 yX4_knot, Cond.instanceMethod yX4_knot, Cond.selects RX4 yX4_knot yX4_knot, Cond.code yX4_knot cX4_knot 5 (some .boolean), Cond.methodLink RX4 67 yX4_runAt, Cond.instanceMethod yX4_runAt, Cond.selects RX4 yX4_runAt yX4_runAt, Cond.code yX4_runAt cX4_runAt 3 (some .int), Cond.methodLink RX4 63 yX4_put, Cond.instanceMethod yX4_put, Cond.selects RX4 yX4_put yX4_put, Cond.code yX4_put cX4_put 4 none]
def wsX4_foresee_r3 : List Cond := [Cond.methodLink RX4 104 yX4_dropRun, Cond.instanceMethod yX4_dropRun, Cond.selects RX4 yX4_dropRun yX4_dropRun, Cond.code yX4_dropRun cX4_dropRun 2 none, Cond.methodLink RX4 98 arraycopyName, Cond.native arraycopyName, Cond.static arraycopyName, Cond.initialized "java/lang/System", Cond.methodLink RX4 92 yX4_counted, Cond.instanceMethod yX4_counted, Cond.selects RX4 yX4_counted yX4_counted, Cond.code yX4_counted cX4_counted 7 (some .int), Cond.methodLink RX4 86 yX4_differ, Cond.instanceMethod yX4_differ, Cond.selects RX4 yX4_differ yX4_differ, Cond.code yX4_differ cX4_differ 4 (some .int), Cond.fieldLink RX4 16 "KnotRugsModel" "plan" "[I", Cond.methodLink RX4 82 yX4_doneRows, Cond.instanceMethod yX4_doneRows, Cond.selects RX4 yX4_doneRows yX4_doneRows, Cond.code yX4_doneRows cX4_doneRows 1 (some .int), Cond.methodLink RX4 55 Lib.Math.min.name, Cond.static Lib.Math.min.name, Cond.initialized "java/lang/Math"]
def wsX4_foresee_r4 : List Cond := [Cond.code Lib.Math.min.name Lib.Math.min.code 2 (some .int), Cond.methodLink RX4 89 yX4_torn, Cond.instanceMethod yX4_torn, Cond.selects RX4 yX4_torn yX4_torn, Cond.code yX4_torn cX4_torn 4 (some .int), Cond.methodLink RX4 73 yX4_colour, Cond.instanceMethod yX4_colour, Cond.selects RX4 yX4_colour yX4_colour, Cond.code yX4_colour cX4_colour 4 (some .int), Cond.methodLink RX4 36 yX4_at, Cond.static yX4_at, Cond.code yX4_at cX4_at 2 (some .int), Cond.methodLink RX4 126 yX4_bringBack, Cond.instanceMethod yX4_bringBack, Cond.selects RX4 yX4_bringBack yX4_bringBack, Cond.code yX4_bringBack cX4_bringBack 4 none]
def wsX4_foresee : List Cond := .code yX4_foresee cX4_foresee 5 (some .int) :: ((wsX4_foresee_r1 ++ (wsX4_foresee_r2 ++ (wsX4_foresee_r3 ++ wsX4_foresee_r4))) ++ wsX40)
def wsX4_share_r1 : List Cond := [Cond.fieldLink RX4 28 "KnotRugsModel" "thrown" "I", Cond.methodLink RX4 92 yX4_counted, Cond.instanceMethod yX4_counted, Cond.selects RX4 yX4_counted yX4_counted, Cond.initialized RX4, Cond.code yX4_counted cX4_counted 7 (some .int), Cond.fieldLink RX4 25 "KnotRugsModel" "numbers" "[I", Cond.fieldLink RX4 22 "KnotRugsModel" "baskets" "[I", Cond.methodLink RX4 40 yX4_pe, Cond.instanceMethod yX4_pe, Cond.selects RX4 yX4_pe yX4_pe, Cond.code yX4_pe cX4_pe 3 (some .int), Cond.fieldLink RX4 7 "KnotRugsModel" "people" "[I", Cond.methodLink RX4 86 yX4_differ, Cond.instanceMethod yX4_differ, Cond.selects RX4 yX4_differ yX4_differ, Cond.code yX4_differ cX4_differ 4 (some .int), Cond.fieldLink RX4 13 "KnotRugsModel" "knots" "[I", Cond.fieldLink RX4 16 "KnotRugsModel" "plan" "[I", Cond.methodLink RX4 82 yX4_doneRows, Cond.instanceMethod yX4_doneRows, Cond.selects RX4 yX4_doneRows yX4_doneRows, Cond.code yX4_doneRows cX4_doneRows 1 (some .int), Cond.methodLink RX4 55 Lib.Math.min.name]
def wsX4_share_r2 : List Cond := [Cond.static Lib.Math.min.name, Cond.initialized "java/lang/Math", Cond.code Lib.Math.min.name Lib.Math.min.code 2 (some .int), Cond.methodLink RX4 89 yX4_torn, Cond.instanceMethod yX4_torn, Cond.selects RX4 yX4_torn yX4_torn, Cond.code yX4_torn cX4_torn 4 (some .int), Cond.methodLink RX4 73 yX4_colour, Cond.instanceMethod yX4_colour, Cond.selects RX4 yX4_colour yX4_colour, Cond.code yX4_colour cX4_colour 4 (some .int), Cond.methodLink RX4 36 yX4_at, Cond.static yX4_at, Cond.code yX4_at cX4_at 2 (some .int)]
def wsX4_share : List Cond := .code yX4_share cX4_share 2 (some .double) :: ((wsX4_share_r1 ++ wsX4_share_r2) ++ wsX40)
def wsX4_digest_r1 : List Cond := [Cond.fieldLink RX4 28 "KnotRugsModel" "thrown" "I", Cond.constantLong RX4 130 (983), Cond.constantLong RX4 132 (31), Cond.fieldLink RX4 16 "KnotRugsModel" "plan" "[I", Cond.fieldLink RX4 19 "KnotRugsModel" "runs" "[I", Cond.fieldLink RX4 22 "KnotRugsModel" "baskets" "[I", Cond.methodLink RX4 92 yX4_counted, Cond.instanceMethod yX4_counted, Cond.selects RX4 yX4_counted yX4_counted, Cond.initialized RX4, Cond.code yX4_counted cX4_counted 7 (some .int), Cond.fieldLink RX4 25 "KnotRugsModel" "numbers" "[I", Cond.methodLink RX4 40 yX4_pe, Cond.instanceMethod yX4_pe, Cond.selects RX4 yX4_pe yX4_pe, Cond.code yX4_pe cX4_pe 3 (some .int), Cond.fieldLink RX4 7 "KnotRugsModel" "people" "[I", Cond.methodLink RX4 86 yX4_differ, Cond.instanceMethod yX4_differ, Cond.selects RX4 yX4_differ yX4_differ, Cond.code yX4_differ cX4_differ 4 (some .int), Cond.fieldLink RX4 13 "KnotRugsModel" "knots" "[I", Cond.methodLink RX4 82 yX4_doneRows, Cond.instanceMethod yX4_doneRows]
def wsX4_digest_r2 : List Cond := [Cond.selects RX4 yX4_doneRows yX4_doneRows, Cond.code yX4_doneRows cX4_doneRows 1 (some .int), Cond.methodLink RX4 55 Lib.Math.min.name, Cond.static Lib.Math.min.name, Cond.initialized "java/lang/Math", Cond.code Lib.Math.min.name Lib.Math.min.code 2 (some .int), Cond.methodLink RX4 89 yX4_torn, Cond.instanceMethod yX4_torn, Cond.selects RX4 yX4_torn yX4_torn, Cond.code yX4_torn cX4_torn 4 (some .int), Cond.methodLink RX4 73 yX4_colour, Cond.instanceMethod yX4_colour, Cond.selects RX4 yX4_colour yX4_colour, Cond.code yX4_colour cX4_colour 4 (some .int), Cond.methodLink RX4 36 yX4_at, Cond.static yX4_at, Cond.code yX4_at cX4_at 2 (some .int), Cond.methodLink RX4 79 yX4_weaverTold, Cond.instanceMethod yX4_weaverTold, Cond.selects RX4 yX4_weaverTold yX4_weaverTold, Cond.code yX4_weaverTold cX4_weaverTold 4 (some .int), Cond.methodLink RX4 70 yX4_told, Cond.instanceMethod yX4_told, Cond.selects RX4 yX4_told yX4_told]
def wsX4_digest_r3 : List Cond := [Cond.code yX4_told cX4_told 4 (some .int), Cond.methodLink RX4 67 yX4_runAt, Cond.instanceMethod yX4_runAt, Cond.selects RX4 yX4_runAt yX4_runAt, Cond.code yX4_runAt cX4_runAt 3 (some .int), Cond.methodLink RX4 76 yX4_xOf, Cond.static yX4_xOf, Cond.code yX4_xOf cX4_xOf 2 (some .int)]
def wsX4_digest : List Cond := .code yX4_digest cX4_digest 7 (some .long) :: ((wsX4_digest_r1 ++ (wsX4_digest_r2 ++ wsX4_digest_r3)) ++ wsX40)
def wsJ9_min_7cf53 : List Cond := .code yJ9_min_7cf53 cJ9_min_7cf53 2 (some .int) :: ([])
def wsL_plan_r1 : List Cond := [Cond.classLink RL 13 "java/lang/IndexOutOfBoundsException", Cond.classLink RL 15 "java/lang/IllegalArgumentException", Cond.methodLink RL 7 yX3_plan, Cond.instanceMethod yX3_plan, Cond.selects RX3 yX3_plan yX3_plan, Cond.initialized RX3, Cond.code yX3_plan cX3_plan 9 (some .int), Cond.fieldLink RX3 10 "KnotRugs" "rug" "LKnotRugs$Rug;", Cond.methodLink RX3 19 yX3_checkCell, Cond.static yX3_checkCell, Cond.code yX3_checkCell cX3_checkCell 2 none, Cond.methodLink RX3 93 yX3_checkIndex, Cond.static yX3_checkIndex, Cond.code yX3_checkIndex cX3_checkIndex 2 none, Cond.classLink RX3 172 "java/lang/IndexOutOfBoundsException", Cond.initialized "java/lang/IndexOutOfBoundsException", Cond.methodLink RX3 23 yX3_checkRange, Cond.static yX3_checkRange, Cond.code yX3_checkRange cX3_checkRange 3 none, Cond.classLink RX3 177 "java/lang/IllegalArgumentException", Cond.initialized "java/lang/IllegalArgumentException", Cond.methodLink RX3 27 yX3_checkColour, Cond.static yX3_checkColour, Cond.code yX3_checkColour cX3_checkColour 1 none]
def wsL_plan_r2 : List Cond := [Cond.methodLink RX3 31 yX1_ownerOf, Cond.instanceMethod yX1_ownerOf, Cond.selects RX1 yX1_ownerOf yX1_ownerOf, Cond.initialized RX1, Cond.code yX1_ownerOf cX1_ownerOf 2 (some (.object "KnotRugs$Weaver")), Cond.static yX3_sideOf, Cond.code yX3_sideOf cX3_sideOf 1 (some .int), Cond.methodLink RX1 41 yX1_weaverAt, Cond.instanceMethod yX1_weaverAt, Cond.selects RX1 yX1_weaverAt yX1_weaverAt, Cond.code yX1_weaverAt cX1_weaverAt 2 (some (.object "KnotRugs$Weaver")), Cond.fieldLink RX1 14 "KnotRugs$Rug" "leftWeaver" "LKnotRugs$Weaver;", Cond.fieldLink RX1 20 "KnotRugs$Rug" "rightWeaver" "LKnotRugs$Weaver;", Cond.methodLink RX3 35 yX3_placeOf, Cond.static yX3_placeOf, Cond.code yX3_placeOf cX3_placeOf 2 (some .int), Cond.methodLink RX3 39 yX2_planCell, Cond.instanceMethod yX2_planCell, Cond.selects RX2 yX2_planCell yX2_planCell, Cond.initialized RX2, Cond.code yX2_planCell cX2_planCell 4 (some .boolean), Cond.fieldLink RX2 9 "KnotRugs$Weaver" "planned" "[I", Cond.static yX3_at, Cond.code yX3_at cX3_at 2 (some .int)]
def wsL_plan_r3 : List Cond := [Cond.static yX3_put, Cond.code yX3_put cX3_put 3 none]
def wsL_plan : List Cond := .codeWith yL_plan cL_plan 8 (some .int) [(0, 16, 19, 13), (0, 16, 23, 15)] :: ((wsL_plan_r1 ++ (wsL_plan_r2 ++ wsL_plan_r3)) ++ wsX30 ++ wsX10 ++ wsX20 ++ (vx_atS RX3 176 "java/lang/IndexOutOfBoundsException" ["java/lang/RuntimeException", "java/lang/Exception"]).filter goodWord ++ (vx_atS RX3 181 "java/lang/IllegalArgumentException" ["java/lang/RuntimeException", "java/lang/Exception"]).filter goodWord)
def wsL_bring_r1 : List Cond := [Cond.classLink RL 15 "java/lang/IllegalArgumentException", Cond.methodLink RL 17 yX3_bring, Cond.instanceMethod yX3_bring, Cond.selects RX3 yX3_bring yX3_bring, Cond.initialized RX3, Cond.code yX3_bring cX3_bring 3 (some .int), Cond.fieldLink RX3 10 "KnotRugs" "rug" "LKnotRugs$Rug;", Cond.methodLink RX3 27 yX3_checkColour, Cond.static yX3_checkColour, Cond.code yX3_checkColour cX3_checkColour 1 none, Cond.methodLink RX3 23 yX3_checkRange, Cond.static yX3_checkRange, Cond.code yX3_checkRange cX3_checkRange 3 none, Cond.classLink RX3 177 "java/lang/IllegalArgumentException", Cond.initialized "java/lang/IllegalArgumentException", Cond.methodLink RX3 49 yX0_fill, Cond.instanceMethod yX0_fill, Cond.selects RX0 yX0_fill yX0_fill, Cond.initialized RX0, Cond.code yX0_fill cX0_fill 4 (some .int), Cond.fieldLink RX0 9 "KnotRugs$Baskets" "left" "[I", Cond.methodLink RX0 19 Lib.Math.min.name, Cond.static Lib.Math.min.name, Cond.initialized "java/lang/Math"]
def wsL_bring_r2 : List Cond := [Cond.code Lib.Math.min.name Lib.Math.min.code 2 (some .int), Cond.static yX3_at, Cond.code yX3_at cX3_at 2 (some .int), Cond.static yX3_put, Cond.code yX3_put cX3_put 3 none]
def wsL_bring : List Cond := .codeWith yL_bring cL_bring 5 (some .int) [(0, 10, 13, 15)] :: ((wsL_bring_r1 ++ wsL_bring_r2) ++ wsX30 ++ wsX10 ++ wsX00 ++ (vx_atS RX3 181 "java/lang/IllegalArgumentException" ["java/lang/RuntimeException", "java/lang/Exception"]).filter goodWord)
def wsL_setSpeed_r1 : List Cond := [Cond.classLink RL 13 "java/lang/IndexOutOfBoundsException", Cond.classLink RL 15 "java/lang/IllegalArgumentException", Cond.methodLink RL 21 yX3_setSpeed, Cond.instanceMethod yX3_setSpeed, Cond.selects RX3 yX3_setSpeed yX3_setSpeed, Cond.initialized RX3, Cond.code yX3_setSpeed cX3_setSpeed 5 (some .int), Cond.fieldLink RX3 10 "KnotRugs" "rug" "LKnotRugs$Rug;", Cond.methodLink RX3 54 yX3_checkWeaver, Cond.static yX3_checkWeaver, Cond.code yX3_checkWeaver cX3_checkWeaver 1 none, Cond.methodLink RX3 93 yX3_checkIndex, Cond.static yX3_checkIndex, Cond.code yX3_checkIndex cX3_checkIndex 2 none, Cond.classLink RX3 172 "java/lang/IndexOutOfBoundsException", Cond.initialized "java/lang/IndexOutOfBoundsException", Cond.methodLink RX3 23 yX3_checkRange, Cond.static yX3_checkRange, Cond.code yX3_checkRange cX3_checkRange 3 none, Cond.classLink RX3 177 "java/lang/IllegalArgumentException", Cond.initialized "java/lang/IllegalArgumentException", Cond.methodLink RX3 57 yX1_weaverAt, Cond.instanceMethod yX1_weaverAt, Cond.selects RX1 yX1_weaverAt yX1_weaverAt]
def wsL_setSpeed_r2 : List Cond := [Cond.initialized RX1, Cond.code yX1_weaverAt cX1_weaverAt 2 (some (.object "KnotRugs$Weaver")), Cond.fieldLink RX1 14 "KnotRugs$Rug" "leftWeaver" "LKnotRugs$Weaver;", Cond.fieldLink RX1 20 "KnotRugs$Rug" "rightWeaver" "LKnotRugs$Weaver;"]
def wsL_setSpeed : List Cond := .codeWith yL_setSpeed cL_setSpeed 5 (some .int) [(0, 10, 13, 13), (0, 10, 17, 15)] :: ((wsL_setSpeed_r1 ++ wsL_setSpeed_r2) ++ wsX30 ++ wsX20 ++ wsX10 ++ (vx_atS RX3 176 "java/lang/IndexOutOfBoundsException" ["java/lang/RuntimeException", "java/lang/Exception"]).filter goodWord ++ (vx_atS RX3 181 "java/lang/IllegalArgumentException" ["java/lang/RuntimeException", "java/lang/Exception"]).filter goodWord)
def wsL_tell_r1 : List Cond := [Cond.classLink RL 13 "java/lang/IndexOutOfBoundsException", Cond.classLink RL 15 "java/lang/IllegalArgumentException", Cond.classLink RL 28 "java/lang/IllegalStateException", Cond.methodLink RL 24 yX3_tell, Cond.instanceMethod yX3_tell, Cond.selects RX3 yX3_tell yX3_tell, Cond.initialized RX3, Cond.code yX3_tell cX3_tell 5 (some .int), Cond.classLink RX3 67 "java/lang/IllegalStateException", Cond.initialized "java/lang/IllegalStateException", Cond.fieldLink RX3 10 "KnotRugs" "rug" "LKnotRugs$Rug;", Cond.methodLink RX3 54 yX3_checkWeaver, Cond.static yX3_checkWeaver, Cond.code yX3_checkWeaver cX3_checkWeaver 1 none, Cond.methodLink RX3 93 yX3_checkIndex, Cond.static yX3_checkIndex, Cond.code yX3_checkIndex cX3_checkIndex 2 none, Cond.classLink RX3 172 "java/lang/IndexOutOfBoundsException", Cond.initialized "java/lang/IndexOutOfBoundsException", Cond.methodLink RX3 27 yX3_checkColour, Cond.static yX3_checkColour, Cond.code yX3_checkColour cX3_checkColour 1 none, Cond.methodLink RX3 23 yX3_checkRange, Cond.static yX3_checkRange]
def wsL_tell_r2 : List Cond := [Cond.code yX3_checkRange cX3_checkRange 3 none, Cond.classLink RX3 177 "java/lang/IllegalArgumentException", Cond.initialized "java/lang/IllegalArgumentException", Cond.methodLink RX3 57 yX1_weaverAt, Cond.instanceMethod yX1_weaverAt, Cond.selects RX1 yX1_weaverAt yX1_weaverAt, Cond.initialized RX1, Cond.code yX1_weaverAt cX1_weaverAt 2 (some (.object "KnotRugs$Weaver")), Cond.fieldLink RX1 14 "KnotRugs$Rug" "leftWeaver" "LKnotRugs$Weaver;", Cond.fieldLink RX1 20 "KnotRugs$Rug" "rightWeaver" "LKnotRugs$Weaver;", Cond.methodLink RX3 74 yX2_addRun, Cond.instanceMethod yX2_addRun, Cond.selects RX2 yX2_addRun yX2_addRun, Cond.initialized RX2, Cond.code yX2_addRun cX2_addRun 3 none, Cond.fieldLink RX2 18 "KnotRugs$Weaver" "toldColours" "[I", Cond.fieldLink RX2 28 "KnotRugs$Weaver" "told" "I", Cond.fieldLink RX2 21 "KnotRugs$Weaver" "toldKnots" "[I", Cond.static yX3_put, Cond.code yX3_put cX3_put 3 none]
def wsL_tell : List Cond := .codeWith yL_tell cL_tell 6 (some .int) [(0, 12, 15, 13), (0, 12, 19, 15), (0, 12, 23, 28)] :: ((wsL_tell_r1 ++ wsL_tell_r2) ++ wsX30 ++ wsX20 ++ wsX10 ++ (vx_atS RX3 71 "java/lang/IllegalStateException" ["java/lang/RuntimeException", "java/lang/Exception"]).filter goodWord ++ (vx_atS RX3 176 "java/lang/IndexOutOfBoundsException" ["java/lang/RuntimeException", "java/lang/Exception"]).filter goodWord ++ (vx_atS RX3 181 "java/lang/IllegalArgumentException" ["java/lang/RuntimeException", "java/lang/Exception"]).filter goodWord)
def wsL_hush_r1 : List Cond := [Cond.classLink RL 13 "java/lang/IndexOutOfBoundsException", Cond.methodLink RL 30 yX3_hush, Cond.instanceMethod yX3_hush, Cond.selects RX3 yX3_hush yX3_hush, Cond.initialized RX3, Cond.code yX3_hush cX3_hush 4 (some .int), Cond.fieldLink RX3 10 "KnotRugs" "rug" "LKnotRugs$Rug;", Cond.methodLink RX3 54 yX3_checkWeaver, Cond.static yX3_checkWeaver, Cond.code yX3_checkWeaver cX3_checkWeaver 1 none, Cond.methodLink RX3 93 yX3_checkIndex, Cond.static yX3_checkIndex, Cond.code yX3_checkIndex cX3_checkIndex 2 none, Cond.classLink RX3 172 "java/lang/IndexOutOfBoundsException", Cond.initialized "java/lang/IndexOutOfBoundsException", Cond.methodLink RX3 57 yX1_weaverAt, Cond.instanceMethod yX1_weaverAt, Cond.selects RX1 yX1_weaverAt yX1_weaverAt, Cond.initialized RX1, Cond.code yX1_weaverAt cX1_weaverAt 2 (some (.object "KnotRugs$Weaver")), Cond.fieldLink RX1 14 "KnotRugs$Rug" "leftWeaver" "LKnotRugs$Weaver;", Cond.fieldLink RX1 20 "KnotRugs$Rug" "rightWeaver" "LKnotRugs$Weaver;", Cond.methodLink RX3 77 yX2_toldInAll, Cond.instanceMethod yX2_toldInAll]
def wsL_hush_r2 : List Cond := [Cond.selects RX2 yX2_toldInAll yX2_toldInAll, Cond.initialized RX2, Cond.code yX2_toldInAll cX2_toldInAll 3 (some .int), Cond.fieldLink RX2 28 "KnotRugs$Weaver" "told" "I", Cond.fieldLink RX2 21 "KnotRugs$Weaver" "toldKnots" "[I", Cond.static yX3_at, Cond.code yX3_at cX3_at 2 (some .int)]
def wsL_hush : List Cond := .codeWith yL_hush cL_hush 4 (some .int) [(0, 9, 12, 13)] :: ((wsL_hush_r1 ++ wsL_hush_r2) ++ wsX30 ++ wsX20 ++ wsX10 ++ (vx_atS RX3 176 "java/lang/IndexOutOfBoundsException" ["java/lang/RuntimeException", "java/lang/Exception"]).filter goodWord)
def wsL_unpick_r1 : List Cond := [Cond.classLink RL 13 "java/lang/IndexOutOfBoundsException", Cond.classLink RL 15 "java/lang/IllegalArgumentException", Cond.classLink RL 28 "java/lang/IllegalStateException", Cond.methodLink RL 34 yX3_unpick, Cond.instanceMethod yX3_unpick, Cond.selects RX3 yX3_unpick yX3_unpick, Cond.initialized RX3, Cond.code yX3_unpick cX3_unpick 4 (some .int), Cond.classLink RX3 67 "java/lang/IllegalStateException", Cond.initialized "java/lang/IllegalStateException", Cond.fieldLink RX3 10 "KnotRugs" "rug" "LKnotRugs$Rug;", Cond.methodLink RX3 54 yX3_checkWeaver, Cond.static yX3_checkWeaver, Cond.code yX3_checkWeaver cX3_checkWeaver 1 none, Cond.methodLink RX3 93 yX3_checkIndex, Cond.static yX3_checkIndex, Cond.code yX3_checkIndex cX3_checkIndex 2 none, Cond.classLink RX3 172 "java/lang/IndexOutOfBoundsException", Cond.initialized "java/lang/IndexOutOfBoundsException", Cond.methodLink RX3 23 yX3_checkRange, Cond.static yX3_checkRange, Cond.code yX3_checkRange cX3_checkRange 3 none, Cond.classLink RX3 177 "java/lang/IllegalArgumentException", Cond.initialized "java/lang/IllegalArgumentException"]
def wsL_unpick_r2 : List Cond := [Cond.methodLink RX3 57 yX1_weaverAt, Cond.instanceMethod yX1_weaverAt, Cond.selects RX1 yX1_weaverAt yX1_weaverAt, Cond.initialized RX1, Cond.code yX1_weaverAt cX1_weaverAt 2 (some (.object "KnotRugs$Weaver")), Cond.fieldLink RX1 14 "KnotRugs$Rug" "leftWeaver" "LKnotRugs$Weaver;", Cond.fieldLink RX1 20 "KnotRugs$Rug" "rightWeaver" "LKnotRugs$Weaver;", Cond.methodLink RX3 86 yX2_undo, Cond.instanceMethod yX2_undo, Cond.selects RX2 yX2_undo yX2_undo, Cond.initialized RX2, Cond.code yX2_undo cX2_undo 4 none, Cond.fieldLink RX2 31 "KnotRugs$Weaver" "made" "I", Cond.fieldLink RX2 15 "KnotRugs$Weaver" "knotted" "[I", Cond.static yX3_at, Cond.code yX3_at cX3_at 2 (some .int), Cond.methodLink RX2 72 yX0_fill, Cond.instanceMethod yX0_fill, Cond.selects RX0 yX0_fill yX0_fill, Cond.initialized RX0, Cond.code yX0_fill cX0_fill 4 (some .int), Cond.fieldLink RX0 9 "KnotRugs$Baskets" "left" "[I", Cond.methodLink RX0 19 Lib.Math.min.name, Cond.static Lib.Math.min.name]
def wsL_unpick_r3 : List Cond := [Cond.initialized "java/lang/Math", Cond.code Lib.Math.min.name Lib.Math.min.code 2 (some .int), Cond.static yX3_put, Cond.code yX3_put cX3_put 3 none]
def wsL_unpick : List Cond := .codeWith yL_unpick cL_unpick 5 (some .int) [(0, 10, 13, 13), (0, 10, 17, 15), (0, 10, 21, 28)] :: ((wsL_unpick_r1 ++ (wsL_unpick_r2 ++ wsL_unpick_r3)) ++ wsX30 ++ wsX20 ++ wsX10 ++ wsX00 ++ (vx_atS RX3 71 "java/lang/IllegalStateException" ["java/lang/RuntimeException", "java/lang/Exception"]).filter goodWord ++ (vx_atS RX3 176 "java/lang/IndexOutOfBoundsException" ["java/lang/RuntimeException", "java/lang/Exception"]).filter goodWord ++ (vx_atS RX3 181 "java/lang/IllegalArgumentException" ["java/lang/RuntimeException", "java/lang/Exception"]).filter goodWord)
def wsL_cell_r1 : List Cond := [Cond.classLink RL 13 "java/lang/IndexOutOfBoundsException", Cond.methodLink RL 37 yX3_cell, Cond.instanceMethod yX3_cell, Cond.selects RX3 yX3_cell yX3_cell, Cond.initialized RX3, Cond.code yX3_cell cX3_cell 4 (some .int), Cond.fieldLink RX3 10 "KnotRugs" "rug" "LKnotRugs$Rug;", Cond.methodLink RX3 19 yX3_checkCell, Cond.static yX3_checkCell, Cond.code yX3_checkCell cX3_checkCell 2 none, Cond.methodLink RX3 93 yX3_checkIndex, Cond.static yX3_checkIndex, Cond.code yX3_checkIndex cX3_checkIndex 2 none, Cond.classLink RX3 172 "java/lang/IndexOutOfBoundsException", Cond.initialized "java/lang/IndexOutOfBoundsException", Cond.methodLink RX3 96 yX1_knotAt, Cond.instanceMethod yX1_knotAt, Cond.selects RX1 yX1_knotAt yX1_knotAt, Cond.initialized RX1, Cond.code yX1_knotAt cX1_knotAt 3 (some .int), Cond.methodLink RX1 45 yX1_ownerOf, Cond.instanceMethod yX1_ownerOf, Cond.selects RX1 yX1_ownerOf yX1_ownerOf, Cond.code yX1_ownerOf cX1_ownerOf 2 (some (.object "KnotRugs$Weaver"))]
def wsL_cell_r2 : List Cond := [Cond.static yX3_sideOf, Cond.code yX3_sideOf cX3_sideOf 1 (some .int), Cond.methodLink RX1 41 yX1_weaverAt, Cond.instanceMethod yX1_weaverAt, Cond.selects RX1 yX1_weaverAt yX1_weaverAt, Cond.code yX1_weaverAt cX1_weaverAt 2 (some (.object "KnotRugs$Weaver")), Cond.fieldLink RX1 14 "KnotRugs$Rug" "leftWeaver" "LKnotRugs$Weaver;", Cond.fieldLink RX1 20 "KnotRugs$Rug" "rightWeaver" "LKnotRugs$Weaver;", Cond.static yX3_placeOf, Cond.code yX3_placeOf cX3_placeOf 2 (some .int), Cond.methodLink RX1 52 yX2_knotAtPlace, Cond.instanceMethod yX2_knotAtPlace, Cond.selects RX2 yX2_knotAtPlace yX2_knotAtPlace, Cond.initialized RX2, Cond.code yX2_knotAtPlace cX2_knotAtPlace 2 (some .int), Cond.fieldLink RX2 31 "KnotRugs$Weaver" "made" "I", Cond.fieldLink RX2 15 "KnotRugs$Weaver" "knotted" "[I", Cond.static yX3_at, Cond.code yX3_at cX3_at 2 (some .int), Cond.methodLink RX3 99 yX1_planAt, Cond.instanceMethod yX1_planAt, Cond.selects RX1 yX1_planAt yX1_planAt, Cond.code yX1_planAt cX1_planAt 3 (some .int)]
def wsL_cell : List Cond := .codeWith yL_cell cL_cell 6 (some .int) [(0, 12, 15, 13)] :: ((wsL_cell_r1 ++ wsL_cell_r2) ++ wsX30 ++ wsX10 ++ wsX20 ++ (vx_atS RX3 176 "java/lang/IndexOutOfBoundsException" ["java/lang/RuntimeException", "java/lang/Exception"]).filter goodWord)
def wsL_sees_r1 : List Cond := [Cond.classLink RL 13 "java/lang/IndexOutOfBoundsException", Cond.methodLink RL 40 yX3_sees, Cond.instanceMethod yX3_sees, Cond.selects RX3 yX3_sees yX3_sees, Cond.initialized RX3, Cond.code yX3_sees cX3_sees 6 (some .int), Cond.fieldLink RX3 10 "KnotRugs" "rug" "LKnotRugs$Rug;", Cond.methodLink RX3 54 yX3_checkWeaver, Cond.static yX3_checkWeaver, Cond.code yX3_checkWeaver cX3_checkWeaver 1 none, Cond.methodLink RX3 93 yX3_checkIndex, Cond.static yX3_checkIndex, Cond.code yX3_checkIndex cX3_checkIndex 2 none, Cond.classLink RX3 172 "java/lang/IndexOutOfBoundsException", Cond.initialized "java/lang/IndexOutOfBoundsException", Cond.methodLink RX3 19 yX3_checkCell, Cond.static yX3_checkCell, Cond.code yX3_checkCell cX3_checkCell 2 none, Cond.methodLink RX3 102 yX3_sideOf, Cond.static yX3_sideOf, Cond.code yX3_sideOf cX3_sideOf 1 (some .int), Cond.methodLink RX3 57 yX1_weaverAt, Cond.instanceMethod yX1_weaverAt, Cond.selects RX1 yX1_weaverAt yX1_weaverAt]
def wsL_sees_r2 : List Cond := [Cond.initialized RX1, Cond.code yX1_weaverAt cX1_weaverAt 2 (some (.object "KnotRugs$Weaver")), Cond.fieldLink RX1 14 "KnotRugs$Rug" "leftWeaver" "LKnotRugs$Weaver;", Cond.fieldLink RX1 20 "KnotRugs$Rug" "rightWeaver" "LKnotRugs$Weaver;", Cond.methodLink RX3 106 yX2_rowsDone, Cond.instanceMethod yX2_rowsDone, Cond.selects RX2 yX2_rowsDone yX2_rowsDone, Cond.initialized RX2, Cond.code yX2_rowsDone cX2_rowsDone 1 (some .int), Cond.fieldLink RX2 31 "KnotRugs$Weaver" "made" "I", Cond.methodLink RX3 96 yX1_knotAt, Cond.instanceMethod yX1_knotAt, Cond.selects RX1 yX1_knotAt yX1_knotAt, Cond.code yX1_knotAt cX1_knotAt 3 (some .int), Cond.methodLink RX1 45 yX1_ownerOf, Cond.instanceMethod yX1_ownerOf, Cond.selects RX1 yX1_ownerOf yX1_ownerOf, Cond.code yX1_ownerOf cX1_ownerOf 2 (some (.object "KnotRugs$Weaver")), Cond.methodLink RX1 41 yX1_weaverAt, Cond.static yX3_placeOf, Cond.code yX3_placeOf cX3_placeOf 2 (some .int), Cond.methodLink RX1 52 yX2_knotAtPlace, Cond.instanceMethod yX2_knotAtPlace, Cond.selects RX2 yX2_knotAtPlace yX2_knotAtPlace]
def wsL_sees_r3 : List Cond := [Cond.code yX2_knotAtPlace cX2_knotAtPlace 2 (some .int), Cond.fieldLink RX2 15 "KnotRugs$Weaver" "knotted" "[I", Cond.static yX3_at, Cond.code yX3_at cX3_at 2 (some .int)]
def wsL_sees : List Cond := .codeWith yL_sees cL_sees 6 (some .int) [(0, 12, 15, 13)] :: ((wsL_sees_r1 ++ (wsL_sees_r2 ++ wsL_sees_r3)) ++ wsX30 ++ wsX10 ++ wsX20 ++ (vx_atS RX3 176 "java/lang/IndexOutOfBoundsException" ["java/lang/RuntimeException", "java/lang/Exception"]).filter goodWord)
def wsL_weaver_r1 : List Cond := [Cond.classLink RL 13 "java/lang/IndexOutOfBoundsException", Cond.methodLink RL 43 yX3_weaver, Cond.instanceMethod yX3_weaver, Cond.selects RX3 yX3_weaver yX3_weaver, Cond.initialized RX3, Cond.code yX3_weaver cX3_weaver 3 (some .int), Cond.fieldLink RX3 10 "KnotRugs" "rug" "LKnotRugs$Rug;", Cond.methodLink RX3 54 yX3_checkWeaver, Cond.static yX3_checkWeaver, Cond.code yX3_checkWeaver cX3_checkWeaver 1 none, Cond.methodLink RX3 93 yX3_checkIndex, Cond.static yX3_checkIndex, Cond.code yX3_checkIndex cX3_checkIndex 2 none, Cond.classLink RX3 172 "java/lang/IndexOutOfBoundsException", Cond.initialized "java/lang/IndexOutOfBoundsException", Cond.methodLink RX3 57 yX1_weaverAt, Cond.instanceMethod yX1_weaverAt, Cond.selects RX1 yX1_weaverAt yX1_weaverAt, Cond.initialized RX1, Cond.code yX1_weaverAt cX1_weaverAt 2 (some (.object "KnotRugs$Weaver")), Cond.fieldLink RX1 14 "KnotRugs$Rug" "leftWeaver" "LKnotRugs$Weaver;", Cond.fieldLink RX1 20 "KnotRugs$Rug" "rightWeaver" "LKnotRugs$Weaver;", Cond.methodLink RX3 109 yX2_number, Cond.instanceMethod yX2_number]
def wsL_weaver_r2 : List Cond := [Cond.selects RX2 yX2_number yX2_number, Cond.initialized RX2, Cond.code yX2_number cX2_number 2 (some .int), Cond.fieldLink RX2 24 "KnotRugs$Weaver" "speed" "I", Cond.fieldLink RX2 28 "KnotRugs$Weaver" "told" "I", Cond.fieldLink RX2 31 "KnotRugs$Weaver" "made" "I", Cond.fieldLink RX2 34 "KnotRugs$Weaver" "inAnotherColour" "I", Cond.methodLink RX2 76 yX2_toldInAll, Cond.instanceMethod yX2_toldInAll, Cond.selects RX2 yX2_toldInAll yX2_toldInAll, Cond.code yX2_toldInAll cX2_toldInAll 3 (some .int), Cond.fieldLink RX2 21 "KnotRugs$Weaver" "toldKnots" "[I", Cond.static yX3_at, Cond.code yX3_at cX3_at 2 (some .int), Cond.methodLink RX2 80 yX2_nextX, Cond.instanceMethod yX2_nextX, Cond.selects RX2 yX2_nextX yX2_nextX, Cond.code yX2_nextX cX2_nextX 2 (some .int), Cond.fieldLink RX2 37 "KnotRugs$Weaver" "side" "I", Cond.methodLink RX2 52 yX2_isHalfDone, Cond.instanceMethod yX2_isHalfDone, Cond.selects RX2 yX2_isHalfDone yX2_isHalfDone, Cond.code yX2_isHalfDone cX2_isHalfDone 1 (some .boolean)]
def wsL_weaver : List Cond := .codeWith yL_weaver cL_weaver 5 (some .int) [(0, 10, 13, 13)] :: ((wsL_weaver_r1 ++ wsL_weaver_r2) ++ wsX30 ++ wsX10 ++ wsX20 ++ (vx_atS RX3 176 "java/lang/IndexOutOfBoundsException" ["java/lang/RuntimeException", "java/lang/Exception"]).filter goodWord)
def wsL_run_r1 : List Cond := [Cond.classLink RL 13 "java/lang/IndexOutOfBoundsException", Cond.methodLink RL 46 yX3_run, Cond.instanceMethod yX3_run, Cond.selects RX3 yX3_run yX3_run, Cond.initialized RX3, Cond.code yX3_run cX3_run 5 (some .int), Cond.fieldLink RX3 10 "KnotRugs" "rug" "LKnotRugs$Rug;", Cond.methodLink RX3 54 yX3_checkWeaver, Cond.static yX3_checkWeaver, Cond.code yX3_checkWeaver cX3_checkWeaver 1 none, Cond.methodLink RX3 93 yX3_checkIndex, Cond.static yX3_checkIndex, Cond.code yX3_checkIndex cX3_checkIndex 2 none, Cond.classLink RX3 172 "java/lang/IndexOutOfBoundsException", Cond.initialized "java/lang/IndexOutOfBoundsException", Cond.methodLink RX3 57 yX1_weaverAt, Cond.instanceMethod yX1_weaverAt, Cond.selects RX1 yX1_weaverAt yX1_weaverAt, Cond.initialized RX1, Cond.code yX1_weaverAt cX1_weaverAt 2 (some (.object "KnotRugs$Weaver")), Cond.fieldLink RX1 14 "KnotRugs$Rug" "leftWeaver" "LKnotRugs$Weaver;", Cond.fieldLink RX1 20 "KnotRugs$Rug" "rightWeaver" "LKnotRugs$Weaver;", Cond.methodLink RX3 116 yX3_at, Cond.static yX3_at]
def wsL_run_r2 : List Cond := [Cond.code yX3_at cX3_at 2 (some .int)]
def wsL_run : List Cond := .codeWith yL_run cL_run 6 (some .int) [(0, 12, 15, 13)] :: ((wsL_run_r1 ++ wsL_run_r2) ++ wsX30 ++ wsX20 ++ wsX10 ++ (vx_atS RX3 176 "java/lang/IndexOutOfBoundsException" ["java/lang/RuntimeException", "java/lang/Exception"]).filter goodWord)
def wsL_count_r1 : List Cond := [Cond.classLink RL 13 "java/lang/IndexOutOfBoundsException", Cond.methodLink RL 49 yX3_count, Cond.instanceMethod yX3_count, Cond.selects RX3 yX3_count yX3_count, Cond.initialized RX3, Cond.code yX3_count cX3_count 2 (some .int), Cond.fieldLink RX3 10 "KnotRugs" "rug" "LKnotRugs$Rug;", Cond.methodLink RX3 93 yX3_checkIndex, Cond.static yX3_checkIndex, Cond.code yX3_checkIndex cX3_checkIndex 2 none, Cond.classLink RX3 172 "java/lang/IndexOutOfBoundsException", Cond.initialized "java/lang/IndexOutOfBoundsException", Cond.methodLink RX3 123 yX1_number, Cond.instanceMethod yX1_number, Cond.selects RX1 yX1_number yX1_number, Cond.initialized RX1, Cond.code yX1_number cX1_number 2 (some .int), Cond.fieldLink RX1 30 "KnotRugs$Rug" "hour" "I", Cond.fieldLink RX1 26 "KnotRugs$Rug" "baskets" "LKnotRugs$Baskets;", Cond.fieldLink RX1 34 "KnotRugs$Rug" "unpicked" "I", Cond.methodLink RX1 78 yX1_knots, Cond.instanceMethod yX1_knots, Cond.selects RX1 yX1_knots yX1_knots, Cond.code yX1_knots cX1_knots 1 (some .int)]
def wsL_count_r2 : List Cond := [Cond.fieldLink RX1 14 "KnotRugs$Rug" "leftWeaver" "LKnotRugs$Weaver;", Cond.fieldLink RX1 20 "KnotRugs$Rug" "rightWeaver" "LKnotRugs$Weaver;", Cond.methodLink RX1 82 yX1_offPlan, Cond.instanceMethod yX1_offPlan, Cond.selects RX1 yX1_offPlan yX1_offPlan, Cond.code yX1_offPlan cX1_offPlan 1 (some .int), Cond.methodLink RX1 100 yX2_offPlan, Cond.instanceMethod yX2_offPlan, Cond.selects RX2 yX2_offPlan yX2_offPlan, Cond.initialized RX2, Cond.code yX2_offPlan cX2_offPlan 3 (some .int), Cond.fieldLink RX2 31 "KnotRugs$Weaver" "made" "I", Cond.fieldLink RX2 15 "KnotRugs$Weaver" "knotted" "[I", Cond.fieldLink RX2 9 "KnotRugs$Weaver" "planned" "[I", Cond.static yX3_at, Cond.code yX3_at cX3_at 2 (some .int), Cond.methodLink RX1 85 yX1_rowsDone, Cond.instanceMethod yX1_rowsDone, Cond.selects RX1 yX1_rowsDone yX1_rowsDone, Cond.code yX1_rowsDone cX1_rowsDone 1 (some .int), Cond.methodLink RX1 102 Lib.Math.min.name, Cond.static Lib.Math.min.name, Cond.initialized "java/lang/Math", Cond.code Lib.Math.min.name Lib.Math.min.code 2 (some .int)]
def wsL_count_r3 : List Cond := [Cond.methodLink RX1 101 yX2_rowsDone, Cond.instanceMethod yX2_rowsDone, Cond.selects RX2 yX2_rowsDone yX2_rowsDone, Cond.code yX2_rowsDone cX2_rowsDone 1 (some .int), Cond.methodLink RX1 88 yX1_tornRows, Cond.instanceMethod yX1_tornRows, Cond.selects RX1 yX1_tornRows yX1_tornRows, Cond.code yX1_tornRows cX1_tornRows 7 (some .int), Cond.static yX3_placeOf, Cond.code yX3_placeOf cX3_placeOf 2 (some .int), Cond.methodLink RX1 91 yX0_inAll, Cond.instanceMethod yX0_inAll, Cond.selects RX0 yX0_inAll yX0_inAll, Cond.initialized RX0, Cond.code yX0_inAll cX0_inAll 3 (some .int), Cond.fieldLink RX0 9 "KnotRugs$Baskets" "left" "[I", Cond.methodLink RX1 94 yX0_empty, Cond.instanceMethod yX0_empty, Cond.selects RX0 yX0_empty yX0_empty, Cond.code yX0_empty cX0_empty 3 (some .int)]
def wsL_count : List Cond := .codeWith yL_count cL_count 4 (some .int) [(0, 9, 12, 13)] :: ((wsL_count_r1 ++ (wsL_count_r2 ++ wsL_count_r3)) ++ wsX30 ++ wsX10 ++ wsX20 ++ wsX00 ++ (vx_atS RX3 176 "java/lang/IndexOutOfBoundsException" ["java/lang/RuntimeException", "java/lang/Exception"]).filter goodWord)
def wsL_wool : List Cond := .codeWith yL_wool cL_wool 4 (some .int) [(0, 9, 12, 15)] :: ([.classLink RL 15 "java/lang/IllegalArgumentException", .methodLink RL 52 yX3_wool, .instanceMethod yX3_wool, .selects RX3 yX3_wool yX3_wool, .initialized RX3, .code yX3_wool cX3_wool 2 (some .int), .fieldLink RX3 10 "KnotRugs" "rug" "LKnotRugs$Rug;", .methodLink RX3 27 yX3_checkColour, .static yX3_checkColour, .code yX3_checkColour cX3_checkColour 1 none, .methodLink RX3 23 yX3_checkRange, .static yX3_checkRange, .code yX3_checkRange cX3_checkRange 3 none, .classLink RX3 177 "java/lang/IllegalArgumentException", .initialized "java/lang/IllegalArgumentException", .methodLink RX3 116 yX3_at, .static yX3_at, .code yX3_at cX3_at 2 (some .int)] ++ wsX30 ++ wsX10 ++ wsX00 ++ (vx_atS RX3 181 "java/lang/IllegalArgumentException" ["java/lang/RuntimeException", "java/lang/Exception"]).filter goodWord)
def wsL_advise_r1 : List Cond := [Cond.classLink RL 13 "java/lang/IndexOutOfBoundsException", Cond.methodLink RL 55 yX3_advise, Cond.instanceMethod yX3_advise, Cond.selects RX3 yX3_advise yX3_advise, Cond.initialized RX3, Cond.code yX3_advise cX3_advise 3 (some .int), Cond.fieldLink RX3 10 "KnotRugs" "rug" "LKnotRugs$Rug;", Cond.methodLink RX3 54 yX3_checkWeaver, Cond.static yX3_checkWeaver, Cond.code yX3_checkWeaver cX3_checkWeaver 1 none, Cond.methodLink RX3 93 yX3_checkIndex, Cond.static yX3_checkIndex, Cond.code yX3_checkIndex cX3_checkIndex 2 none, Cond.classLink RX3 172 "java/lang/IndexOutOfBoundsException", Cond.initialized "java/lang/IndexOutOfBoundsException", Cond.methodLink RX3 57 yX1_weaverAt, Cond.instanceMethod yX1_weaverAt, Cond.selects RX1 yX1_weaverAt yX1_weaverAt, Cond.initialized RX1, Cond.code yX1_weaverAt cX1_weaverAt 2 (some (.object "KnotRugs$Weaver")), Cond.fieldLink RX1 14 "KnotRugs$Rug" "leftWeaver" "LKnotRugs$Weaver;", Cond.fieldLink RX1 20 "KnotRugs$Rug" "rightWeaver" "LKnotRugs$Weaver;", Cond.methodLink RX3 127 yX2_isHalfDone, Cond.instanceMethod yX2_isHalfDone]
def wsL_advise_r2 : List Cond := [Cond.selects RX2 yX2_isHalfDone yX2_isHalfDone, Cond.initialized RX2, Cond.code yX2_isHalfDone cX2_isHalfDone 1 (some .boolean), Cond.fieldLink RX2 31 "KnotRugs$Weaver" "made" "I", Cond.methodLink RX3 116 yX3_at, Cond.static yX3_at, Cond.code yX3_at cX3_at 2 (some .int), Cond.methodLink RX3 134 yX2_alikeAhead, Cond.instanceMethod yX2_alikeAhead, Cond.selects RX2 yX2_alikeAhead yX2_alikeAhead, Cond.code yX2_alikeAhead cX2_alikeAhead 2 (some .int), Cond.fieldLink RX2 9 "KnotRugs$Weaver" "planned" "[I"]
def wsL_advise : List Cond := .codeWith yL_advise cL_advise 4 (some .int) [(0, 9, 12, 13)] :: ((wsL_advise_r1 ++ wsL_advise_r2) ++ wsX30 ++ wsX20 ++ wsX10 ++ (vx_atS RX3 176 "java/lang/IndexOutOfBoundsException" ["java/lang/RuntimeException", "java/lang/Exception"]).filter goodWord)
def wsL_runs_r1 : List Cond := [Cond.classLink RL 13 "java/lang/IndexOutOfBoundsException", Cond.methodLink RL 58 yX3_runs, Cond.instanceMethod yX3_runs, Cond.selects RX3 yX3_runs yX3_runs, Cond.initialized RX3, Cond.code yX3_runs cX3_runs 2 (some .int), Cond.fieldLink RX3 10 "KnotRugs" "rug" "LKnotRugs$Rug;", Cond.methodLink RX3 54 yX3_checkWeaver, Cond.static yX3_checkWeaver, Cond.code yX3_checkWeaver cX3_checkWeaver 1 none, Cond.methodLink RX3 93 yX3_checkIndex, Cond.static yX3_checkIndex, Cond.code yX3_checkIndex cX3_checkIndex 2 none, Cond.classLink RX3 172 "java/lang/IndexOutOfBoundsException", Cond.initialized "java/lang/IndexOutOfBoundsException", Cond.methodLink RX3 57 yX1_weaverAt, Cond.instanceMethod yX1_weaverAt, Cond.selects RX1 yX1_weaverAt yX1_weaverAt, Cond.initialized RX1, Cond.code yX1_weaverAt cX1_weaverAt 2 (some (.object "KnotRugs$Weaver")), Cond.fieldLink RX1 14 "KnotRugs$Rug" "leftWeaver" "LKnotRugs$Weaver;", Cond.fieldLink RX1 20 "KnotRugs$Rug" "rightWeaver" "LKnotRugs$Weaver;", Cond.methodLink RX3 137 yX2_fewestRuns, Cond.instanceMethod yX2_fewestRuns]
def wsL_runs_r2 : List Cond := [Cond.selects RX2 yX2_fewestRuns yX2_fewestRuns, Cond.initialized RX2, Cond.code yX2_fewestRuns cX2_fewestRuns 3 (some .int), Cond.fieldLink RX2 31 "KnotRugs$Weaver" "made" "I", Cond.fieldLink RX2 9 "KnotRugs$Weaver" "planned" "[I", Cond.methodLink RX2 52 yX2_isHalfDone, Cond.instanceMethod yX2_isHalfDone, Cond.selects RX2 yX2_isHalfDone yX2_isHalfDone, Cond.code yX2_isHalfDone cX2_isHalfDone 1 (some .boolean), Cond.static yX3_at, Cond.code yX3_at cX3_at 2 (some .int)]
def wsL_runs : List Cond := .codeWith yL_runs cL_runs 4 (some .int) [(0, 9, 12, 13)] :: ((wsL_runs_r1 ++ wsL_runs_r2) ++ wsX30 ++ wsX10 ++ wsX20 ++ (vx_atS RX3 176 "java/lang/IndexOutOfBoundsException" ["java/lang/RuntimeException", "java/lang/Exception"]).filter goodWord)
def wsL_mends_r1 : List Cond := [Cond.classLink RL 13 "java/lang/IndexOutOfBoundsException", Cond.methodLink RL 61 yX3_mends, Cond.instanceMethod yX3_mends, Cond.selects RX3 yX3_mends yX3_mends, Cond.initialized RX3, Cond.code yX3_mends cX3_mends 3 (some .int), Cond.fieldLink RX3 10 "KnotRugs" "rug" "LKnotRugs$Rug;", Cond.methodLink RX3 54 yX3_checkWeaver, Cond.static yX3_checkWeaver, Cond.code yX3_checkWeaver cX3_checkWeaver 1 none, Cond.methodLink RX3 93 yX3_checkIndex, Cond.static yX3_checkIndex, Cond.code yX3_checkIndex cX3_checkIndex 2 none, Cond.classLink RX3 172 "java/lang/IndexOutOfBoundsException", Cond.initialized "java/lang/IndexOutOfBoundsException", Cond.methodLink RX3 57 yX1_weaverAt, Cond.instanceMethod yX1_weaverAt, Cond.selects RX1 yX1_weaverAt yX1_weaverAt, Cond.initialized RX1, Cond.code yX1_weaverAt cX1_weaverAt 2 (some (.object "KnotRugs$Weaver")), Cond.fieldLink RX1 14 "KnotRugs$Rug" "leftWeaver" "LKnotRugs$Weaver;", Cond.fieldLink RX1 20 "KnotRugs$Rug" "rightWeaver" "LKnotRugs$Weaver;", Cond.methodLink RX3 140 yX2_firstOffPlan, Cond.instanceMethod yX2_firstOffPlan]
def wsL_mends_r2 : List Cond := [Cond.selects RX2 yX2_firstOffPlan yX2_firstOffPlan, Cond.initialized RX2, Cond.code yX2_firstOffPlan cX2_firstOffPlan 2 (some .int), Cond.fieldLink RX2 31 "KnotRugs$Weaver" "made" "I", Cond.fieldLink RX2 15 "KnotRugs$Weaver" "knotted" "[I", Cond.fieldLink RX2 9 "KnotRugs$Weaver" "planned" "[I", Cond.static yX3_at, Cond.code yX3_at cX3_at 2 (some .int)]
def wsL_mends : List Cond := .codeWith yL_mends cL_mends 4 (some .int) [(0, 9, 12, 13)] :: ((wsL_mends_r1 ++ wsL_mends_r2) ++ wsX30 ++ wsX20 ++ wsX10 ++ (vx_atS RX3 176 "java/lang/IndexOutOfBoundsException" ["java/lang/RuntimeException", "java/lang/Exception"]).filter goodWord)
def wsL_pass_r1 : List Cond := [Cond.classLink RL 15 "java/lang/IllegalArgumentException", Cond.methodLink RL 64 yX3_pass, Cond.instanceMethod yX3_pass, Cond.selects RX3 yX3_pass yX3_pass, Cond.initialized RX3, Cond.code yX3_pass cX3_pass 2 (some .int), Cond.fieldLink RX3 10 "KnotRugs" "rug" "LKnotRugs$Rug;", Cond.methodLink RX3 23 yX3_checkRange, Cond.static yX3_checkRange, Cond.code yX3_checkRange cX3_checkRange 3 none, Cond.classLink RX3 177 "java/lang/IllegalArgumentException", Cond.initialized "java/lang/IllegalArgumentException", Cond.methodLink RX3 143 yX1_letGoBy, Cond.instanceMethod yX1_letGoBy, Cond.selects RX1 yX1_letGoBy yX1_letGoBy, Cond.initialized RX1, Cond.code yX1_letGoBy cX1_letGoBy 4 (some .int), Cond.fieldLink RX1 14 "KnotRugs$Rug" "leftWeaver" "LKnotRugs$Weaver;", Cond.fieldLink RX1 26 "KnotRugs$Rug" "baskets" "LKnotRugs$Baskets;", Cond.fieldLink RX1 20 "KnotRugs$Rug" "rightWeaver" "LKnotRugs$Weaver;", Cond.fieldLink RX1 30 "KnotRugs$Rug" "hour" "I", Cond.methodLink RX1 74 yX2_workAnHour, Cond.instanceMethod yX2_workAnHour, Cond.selects RX2 yX2_workAnHour yX2_workAnHour]
def wsL_pass_r2 : List Cond := [Cond.initialized RX2, Cond.code yX2_workAnHour cX2_workAnHour 3 (some .int), Cond.fieldLink RX2 24 "KnotRugs$Weaver" "speed" "I", Cond.methodLink RX2 56 yX2_hasWork, Cond.instanceMethod yX2_hasWork, Cond.selects RX2 yX2_hasWork yX2_hasWork, Cond.code yX2_hasWork cX2_hasWork 1 (some .boolean), Cond.fieldLink RX2 28 "KnotRugs$Weaver" "told" "I", Cond.methodLink RX2 52 yX2_isHalfDone, Cond.instanceMethod yX2_isHalfDone, Cond.selects RX2 yX2_isHalfDone yX2_isHalfDone, Cond.code yX2_isHalfDone cX2_isHalfDone 1 (some .boolean), Cond.fieldLink RX2 31 "KnotRugs$Weaver" "made" "I", Cond.methodLink RX2 59 yX2_knotNext, Cond.instanceMethod yX2_knotNext, Cond.selects RX2 yX2_knotNext yX2_knotNext, Cond.code yX2_knotNext cX2_knotNext 4 (some .boolean), Cond.fieldLink RX2 18 "KnotRugs$Weaver" "toldColours" "[I", Cond.fieldLink RX2 15 "KnotRugs$Weaver" "knotted" "[I", Cond.fieldLink RX2 34 "KnotRugs$Weaver" "inAnotherColour" "I", Cond.static yX3_at, Cond.code yX3_at cX3_at 2 (some .int), Cond.methodLink RX2 63 yX0_take, Cond.instanceMethod yX0_take]
def wsL_pass_r3 : List Cond := [Cond.selects RX0 yX0_take yX0_take, Cond.initialized RX0, Cond.code yX0_take cX0_take 5 (some .int), Cond.fieldLink RX0 9 "KnotRugs$Baskets" "left" "[I", Cond.static yX3_put, Cond.code yX3_put cX3_put 3 none, Cond.methodLink RX2 69 yX2_shortenFirstRun, Cond.instanceMethod yX2_shortenFirstRun, Cond.selects RX2 yX2_shortenFirstRun yX2_shortenFirstRun, Cond.code yX2_shortenFirstRun cX2_shortenFirstRun 3 none, Cond.fieldLink RX2 21 "KnotRugs$Weaver" "toldKnots" "[I"]
def wsL_pass : List Cond := .codeWith yL_pass cL_pass 4 (some .int) [(0, 9, 12, 15)] :: ((wsL_pass_r1 ++ (wsL_pass_r2 ++ wsL_pass_r3)) ++ wsX30 ++ wsX10 ++ wsX20 ++ wsX00 ++ (vx_atS RX3 181 "java/lang/IllegalArgumentException" ["java/lang/RuntimeException", "java/lang/Exception"]).filter goodWord)
def wsL_done_r1 : List Cond := [Cond.classLink RL 13 "java/lang/IndexOutOfBoundsException", Cond.methodLink RL 67 yX3_done, Cond.instanceMethod yX3_done, Cond.selects RX3 yX3_done yX3_done, Cond.initialized RX3, Cond.code yX3_done cX3_done 4 (some .int), Cond.fieldLink RX3 16 "KnotRugs" "trial" "LKnotRugs$Rug;", Cond.fieldLink RX3 10 "KnotRugs" "rug" "LKnotRugs$Rug;", Cond.methodLink RX3 54 yX3_checkWeaver, Cond.static yX3_checkWeaver, Cond.code yX3_checkWeaver cX3_checkWeaver 1 none, Cond.methodLink RX3 93 yX3_checkIndex, Cond.static yX3_checkIndex, Cond.code yX3_checkIndex cX3_checkIndex 2 none, Cond.classLink RX3 172 "java/lang/IndexOutOfBoundsException", Cond.initialized "java/lang/IndexOutOfBoundsException", Cond.methodLink RX3 146 yX1_becomeLike, Cond.instanceMethod yX1_becomeLike, Cond.selects RX1 yX1_becomeLike yX1_becomeLike, Cond.initialized RX1, Cond.code yX1_becomeLike cX1_becomeLike 2 none, Cond.fieldLink RX1 14 "KnotRugs$Rug" "leftWeaver" "LKnotRugs$Weaver;", Cond.fieldLink RX1 20 "KnotRugs$Rug" "rightWeaver" "LKnotRugs$Weaver;", Cond.fieldLink RX1 26 "KnotRugs$Rug" "baskets" "LKnotRugs$Baskets;"]
def wsL_done_r2 : List Cond := [Cond.fieldLink RX1 30 "KnotRugs$Rug" "hour" "I", Cond.fieldLink RX1 34 "KnotRugs$Rug" "unpicked" "I", Cond.methodLink RX1 63 yX2_becomeLike, Cond.instanceMethod yX2_becomeLike, Cond.selects RX2 yX2_becomeLike yX2_becomeLike, Cond.initialized RX2, Cond.code yX2_becomeLike cX2_becomeLike 2 none, Cond.fieldLink RX2 9 "KnotRugs$Weaver" "planned" "[I", Cond.fieldLink RX2 15 "KnotRugs$Weaver" "knotted" "[I", Cond.fieldLink RX2 18 "KnotRugs$Weaver" "toldColours" "[I", Cond.fieldLink RX2 21 "KnotRugs$Weaver" "toldKnots" "[I", Cond.fieldLink RX2 24 "KnotRugs$Weaver" "speed" "I", Cond.fieldLink RX2 28 "KnotRugs$Weaver" "told" "I", Cond.fieldLink RX2 31 "KnotRugs$Weaver" "made" "I", Cond.fieldLink RX2 34 "KnotRugs$Weaver" "inAnotherColour" "I", Cond.static yX3_copyRow, Cond.code yX3_copyRow cX3_copyRow 3 none, Cond.methodLink RX3 57 yX1_weaverAt, Cond.instanceMethod yX1_weaverAt, Cond.selects RX1 yX1_weaverAt yX1_weaverAt, Cond.code yX1_weaverAt cX1_weaverAt 2 (some (.object "KnotRugs$Weaver")), Cond.methodLink RX3 150 yX2_hasWork, Cond.instanceMethod yX2_hasWork, Cond.selects RX2 yX2_hasWork yX2_hasWork]
def wsL_done_r3 : List Cond := [Cond.code yX2_hasWork cX2_hasWork 1 (some .boolean), Cond.methodLink RX2 52 yX2_isHalfDone, Cond.instanceMethod yX2_isHalfDone, Cond.selects RX2 yX2_isHalfDone yX2_isHalfDone, Cond.code yX2_isHalfDone cX2_isHalfDone 1 (some .boolean), Cond.methodLink RX3 143 yX1_letGoBy, Cond.instanceMethod yX1_letGoBy, Cond.selects RX1 yX1_letGoBy yX1_letGoBy, Cond.code yX1_letGoBy cX1_letGoBy 4 (some .int), Cond.methodLink RX1 74 yX2_workAnHour, Cond.instanceMethod yX2_workAnHour, Cond.selects RX2 yX2_workAnHour yX2_workAnHour, Cond.code yX2_workAnHour cX2_workAnHour 3 (some .int), Cond.methodLink RX2 56 yX2_hasWork, Cond.methodLink RX2 59 yX2_knotNext, Cond.instanceMethod yX2_knotNext, Cond.selects RX2 yX2_knotNext yX2_knotNext, Cond.code yX2_knotNext cX2_knotNext 4 (some .boolean), Cond.static yX3_at, Cond.code yX3_at cX3_at 2 (some .int), Cond.methodLink RX2 63 yX0_take, Cond.instanceMethod yX0_take, Cond.selects RX0 yX0_take yX0_take, Cond.initialized RX0]
def wsL_done_r4 : List Cond := [Cond.code yX0_take cX0_take 5 (some .int), Cond.fieldLink RX0 9 "KnotRugs$Baskets" "left" "[I", Cond.static yX3_put, Cond.code yX3_put cX3_put 3 none, Cond.methodLink RX2 69 yX2_shortenFirstRun, Cond.instanceMethod yX2_shortenFirstRun, Cond.selects RX2 yX2_shortenFirstRun yX2_shortenFirstRun, Cond.code yX2_shortenFirstRun cX2_shortenFirstRun 3 none]
def wsL_done : List Cond := .codeWith yL_done cL_done 4 (some .int) [(0, 9, 12, 13)] :: ((wsL_done_r1 ++ (wsL_done_r2 ++ (wsL_done_r3 ++ wsL_done_r4))) ++ wsX30 ++ wsX10 ++ wsX00 ++ wsX20 ++ (vx_atS RX3 176 "java/lang/IndexOutOfBoundsException" ["java/lang/RuntimeException", "java/lang/Exception"]).filter goodWord)
def wsL_foresee_r1 : List Cond := [Cond.classLink RL 15 "java/lang/IllegalArgumentException", Cond.classLink RL 13 "java/lang/IndexOutOfBoundsException", Cond.methodLink RL 70 yX3_foresee, Cond.instanceMethod yX3_foresee, Cond.selects RX3 yX3_foresee yX3_foresee, Cond.initialized RX3, Cond.code yX3_foresee cX3_foresee 3 (some .int), Cond.fieldLink RX3 16 "KnotRugs" "trial" "LKnotRugs$Rug;", Cond.fieldLink RX3 10 "KnotRugs" "rug" "LKnotRugs$Rug;", Cond.methodLink RX3 23 yX3_checkRange, Cond.static yX3_checkRange, Cond.code yX3_checkRange cX3_checkRange 3 none, Cond.classLink RX3 177 "java/lang/IllegalArgumentException", Cond.initialized "java/lang/IllegalArgumentException", Cond.methodLink RX3 93 yX3_checkIndex, Cond.static yX3_checkIndex, Cond.code yX3_checkIndex cX3_checkIndex 2 none, Cond.classLink RX3 172 "java/lang/IndexOutOfBoundsException", Cond.initialized "java/lang/IndexOutOfBoundsException", Cond.methodLink RX3 146 yX1_becomeLike, Cond.instanceMethod yX1_becomeLike, Cond.selects RX1 yX1_becomeLike yX1_becomeLike, Cond.initialized RX1, Cond.code yX1_becomeLike cX1_becomeLike 2 none]
def wsL_foresee_r2 : List Cond := [Cond.fieldLink RX1 14 "KnotRugs$Rug" "leftWeaver" "LKnotRugs$Weaver;", Cond.fieldLink RX1 20 "KnotRugs$Rug" "rightWeaver" "LKnotRugs$Weaver;", Cond.fieldLink RX1 26 "KnotRugs$Rug" "baskets" "LKnotRugs$Baskets;", Cond.fieldLink RX1 30 "KnotRugs$Rug" "hour" "I", Cond.fieldLink RX1 34 "KnotRugs$Rug" "unpicked" "I", Cond.methodLink RX1 63 yX2_becomeLike, Cond.instanceMethod yX2_becomeLike, Cond.selects RX2 yX2_becomeLike yX2_becomeLike, Cond.initialized RX2, Cond.code yX2_becomeLike cX2_becomeLike 2 none, Cond.fieldLink RX2 9 "KnotRugs$Weaver" "planned" "[I", Cond.fieldLink RX2 15 "KnotRugs$Weaver" "knotted" "[I", Cond.fieldLink RX2 18 "KnotRugs$Weaver" "toldColours" "[I", Cond.fieldLink RX2 21 "KnotRugs$Weaver" "toldKnots" "[I", Cond.fieldLink RX2 24 "KnotRugs$Weaver" "speed" "I", Cond.fieldLink RX2 28 "KnotRugs$Weaver" "told" "I", Cond.fieldLink RX2 31 "KnotRugs$Weaver" "made" "I", Cond.fieldLink RX2 34 "KnotRugs$Weaver" "inAnotherColour" "I", Cond.static yX3_copyRow, Cond.code yX3_copyRow cX3_copyRow 3 none, Cond.methodLink RX3 143 yX1_letGoBy, Cond.instanceMethod yX1_letGoBy, Cond.selects RX1 yX1_letGoBy yX1_letGoBy, Cond.code yX1_letGoBy cX1_letGoBy 4 (some .int)]
def wsL_foresee_r3 : List Cond := [Cond.methodLink RX1 74 yX2_workAnHour, Cond.instanceMethod yX2_workAnHour, Cond.selects RX2 yX2_workAnHour yX2_workAnHour, Cond.code yX2_workAnHour cX2_workAnHour 3 (some .int), Cond.methodLink RX2 56 yX2_hasWork, Cond.instanceMethod yX2_hasWork, Cond.selects RX2 yX2_hasWork yX2_hasWork, Cond.code yX2_hasWork cX2_hasWork 1 (some .boolean), Cond.methodLink RX2 52 yX2_isHalfDone, Cond.instanceMethod yX2_isHalfDone, Cond.selects RX2 yX2_isHalfDone yX2_isHalfDone, Cond.code yX2_isHalfDone cX2_isHalfDone 1 (some .boolean), Cond.methodLink RX2 59 yX2_knotNext, Cond.instanceMethod yX2_knotNext, Cond.selects RX2 yX2_knotNext yX2_knotNext, Cond.code yX2_knotNext cX2_knotNext 4 (some .boolean), Cond.static yX3_at, Cond.code yX3_at cX3_at 2 (some .int), Cond.methodLink RX2 63 yX0_take, Cond.instanceMethod yX0_take, Cond.selects RX0 yX0_take yX0_take, Cond.initialized RX0, Cond.code yX0_take cX0_take 5 (some .int), Cond.fieldLink RX0 9 "KnotRugs$Baskets" "left" "[I"]
def wsL_foresee_r4 : List Cond := [Cond.static yX3_put, Cond.code yX3_put cX3_put 3 none, Cond.methodLink RX2 69 yX2_shortenFirstRun, Cond.instanceMethod yX2_shortenFirstRun, Cond.selects RX2 yX2_shortenFirstRun yX2_shortenFirstRun, Cond.code yX2_shortenFirstRun cX2_shortenFirstRun 3 none, Cond.methodLink RX3 153 yX1_knots, Cond.instanceMethod yX1_knots, Cond.selects RX1 yX1_knots yX1_knots, Cond.code yX1_knots cX1_knots 1 (some .int), Cond.methodLink RX3 156 yX1_offPlan, Cond.instanceMethod yX1_offPlan, Cond.selects RX1 yX1_offPlan yX1_offPlan, Cond.code yX1_offPlan cX1_offPlan 1 (some .int), Cond.methodLink RX1 100 yX2_offPlan, Cond.instanceMethod yX2_offPlan, Cond.selects RX2 yX2_offPlan yX2_offPlan, Cond.code yX2_offPlan cX2_offPlan 3 (some .int), Cond.methodLink RX3 159 yX1_tornRows, Cond.instanceMethod yX1_tornRows, Cond.selects RX1 yX1_tornRows yX1_tornRows, Cond.code yX1_tornRows cX1_tornRows 7 (some .int), Cond.methodLink RX1 85 yX1_rowsDone, Cond.instanceMethod yX1_rowsDone]
def wsL_foresee_r5 : List Cond := [Cond.selects RX1 yX1_rowsDone yX1_rowsDone, Cond.code yX1_rowsDone cX1_rowsDone 1 (some .int), Cond.methodLink RX1 102 Lib.Math.min.name, Cond.static Lib.Math.min.name, Cond.initialized "java/lang/Math", Cond.code Lib.Math.min.name Lib.Math.min.code 2 (some .int), Cond.methodLink RX1 101 yX2_rowsDone, Cond.instanceMethod yX2_rowsDone, Cond.selects RX2 yX2_rowsDone yX2_rowsDone, Cond.code yX2_rowsDone cX2_rowsDone 1 (some .int), Cond.static yX3_placeOf, Cond.code yX3_placeOf cX3_placeOf 2 (some .int)]
def wsL_foresee : List Cond := .codeWith yL_foresee cL_foresee 5 (some .int) [(0, 10, 13, 15), (0, 10, 17, 13)] :: ((wsL_foresee_r1 ++ (wsL_foresee_r2 ++ (wsL_foresee_r3 ++ (wsL_foresee_r4 ++ wsL_foresee_r5)))) ++ wsX30 ++ wsX10 ++ wsX00 ++ wsX20 ++ (vx_atS RX3 181 "java/lang/IllegalArgumentException" ["java/lang/RuntimeException", "java/lang/Exception"]).filter goodWord ++ (vx_atS RX3 176 "java/lang/IndexOutOfBoundsException" ["java/lang/RuntimeException", "java/lang/Exception"]).filter goodWord)
def wsL_law0_r1 : List Cond := [Cond.classLink RL 8 RX3, Cond.instantiable RX3 2, Cond.initialized RX3, Cond.classLink RL 74 RX4, Cond.instantiable RX4 7, Cond.initialized RX4, Cond.arrayClass .long, Cond.methodLink RL 73 yX3_init, Cond.instanceMethod yX3_init, Cond.code yX3_init cX3_init 1 none, Cond.methodLink RX3 1 objectInit, Cond.instanceMethod objectInit, Cond.code objectInit ⟨#[0xb1]⟩ 1 none, Cond.classLink RX3 7 RX1, Cond.instantiable RX1 5, Cond.initialized RX1, Cond.fieldLink RX3 10 "KnotRugs" "rug" "LKnotRugs$Rug;", Cond.fieldLink RX3 16 "KnotRugs" "trial" "LKnotRugs$Rug;", Cond.instanceMethod yX1_init, Cond.code yX1_init cX1_init 1 none, Cond.methodLink RX1 3 objectInit, Cond.classLink RX1 9 RX2, Cond.instantiable RX2 9, Cond.initialized RX2]
def wsL_law0_r2 : List Cond := [Cond.fieldLink RX1 14 "KnotRugs$Rug" "leftWeaver" "LKnotRugs$Weaver;", Cond.fieldLink RX1 20 "KnotRugs$Rug" "rightWeaver" "LKnotRugs$Weaver;", Cond.classLink RX1 23 RX0, Cond.instantiable RX0 1, Cond.initialized RX0, Cond.fieldLink RX1 26 "KnotRugs$Rug" "baskets" "LKnotRugs$Baskets;", Cond.fieldLink RX1 30 "KnotRugs$Rug" "hour" "I", Cond.fieldLink RX1 34 "KnotRugs$Rug" "unpicked" "I", Cond.methodLink RX1 11 yX2_init, Cond.instanceMethod yX2_init, Cond.code yX2_init cX2_init 2 none, Cond.methodLink RX2 3 objectInit, Cond.arrayClass .int, Cond.fieldLink RX2 9 "KnotRugs$Weaver" "planned" "[I", Cond.fieldLink RX2 15 "KnotRugs$Weaver" "knotted" "[I", Cond.fieldLink RX2 18 "KnotRugs$Weaver" "toldColours" "[I", Cond.fieldLink RX2 21 "KnotRugs$Weaver" "toldKnots" "[I", Cond.fieldLink RX2 24 "KnotRugs$Weaver" "speed" "I", Cond.fieldLink RX2 28 "KnotRugs$Weaver" "told" "I", Cond.fieldLink RX2 31 "KnotRugs$Weaver" "made" "I", Cond.fieldLink RX2 34 "KnotRugs$Weaver" "inAnotherColour" "I", Cond.fieldLink RX2 37 "KnotRugs$Weaver" "side" "I", Cond.methodLink RX1 25 yX0_init, Cond.instanceMethod yX0_init]
def wsL_law0_r3 : List Cond := [Cond.code yX0_init cX0_init 2 none, Cond.methodLink RX0 3 objectInit, Cond.fieldLink RX0 9 "KnotRugs$Baskets" "left" "[I", Cond.methodLink RL 76 yX4_init, Cond.instanceMethod yX4_init, Cond.code yX4_init cX4_init 2 none, Cond.methodLink RX4 1 objectInit, Cond.fieldLink RX4 7 "KnotRugsModel" "people" "[I", Cond.fieldLink RX4 13 "KnotRugsModel" "knots" "[I", Cond.fieldLink RX4 16 "KnotRugsModel" "plan" "[I", Cond.fieldLink RX4 19 "KnotRugsModel" "runs" "[I", Cond.fieldLink RX4 22 "KnotRugsModel" "baskets" "[I", Cond.fieldLink RX4 25 "KnotRugsModel" "numbers" "[I", Cond.methodLink RL 77 yL_plan, Cond.static yL_plan, Cond.initialized RL, Cond.codeWith yL_plan cL_plan 8 (some .int) [(0, 16, 19, 13), (0, 16, 23, 15)], Cond.classLink RL 13 "java/lang/IndexOutOfBoundsException", Cond.classLink RL 15 "java/lang/IllegalArgumentException", Cond.methodLink RL 7 yX3_plan, Cond.instanceMethod yX3_plan, Cond.selects RX3 yX3_plan yX3_plan, Cond.code yX3_plan cX3_plan 9 (some .int), Cond.methodLink RX3 19 yX3_checkCell]
def wsL_law0_r4 : List Cond := [Cond.static yX3_checkCell, Cond.code yX3_checkCell cX3_checkCell 2 none, Cond.methodLink RX3 93 yX3_checkIndex, Cond.static yX3_checkIndex, Cond.code yX3_checkIndex cX3_checkIndex 2 none, Cond.classLink RX3 172 "java/lang/IndexOutOfBoundsException", Cond.initialized "java/lang/IndexOutOfBoundsException", Cond.methodLink RX3 23 yX3_checkRange, Cond.static yX3_checkRange, Cond.code yX3_checkRange cX3_checkRange 3 none, Cond.classLink RX3 177 "java/lang/IllegalArgumentException", Cond.initialized "java/lang/IllegalArgumentException", Cond.methodLink RX3 27 yX3_checkColour, Cond.static yX3_checkColour, Cond.code yX3_checkColour cX3_checkColour 1 none, Cond.methodLink RX3 31 yX1_ownerOf, Cond.instanceMethod yX1_ownerOf, Cond.selects RX1 yX1_ownerOf yX1_ownerOf, Cond.code yX1_ownerOf cX1_ownerOf 2 (some (.object "KnotRugs$Weaver")), Cond.static yX3_sideOf, Cond.code yX3_sideOf cX3_sideOf 1 (some .int), Cond.methodLink RX1 41 yX1_weaverAt, Cond.instanceMethod yX1_weaverAt, Cond.selects RX1 yX1_weaverAt yX1_weaverAt]
def wsL_law0_r5 : List Cond := [Cond.code yX1_weaverAt cX1_weaverAt 2 (some (.object "KnotRugs$Weaver")), Cond.methodLink RX3 35 yX3_placeOf, Cond.static yX3_placeOf, Cond.code yX3_placeOf cX3_placeOf 2 (some .int), Cond.methodLink RX3 39 yX2_planCell, Cond.instanceMethod yX2_planCell, Cond.selects RX2 yX2_planCell yX2_planCell, Cond.code yX2_planCell cX2_planCell 4 (some .boolean), Cond.static yX3_at, Cond.code yX3_at cX3_at 2 (some .int), Cond.static yX3_put, Cond.code yX3_put cX3_put 3 none, Cond.methodLink RL 82 yX4_plan, Cond.instanceMethod yX4_plan, Cond.selects RX4 yX4_plan yX4_plan, Cond.code yX4_plan cX4_plan 9 (some .int), Cond.fieldLink RX4 28 "KnotRugsModel" "thrown" "I", Cond.methodLink RX4 43 yX4_isCell, Cond.static yX4_isCell, Cond.code yX4_isCell cX4_isCell 2 (some .boolean), Cond.methodLink RX4 32 yX4_isIn, Cond.static yX4_isIn, Cond.code yX4_isIn cX4_isIn 3 (some .boolean), Cond.methodLink RX4 47 yX4_fail]
def wsL_law0_r6 : List Cond := [Cond.instanceMethod yX4_fail, Cond.selects RX4 yX4_fail yX4_fail, Cond.code yX4_fail cX4_fail 2 (some .int), Cond.methodLink RX4 51 yX4_isColour, Cond.static yX4_isColour, Cond.code yX4_isColour cX4_isColour 1 (some .boolean), Cond.methodLink RX4 36 yX4_at, Cond.static yX4_at, Cond.code yX4_at cX4_at 2 (some .int), Cond.methodLink RL 83 yX4_thrown, Cond.instanceMethod yX4_thrown, Cond.selects RX4 yX4_thrown yX4_thrown, Cond.code yX4_thrown cX4_thrown 1 (some .int), Cond.methodLink RL 87 yL_bring, Cond.static yL_bring, Cond.codeWith yL_bring cL_bring 5 (some .int) [(0, 10, 13, 15)], Cond.methodLink RL 17 yX3_bring, Cond.instanceMethod yX3_bring, Cond.selects RX3 yX3_bring yX3_bring, Cond.code yX3_bring cX3_bring 3 (some .int), Cond.methodLink RX3 49 yX0_fill, Cond.instanceMethod yX0_fill, Cond.selects RX0 yX0_fill yX0_fill, Cond.code yX0_fill cX0_fill 4 (some .int)]
def wsL_law0_r7 : List Cond := [Cond.methodLink RX0 19 Lib.Math.min.name, Cond.static Lib.Math.min.name, Cond.initialized "java/lang/Math", Cond.code Lib.Math.min.name Lib.Math.min.code 2 (some .int), Cond.methodLink RL 90 yX4_bring, Cond.instanceMethod yX4_bring, Cond.selects RX4 yX4_bring yX4_bring, Cond.code yX4_bring cX4_bring 3 (some .int), Cond.methodLink RX4 55 Lib.Math.min.name, Cond.methodLink RL 91 yL_setSpeed, Cond.static yL_setSpeed, Cond.codeWith yL_setSpeed cL_setSpeed 5 (some .int) [(0, 10, 13, 13), (0, 10, 17, 15)], Cond.methodLink RL 21 yX3_setSpeed, Cond.instanceMethod yX3_setSpeed, Cond.selects RX3 yX3_setSpeed yX3_setSpeed, Cond.code yX3_setSpeed cX3_setSpeed 5 (some .int), Cond.methodLink RX3 54 yX3_checkWeaver, Cond.static yX3_checkWeaver, Cond.code yX3_checkWeaver cX3_checkWeaver 1 none, Cond.methodLink RX3 57 yX1_weaverAt, Cond.methodLink RL 93 yX4_setSpeed, Cond.instanceMethod yX4_setSpeed, Cond.selects RX4 yX4_setSpeed yX4_setSpeed, Cond.code yX4_setSpeed cX4_setSpeed 4 (some .int)]
def wsL_law0_r8 : List Cond := [Cond.methodLink RX4 60 yX4_isWeaver, Cond.static yX4_isWeaver, Cond.code yX4_isWeaver cX4_isWeaver 1 (some .boolean), Cond.methodLink RX4 40 yX4_pe, Cond.instanceMethod yX4_pe, Cond.selects RX4 yX4_pe yX4_pe, Cond.code yX4_pe cX4_pe 3 (some .int), Cond.methodLink RX4 63 yX4_put, Cond.instanceMethod yX4_put, Cond.selects RX4 yX4_put yX4_put, Cond.code yX4_put cX4_put 4 none, Cond.methodLink RL 94 yL_tell, Cond.static yL_tell, Cond.codeWith yL_tell cL_tell 6 (some .int) [(0, 12, 15, 13), (0, 12, 19, 15), (0, 12, 23, 28)], Cond.classLink RL 28 "java/lang/IllegalStateException", Cond.methodLink RL 24 yX3_tell, Cond.instanceMethod yX3_tell, Cond.selects RX3 yX3_tell yX3_tell, Cond.code yX3_tell cX3_tell 5 (some .int), Cond.classLink RX3 67 "java/lang/IllegalStateException", Cond.initialized "java/lang/IllegalStateException", Cond.methodLink RX3 74 yX2_addRun, Cond.instanceMethod yX2_addRun, Cond.selects RX2 yX2_addRun yX2_addRun]
def wsL_law0_r9 : List Cond := [Cond.code yX2_addRun cX2_addRun 3 none, Cond.methodLink RL 97 yX4_tell, Cond.instanceMethod yX4_tell, Cond.selects RX4 yX4_tell yX4_tell, Cond.code yX4_tell cX4_tell 5 (some .int), Cond.methodLink RX4 67 yX4_runAt, Cond.instanceMethod yX4_runAt, Cond.selects RX4 yX4_runAt yX4_runAt, Cond.code yX4_runAt cX4_runAt 3 (some .int), Cond.methodLink RL 98 yL_hush, Cond.static yL_hush, Cond.codeWith yL_hush cL_hush 4 (some .int) [(0, 9, 12, 13)], Cond.methodLink RL 30 yX3_hush, Cond.instanceMethod yX3_hush, Cond.selects RX3 yX3_hush yX3_hush, Cond.code yX3_hush cX3_hush 4 (some .int), Cond.methodLink RX3 77 yX2_toldInAll, Cond.instanceMethod yX2_toldInAll, Cond.selects RX2 yX2_toldInAll yX2_toldInAll, Cond.code yX2_toldInAll cX2_toldInAll 3 (some .int), Cond.methodLink RL 101 yX4_hush, Cond.instanceMethod yX4_hush, Cond.selects RX4 yX4_hush yX4_hush, Cond.code yX4_hush cX4_hush 3 (some .int)]
def wsL_law0_r10 : List Cond := [Cond.methodLink RX4 70 yX4_told, Cond.instanceMethod yX4_told, Cond.selects RX4 yX4_told yX4_told, Cond.code yX4_told cX4_told 4 (some .int), Cond.methodLink RL 102 yL_unpick, Cond.static yL_unpick, Cond.codeWith yL_unpick cL_unpick 5 (some .int) [(0, 10, 13, 13), (0, 10, 17, 15), (0, 10, 21, 28)], Cond.methodLink RL 34 yX3_unpick, Cond.instanceMethod yX3_unpick, Cond.selects RX3 yX3_unpick yX3_unpick, Cond.code yX3_unpick cX3_unpick 4 (some .int), Cond.methodLink RX3 86 yX2_undo, Cond.instanceMethod yX2_undo, Cond.selects RX2 yX2_undo yX2_undo, Cond.code yX2_undo cX2_undo 4 none, Cond.methodLink RX2 72 yX0_fill, Cond.methodLink RL 104 yX4_unpick, Cond.instanceMethod yX4_unpick, Cond.selects RX4 yX4_unpick yX4_unpick, Cond.code yX4_unpick cX4_unpick 6 (some .int), Cond.methodLink RL 105 yL_cell, Cond.static yL_cell, Cond.codeWith yL_cell cL_cell 6 (some .int) [(0, 12, 15, 13)], Cond.methodLink RL 37 yX3_cell]
def wsL_law0_r11 : List Cond := [Cond.instanceMethod yX3_cell, Cond.selects RX3 yX3_cell yX3_cell, Cond.code yX3_cell cX3_cell 4 (some .int), Cond.methodLink RX3 96 yX1_knotAt, Cond.instanceMethod yX1_knotAt, Cond.selects RX1 yX1_knotAt yX1_knotAt, Cond.code yX1_knotAt cX1_knotAt 3 (some .int), Cond.methodLink RX1 45 yX1_ownerOf, Cond.methodLink RX1 52 yX2_knotAtPlace, Cond.instanceMethod yX2_knotAtPlace, Cond.selects RX2 yX2_knotAtPlace yX2_knotAtPlace, Cond.code yX2_knotAtPlace cX2_knotAtPlace 2 (some .int), Cond.methodLink RX3 99 yX1_planAt, Cond.instanceMethod yX1_planAt, Cond.selects RX1 yX1_planAt yX1_planAt, Cond.code yX1_planAt cX1_planAt 3 (some .int), Cond.methodLink RL 107 yX4_cell, Cond.instanceMethod yX4_cell, Cond.selects RX4 yX4_cell yX4_cell, Cond.code yX4_cell cX4_cell 4 (some .int), Cond.methodLink RX4 73 yX4_colour, Cond.instanceMethod yX4_colour, Cond.selects RX4 yX4_colour yX4_colour, Cond.code yX4_colour cX4_colour 4 (some .int)]
def wsL_law0_r12 : List Cond := [Cond.methodLink RL 108 yL_sees, Cond.static yL_sees, Cond.codeWith yL_sees cL_sees 6 (some .int) [(0, 12, 15, 13)], Cond.methodLink RL 40 yX3_sees, Cond.instanceMethod yX3_sees, Cond.selects RX3 yX3_sees yX3_sees, Cond.code yX3_sees cX3_sees 6 (some .int), Cond.methodLink RX3 102 yX3_sideOf, Cond.methodLink RX3 106 yX2_rowsDone, Cond.instanceMethod yX2_rowsDone, Cond.selects RX2 yX2_rowsDone yX2_rowsDone, Cond.code yX2_rowsDone cX2_rowsDone 1 (some .int), Cond.methodLink RL 110 yX4_sees, Cond.instanceMethod yX4_sees, Cond.selects RX4 yX4_sees yX4_sees, Cond.code yX4_sees cX4_sees 6 (some .int), Cond.methodLink RL 111 yL_weaver, Cond.static yL_weaver, Cond.codeWith yL_weaver cL_weaver 5 (some .int) [(0, 10, 13, 13)], Cond.methodLink RL 43 yX3_weaver, Cond.instanceMethod yX3_weaver, Cond.selects RX3 yX3_weaver yX3_weaver, Cond.code yX3_weaver cX3_weaver 3 (some .int), Cond.methodLink RX3 109 yX2_number]
def wsL_law0_r13 : List Cond := [Cond.instanceMethod yX2_number, Cond.selects RX2 yX2_number yX2_number, Cond.code yX2_number cX2_number 2 (some .int), Cond.methodLink RX2 76 yX2_toldInAll, Cond.methodLink RX2 80 yX2_nextX, Cond.instanceMethod yX2_nextX, Cond.selects RX2 yX2_nextX yX2_nextX, Cond.code yX2_nextX cX2_nextX 2 (some .int), Cond.methodLink RX2 52 yX2_isHalfDone, Cond.instanceMethod yX2_isHalfDone, Cond.selects RX2 yX2_isHalfDone yX2_isHalfDone, Cond.code yX2_isHalfDone cX2_isHalfDone 1 (some .boolean), Cond.methodLink RL 113 yX4_weaver, Cond.instanceMethod yX4_weaver, Cond.selects RX4 yX4_weaver yX4_weaver, Cond.code yX4_weaver cX4_weaver 3 (some .int), Cond.methodLink RX4 79 yX4_weaverTold, Cond.instanceMethod yX4_weaverTold, Cond.selects RX4 yX4_weaverTold yX4_weaverTold, Cond.code yX4_weaverTold cX4_weaverTold 4 (some .int), Cond.methodLink RX4 76 yX4_xOf, Cond.static yX4_xOf, Cond.code yX4_xOf cX4_xOf 2 (some .int), Cond.methodLink RL 114 yL_run]
def wsL_law0_r14 : List Cond := [Cond.static yL_run, Cond.codeWith yL_run cL_run 6 (some .int) [(0, 12, 15, 13)], Cond.methodLink RL 46 yX3_run, Cond.instanceMethod yX3_run, Cond.selects RX3 yX3_run yX3_run, Cond.code yX3_run cX3_run 5 (some .int), Cond.methodLink RX3 116 yX3_at, Cond.methodLink RL 116 yX4_run, Cond.instanceMethod yX4_run, Cond.selects RX4 yX4_run yX4_run, Cond.code yX4_run cX4_run 4 (some .int), Cond.methodLink RL 117 yL_count, Cond.static yL_count, Cond.codeWith yL_count cL_count 4 (some .int) [(0, 9, 12, 13)], Cond.methodLink RL 49 yX3_count, Cond.instanceMethod yX3_count, Cond.selects RX3 yX3_count yX3_count, Cond.code yX3_count cX3_count 2 (some .int), Cond.methodLink RX3 123 yX1_number, Cond.instanceMethod yX1_number, Cond.selects RX1 yX1_number yX1_number, Cond.code yX1_number cX1_number 2 (some .int), Cond.methodLink RX1 78 yX1_knots, Cond.instanceMethod yX1_knots]
def wsL_law0_r15 : List Cond := [Cond.selects RX1 yX1_knots yX1_knots, Cond.code yX1_knots cX1_knots 1 (some .int), Cond.methodLink RX1 82 yX1_offPlan, Cond.instanceMethod yX1_offPlan, Cond.selects RX1 yX1_offPlan yX1_offPlan, Cond.code yX1_offPlan cX1_offPlan 1 (some .int), Cond.methodLink RX1 100 yX2_offPlan, Cond.instanceMethod yX2_offPlan, Cond.selects RX2 yX2_offPlan yX2_offPlan, Cond.code yX2_offPlan cX2_offPlan 3 (some .int), Cond.methodLink RX1 85 yX1_rowsDone, Cond.instanceMethod yX1_rowsDone, Cond.selects RX1 yX1_rowsDone yX1_rowsDone, Cond.code yX1_rowsDone cX1_rowsDone 1 (some .int), Cond.methodLink RX1 102 Lib.Math.min.name, Cond.methodLink RX1 101 yX2_rowsDone, Cond.methodLink RX1 88 yX1_tornRows, Cond.instanceMethod yX1_tornRows, Cond.selects RX1 yX1_tornRows yX1_tornRows, Cond.code yX1_tornRows cX1_tornRows 7 (some .int), Cond.methodLink RX1 91 yX0_inAll, Cond.instanceMethod yX0_inAll, Cond.selects RX0 yX0_inAll yX0_inAll, Cond.code yX0_inAll cX0_inAll 3 (some .int)]
def wsL_law0_r16 : List Cond := [Cond.methodLink RX1 94 yX0_empty, Cond.instanceMethod yX0_empty, Cond.selects RX0 yX0_empty yX0_empty, Cond.code yX0_empty cX0_empty 3 (some .int), Cond.methodLink RL 119 yX4_count, Cond.instanceMethod yX4_count, Cond.selects RX4 yX4_count yX4_count, Cond.code yX4_count cX4_count 2 (some .int), Cond.methodLink RX4 92 yX4_counted, Cond.instanceMethod yX4_counted, Cond.selects RX4 yX4_counted yX4_counted, Cond.code yX4_counted cX4_counted 7 (some .int), Cond.methodLink RX4 86 yX4_differ, Cond.instanceMethod yX4_differ, Cond.selects RX4 yX4_differ yX4_differ, Cond.code yX4_differ cX4_differ 4 (some .int), Cond.methodLink RX4 82 yX4_doneRows, Cond.instanceMethod yX4_doneRows, Cond.selects RX4 yX4_doneRows yX4_doneRows, Cond.code yX4_doneRows cX4_doneRows 1 (some .int), Cond.methodLink RX4 89 yX4_torn, Cond.instanceMethod yX4_torn, Cond.selects RX4 yX4_torn yX4_torn, Cond.code yX4_torn cX4_torn 4 (some .int)]
def wsL_law0_r17 : List Cond := [Cond.methodLink RL 120 yL_wool, Cond.static yL_wool, Cond.codeWith yL_wool cL_wool 4 (some .int) [(0, 9, 12, 15)], Cond.methodLink RL 52 yX3_wool, Cond.instanceMethod yX3_wool, Cond.selects RX3 yX3_wool yX3_wool, Cond.code yX3_wool cX3_wool 2 (some .int), Cond.methodLink RL 122 yX4_wool, Cond.instanceMethod yX4_wool, Cond.selects RX4 yX4_wool yX4_wool, Cond.code yX4_wool cX4_wool 2 (some .int), Cond.methodLink RL 123 yL_advise, Cond.static yL_advise, Cond.codeWith yL_advise cL_advise 4 (some .int) [(0, 9, 12, 13)], Cond.methodLink RL 55 yX3_advise, Cond.instanceMethod yX3_advise, Cond.selects RX3 yX3_advise yX3_advise, Cond.code yX3_advise cX3_advise 3 (some .int), Cond.methodLink RX3 127 yX2_isHalfDone, Cond.methodLink RX3 134 yX2_alikeAhead, Cond.instanceMethod yX2_alikeAhead, Cond.selects RX2 yX2_alikeAhead yX2_alikeAhead, Cond.code yX2_alikeAhead cX2_alikeAhead 2 (some .int), Cond.methodLink RL 125 yX4_advise]
def wsL_law0_r18 : List Cond := [Cond.instanceMethod yX4_advise, Cond.selects RX4 yX4_advise yX4_advise, Cond.code yX4_advise cX4_advise 3 (some .int), Cond.methodLink RX4 95 yX4_runEnd, Cond.instanceMethod yX4_runEnd, Cond.selects RX4 yX4_runEnd yX4_runEnd, Cond.code yX4_runEnd cX4_runEnd 4 (some .int), Cond.methodLink RL 126 yL_runs, Cond.static yL_runs, Cond.codeWith yL_runs cL_runs 4 (some .int) [(0, 9, 12, 13)], Cond.methodLink RL 58 yX3_runs, Cond.instanceMethod yX3_runs, Cond.selects RX3 yX3_runs yX3_runs, Cond.code yX3_runs cX3_runs 2 (some .int), Cond.methodLink RX3 137 yX2_fewestRuns, Cond.instanceMethod yX2_fewestRuns, Cond.selects RX2 yX2_fewestRuns yX2_fewestRuns, Cond.code yX2_fewestRuns cX2_fewestRuns 3 (some .int), Cond.methodLink RL 128 yX4_runs, Cond.instanceMethod yX4_runs, Cond.selects RX4 yX4_runs yX4_runs, Cond.code yX4_runs cX4_runs 4 (some .int), Cond.methodLink RL 129 yL_mends, Cond.static yL_mends]
def wsL_law0_r19 : List Cond := [Cond.codeWith yL_mends cL_mends 4 (some .int) [(0, 9, 12, 13)], Cond.methodLink RL 61 yX3_mends, Cond.instanceMethod yX3_mends, Cond.selects RX3 yX3_mends yX3_mends, Cond.code yX3_mends cX3_mends 3 (some .int), Cond.methodLink RX3 140 yX2_firstOffPlan, Cond.instanceMethod yX2_firstOffPlan, Cond.selects RX2 yX2_firstOffPlan yX2_firstOffPlan, Cond.code yX2_firstOffPlan cX2_firstOffPlan 2 (some .int), Cond.methodLink RL 131 yX4_mends, Cond.instanceMethod yX4_mends, Cond.selects RX4 yX4_mends yX4_mends, Cond.code yX4_mends cX4_mends 3 (some .int), Cond.methodLink RL 132 yL_pass, Cond.static yL_pass, Cond.codeWith yL_pass cL_pass 4 (some .int) [(0, 9, 12, 15)], Cond.methodLink RL 64 yX3_pass, Cond.instanceMethod yX3_pass, Cond.selects RX3 yX3_pass yX3_pass, Cond.code yX3_pass cX3_pass 2 (some .int), Cond.methodLink RX3 143 yX1_letGoBy, Cond.instanceMethod yX1_letGoBy, Cond.selects RX1 yX1_letGoBy yX1_letGoBy, Cond.code yX1_letGoBy cX1_letGoBy 4 (some .int)]
def wsL_law0_r20 : List Cond := [Cond.methodLink RX1 74 yX2_workAnHour, Cond.instanceMethod yX2_workAnHour, Cond.selects RX2 yX2_workAnHour yX2_workAnHour, Cond.code yX2_workAnHour cX2_workAnHour 3 (some .int), Cond.methodLink RX2 56 yX2_hasWork, Cond.instanceMethod yX2_hasWork, Cond.selects RX2 yX2_hasWork yX2_hasWork, Cond.code yX2_hasWork cX2_hasWork 1 (some .boolean), Cond.methodLink RX2 59 yX2_knotNext, Cond.instanceMethod yX2_knotNext, Cond.selects RX2 yX2_knotNext yX2_knotNext, Cond.code yX2_knotNext cX2_knotNext 4 (some .boolean), Cond.methodLink RX2 63 yX0_take, Cond.instanceMethod yX0_take, Cond.selects RX0 yX0_take yX0_take, Cond.code yX0_take cX0_take 5 (some .int), Cond.methodLink RX2 69 yX2_shortenFirstRun, Cond.instanceMethod yX2_shortenFirstRun, Cond.selects RX2 yX2_shortenFirstRun yX2_shortenFirstRun, Cond.code yX2_shortenFirstRun cX2_shortenFirstRun 3 none, Cond.methodLink RL 134 yX4_pass, Cond.instanceMethod yX4_pass, Cond.selects RX4 yX4_pass yX4_pass, Cond.code yX4_pass cX4_pass 3 (some .int)]
def wsL_law0_r21 : List Cond := [Cond.methodLink RX4 114 yX4_hoursOn, Cond.instanceMethod yX4_hoursOn, Cond.selects RX4 yX4_hoursOn yX4_hoursOn, Cond.code yX4_hoursOn cX4_hoursOn 5 none, Cond.methodLink RX4 108 yX4_isDone, Cond.instanceMethod yX4_isDone, Cond.selects RX4 yX4_isDone yX4_isDone, Cond.code yX4_isDone cX4_isDone 2 (some .boolean), Cond.methodLink RX4 111 yX4_knot, Cond.instanceMethod yX4_knot, Cond.selects RX4 yX4_knot yX4_knot, Cond.code yX4_knot cX4_knot 5 (some .boolean), Cond.methodLink RX4 104 yX4_dropRun, Cond.instanceMethod yX4_dropRun, Cond.selects RX4 yX4_dropRun yX4_dropRun, Cond.code yX4_dropRun cX4_dropRun 2 none, Cond.methodLink RX4 98 arraycopyName, Cond.native arraycopyName, Cond.static arraycopyName, Cond.initialized "java/lang/System", Cond.methodLink RL 135 yL_done, Cond.static yL_done, Cond.codeWith yL_done cL_done 4 (some .int) [(0, 9, 12, 13)], Cond.methodLink RL 67 yX3_done]
def wsL_law0_r22 : List Cond := [Cond.instanceMethod yX3_done, Cond.selects RX3 yX3_done yX3_done, Cond.code yX3_done cX3_done 4 (some .int), Cond.methodLink RX3 146 yX1_becomeLike, Cond.instanceMethod yX1_becomeLike, Cond.selects RX1 yX1_becomeLike yX1_becomeLike, Cond.code yX1_becomeLike cX1_becomeLike 2 none, Cond.methodLink RX1 63 yX2_becomeLike, Cond.instanceMethod yX2_becomeLike, Cond.selects RX2 yX2_becomeLike yX2_becomeLike, Cond.code yX2_becomeLike cX2_becomeLike 2 none, Cond.static yX3_copyRow, Cond.code yX3_copyRow cX3_copyRow 3 none, Cond.methodLink RX3 150 yX2_hasWork, Cond.methodLink RL 137 yX4_done, Cond.instanceMethod yX4_done, Cond.selects RX4 yX4_done yX4_done, Cond.code yX4_done cX4_done 4 (some .int), Cond.methodLink RX4 122 yX4_kept, Cond.instanceMethod yX4_kept, Cond.selects RX4 yX4_kept yX4_kept, Cond.code yX4_kept cX4_kept 1 (some (.array (.array .int))), Cond.classLink RX4 117 "[I", Cond.methodLink RX4 118 ⟨"[I", "clone", "()Ljava/lang/Object;"⟩]
def wsL_law0_r23 : List Cond := [Cond.sameMethod "[I" "java/lang/Object" "clone" "()Ljava/lang/Object;", Cond.native ⟨"java/lang/Object", "clone", "()Ljava/lang/Object;"⟩, Cond.instanceMethod ⟨"java/lang/Object", "clone", "()Ljava/lang/Object;"⟩, Cond.selects "[I" ⟨"[I", "clone", "()Ljava/lang/Object;"⟩ ⟨"java/lang/Object", "clone", "()Ljava/lang/Object;"⟩, Cond.methodLink RX4 126 yX4_bringBack, Cond.instanceMethod yX4_bringBack, Cond.selects RX4 yX4_bringBack yX4_bringBack, Cond.code yX4_bringBack cX4_bringBack 4 none, Cond.methodLink RL 138 yL_foresee, Cond.static yL_foresee, Cond.codeWith yL_foresee cL_foresee 5 (some .int) [(0, 10, 13, 15), (0, 10, 17, 13)], Cond.methodLink RL 70 yX3_foresee, Cond.instanceMethod yX3_foresee, Cond.selects RX3 yX3_foresee yX3_foresee, Cond.code yX3_foresee cX3_foresee 3 (some .int), Cond.methodLink RX3 153 yX1_knots, Cond.methodLink RX3 156 yX1_offPlan, Cond.methodLink RX3 159 yX1_tornRows, Cond.methodLink RL 140 yX4_foresee, Cond.instanceMethod yX4_foresee, Cond.selects RX4 yX4_foresee yX4_foresee, Cond.code yX4_foresee cX4_foresee 5 (some .int), Cond.methodLink RL 141 yX3_share, Cond.instanceMethod yX3_share]
def wsL_law0_r24 : List Cond := [Cond.selects RX3 yX3_share yX3_share, Cond.code yX3_share cX3_share 2 (some .double), Cond.methodLink RL 145 yX4_share, Cond.instanceMethod yX4_share, Cond.selects RX4 yX4_share yX4_share, Cond.code yX4_share cX4_share 2 (some .double), Cond.methodLink RL 146 yX3_digest, Cond.instanceMethod yX3_digest, Cond.selects RX3 yX3_digest yX3_digest, Cond.code yX3_digest cX3_digest 5 (some .long), Cond.constantLong RX3 162 (983), Cond.methodLink RX3 164 yX3_mix, Cond.static yX3_mix, Cond.code yX3_mix cX3_mix 3 (some .long), Cond.constantLong RX3 182 (31), Cond.methodLink RX3 168 yX2_mixInto, Cond.instanceMethod yX2_mixInto, Cond.selects RX2 yX2_mixInto yX2_mixInto, Cond.code yX2_mixInto cX2_mixInto 6 (some .long), Cond.methodLink RX2 83 yX2_number, Cond.methodLink RL 150 yX4_digest, Cond.instanceMethod yX4_digest, Cond.selects RX4 yX4_digest yX4_digest, Cond.code yX4_digest cX4_digest 7 (some .long)]
def wsL_law0_r25 : List Cond := [Cond.constantLong RX4 130 (983), Cond.constantLong RX4 132 (31)]
def wsL_law0 : List Cond := (wsL_law0_r1 ++ (wsL_law0_r2 ++ (wsL_law0_r3 ++ (wsL_law0_r4 ++ (wsL_law0_r5 ++ (wsL_law0_r6 ++ (wsL_law0_r7 ++ (wsL_law0_r8 ++ (wsL_law0_r9 ++ (wsL_law0_r10 ++ (wsL_law0_r11 ++ (wsL_law0_r12 ++ (wsL_law0_r13 ++ (wsL_law0_r14 ++ (wsL_law0_r15 ++ (wsL_law0_r16 ++ (wsL_law0_r17 ++ (wsL_law0_r18 ++ (wsL_law0_r19 ++ (wsL_law0_r20 ++ (wsL_law0_r21 ++ (wsL_law0_r22 ++ (wsL_law0_r23 ++ (wsL_law0_r24 ++ wsL_law0_r25)))))))))))))))))))))))) ++ wsX30 ++ wsX40 ++ wsX10 ++ wsX20 ++ wsX00 ++ ([] : List Cond)
def wsL_law : List Cond := wsL_law0 ++ (vx_atS RX3 176 "java/lang/IndexOutOfBoundsException" ["java/lang/RuntimeException", "java/lang/Exception"]).filter goodWord ++ (vx_atS RX3 181 "java/lang/IllegalArgumentException" ["java/lang/RuntimeException", "java/lang/Exception"]).filter goodWord ++ (vx_atS RX3 71 "java/lang/IllegalStateException" ["java/lang/RuntimeException", "java/lang/Exception"]).filter goodWord
set_option maxRecDepth 20000 in
theorem wsL_law_in0 : ∀ w ∈ wsL_law0, w ∈ lw_tbl := fun w h => (goodIn_p wsL_law0 [40, 43, 48, 54, 98, 567, 247, 250, 253, 324, 343, 200, 203, 207, 178, 349, 149, 352, 598, 601, 604, 608, 611, 614, 594, 359, 363, 171, 618, 372, 375, 623, 626, 630, 634, 383, 403, 638, 642, 410, 228, 646, 650, 418, 423, 654, 431, 196, 211, 215, 658, 662, 438, 168, 666, 447, 224, 232, 236, 670, 674, 677, 455, 681, 462, 158, 138, 142, 146, 164, 175, 183, 188, 685, 689, 693, 697, 701, 469, 705, 476, 481, 709, 713, 488, 492, 717, 499, 503, 721, 510, 514, 518, 522, 526, 530, 534, 725, 729, 733, 737, 741, 541, 545, 549, 552, 748, 752, 764, 561, 768, 134, 772, 153, 191, 220, 776] (by decide +kernel) (by decide +kernel) w h).1
theorem wsL_law_x0 : ∀ w ∈ (vx_atS RX3 176 "java/lang/IndexOutOfBoundsException" ["java/lang/RuntimeException", "java/lang/Exception"]).filter goodWord, w ∈ lw_tbl := by decide +kernel
theorem wsL_law_x1 : ∀ w ∈ (vx_atS RX3 181 "java/lang/IllegalArgumentException" ["java/lang/RuntimeException", "java/lang/Exception"]).filter goodWord, w ∈ lw_tbl := by decide +kernel
theorem wsL_law_x2 : ∀ w ∈ (vx_atS RX3 71 "java/lang/IllegalStateException" ["java/lang/RuntimeException", "java/lang/Exception"]).filter goodWord, w ∈ lw_tbl := by decide +kernel
theorem wsL_law_in : ∀ w ∈ wsL_law, w ∈ lw_tbl := fun w h => (List.mem_append.mp h).elim (fun h => (List.mem_append.mp h).elim (fun h => (List.mem_append.mp h).elim (fun h => wsL_law_in0 w h) (fun h => wsL_law_x0 w h)) (fun h => wsL_law_x1 w h)) (fun h => wsL_law_x2 w h)
theorem inlX0 : ∀ w ∈ wsX00, w ∈ wsL_law := fun _ h => List.mem_append_left _ (List.mem_append_left _ (List.mem_append_left _ (List.mem_append_left _ (List.mem_append_right _ h))))
theorem inX0 : ∀ w ∈ wsX00, w ∈ lw_tbl := fun w h => wsL_law_in w (inlX0 w h)
theorem inlX1 : ∀ w ∈ wsX10, w ∈ wsL_law := fun _ h => List.mem_append_left _ (List.mem_append_left _ (List.mem_append_left _ (List.mem_append_left _ (List.mem_append_left _ (List.mem_append_left _ (List.mem_append_right _ h))))))
theorem inX1 : ∀ w ∈ wsX10, w ∈ lw_tbl := fun w h => wsL_law_in w (inlX1 w h)
theorem inlX2 : ∀ w ∈ wsX20, w ∈ wsL_law := fun _ h => List.mem_append_left _ (List.mem_append_left _ (List.mem_append_left _ (List.mem_append_left _ (List.mem_append_left _ (List.mem_append_right _ h)))))
theorem inX2 : ∀ w ∈ wsX20, w ∈ lw_tbl := fun w h => wsL_law_in w (inlX2 w h)
theorem inlX3 : ∀ w ∈ wsX30, w ∈ wsL_law := fun _ h => List.mem_append_left _ (List.mem_append_left _ (List.mem_append_left _ (List.mem_append_left _ (List.mem_append_left _ (List.mem_append_left _ (List.mem_append_left _ (List.mem_append_left _ (List.mem_append_right _ h))))))))
theorem inX3 : ∀ w ∈ wsX30, w ∈ lw_tbl := fun w h => wsL_law_in w (inlX3 w h)
theorem inlX4 : ∀ w ∈ wsX40, w ∈ wsL_law := fun _ h => List.mem_append_left _ (List.mem_append_left _ (List.mem_append_left _ (List.mem_append_left _ (List.mem_append_left _ (List.mem_append_left _ (List.mem_append_left _ (List.mem_append_right _ h)))))))
theorem inX4 : ∀ w ∈ wsX40, w ∈ lw_tbl := fun w h => wsL_law_in w (inlX4 w h)
theorem inJx8e188 : ∀ w ∈ wsJx8e1880, w ∈ lw_tbl := by decide +kernel
theorem inJ9 : ∀ w ∈ wsJ90, w ∈ lw_tbl := by decide +kernel
theorem inJ0 : ∀ w ∈ wsJ00, w ∈ lw_tbl := by decide +kernel
theorem inJ10 : ∀ w ∈ wsJ100, w ∈ lw_tbl := by decide +kernel
theorem dX0_init_0 : decode cX0_init 0 = .ok (.aload_n 0, 1) := by decide +kernel
theorem dX0_init_1 : decode cX0_init 1 = .ok (.invokespecial 3, 3) := by decide +kernel
theorem dX0_init_4 : decode cX0_init 4 = .ok (.aload_n 0, 1) := by decide +kernel
theorem dX0_init_5 : decode cX0_init 5 = .ok (.bipush 8, 2) := by decide +kernel
theorem dX0_init_7 : decode cX0_init 7 = .ok (.newarray .int, 2) := by decide +kernel
theorem dX0_init_9 : decode cX0_init 9 = .ok (.putfield 9, 3) := by decide +kernel
theorem dX0_init_12 : decode cX0_init 12 = .ok (.iconst 0, 1) := by decide +kernel
theorem dX0_init_13 : decode cX0_init 13 = .ok (.istore_n 1, 1) := by decide +kernel
theorem dX0_init_14 : decode cX0_init 14 = .ok (.iload_n 1, 1) := by decide +kernel
theorem dX0_init_15 : decode cX0_init 15 = .ok (.aload_n 0, 1) := by decide +kernel
theorem dX0_init_16 : decode cX0_init 16 = .ok (.getfield 9, 3) := by decide +kernel
theorem dX0_init_19 : decode cX0_init 19 = .ok (.arraylength, 1) := by decide +kernel
theorem dX0_init_20 : decode cX0_init 20 = .ok (.if_icmp .ge 17, 3) := by decide +kernel
theorem dX0_init_23 : decode cX0_init 23 = .ok (.aload_n 0, 1) := by decide +kernel
theorem dX0_init_24 : decode cX0_init 24 = .ok (.getfield 9, 3) := by decide +kernel
theorem dX0_init_27 : decode cX0_init 27 = .ok (.iload_n 1, 1) := by decide +kernel
theorem dX0_init_28 : decode cX0_init 28 = .ok (.bipush 30, 2) := by decide +kernel
theorem dX0_init_30 : decode cX0_init 30 = .ok (.iastore, 1) := by decide +kernel
theorem dX0_init_31 : decode cX0_init 31 = .ok (.iinc 1 1, 3) := by decide +kernel
theorem dX0_init_34 : decode cX0_init 34 = .ok (.goto (-20), 3) := by decide +kernel
theorem dX0_init_37 : decode cX0_init 37 = .ok (.return_, 1) := by decide +kernel
set_option maxRecDepth 20000 in
theorem ggX0_fill_X3_at : GoodIn wsX0_fill wsX3_at := goodIn_r _ [8] (by decide +kernel) (by decide +kernel)
set_option maxRecDepth 20000 in
theorem gX0_fill_X3_at_n15 : GoodIn wsX0_fill (wsX3_at) := ggX0_fill_X3_at
set_option maxRecDepth 20000 in
theorem ggX0_fill_X3_put : GoodIn wsX0_fill wsX3_put := goodIn_r _ [10] (by decide +kernel) (by decide +kernel)
set_option maxRecDepth 20000 in
theorem gX0_fill_X3_put_n25 : GoodIn wsX0_fill (wsX3_put) := ggX0_fill_X3_put
theorem dX0_fill_0 : decode cX0_fill 0 = .ok (.sipush 200, 3) := by decide +kernel
theorem dX0_fill_3 : decode cX0_fill 3 = .ok (.aload_n 0, 1) := by decide +kernel
theorem dX0_fill_4 : decode cX0_fill 4 = .ok (.getfield 9, 3) := by decide +kernel
theorem dX0_fill_7 : decode cX0_fill 7 = .ok (.iload_n 1, 1) := by decide +kernel
theorem dX0_fill_8 : decode cX0_fill 8 = .ok (.invokestatic 15, 3) := by decide +kernel
theorem dX0_fill_11 : decode cX0_fill 11 = .ok (.iload_n 2, 1) := by decide +kernel
theorem dX0_fill_12 : decode cX0_fill 12 = .ok (.iadd, 1) := by decide +kernel
theorem dX0_fill_13 : decode cX0_fill 13 = .ok (.invokestatic 19, 3) := by decide +kernel
theorem dX0_fill_16 : decode cX0_fill 16 = .ok (.istore_n 3, 1) := by decide +kernel
theorem dX0_fill_17 : decode cX0_fill 17 = .ok (.aload_n 0, 1) := by decide +kernel
theorem dX0_fill_18 : decode cX0_fill 18 = .ok (.getfield 9, 3) := by decide +kernel
theorem dX0_fill_21 : decode cX0_fill 21 = .ok (.iload_n 1, 1) := by decide +kernel
theorem dX0_fill_22 : decode cX0_fill 22 = .ok (.iload_n 3, 1) := by decide +kernel
theorem dX0_fill_23 : decode cX0_fill 23 = .ok (.invokestatic 25, 3) := by decide +kernel
theorem dX0_fill_26 : decode cX0_fill 26 = .ok (.iload_n 3, 1) := by decide +kernel
theorem dX0_fill_27 : decode cX0_fill 27 = .ok (.ireturn, 1) := by decide +kernel
set_option maxRecDepth 20000 in
theorem ggX0_take_X3_at : GoodIn wsX0_take wsX3_at := goodIn_r _ [4] (by decide +kernel) (by decide +kernel)
set_option maxRecDepth 20000 in
theorem gX0_take_X3_at_n15 : GoodIn wsX0_take (wsX3_at) := ggX0_take_X3_at
set_option maxRecDepth 20000 in
theorem ggX0_take_X3_put : GoodIn wsX0_take wsX3_put := goodIn_r _ [6] (by decide +kernel) (by decide +kernel)
set_option maxRecDepth 20000 in
theorem gX0_take_X3_put_n25 : GoodIn wsX0_take (wsX3_put) := ggX0_take_X3_put
theorem dX0_take_0 : decode cX0_take 0 = .ok (.iconst 0, 1) := by decide +kernel
theorem dX0_take_1 : decode cX0_take 1 = .ok (.istore_n 2, 1) := by decide +kernel
theorem dX0_take_2 : decode cX0_take 2 = .ok (.iload_n 2, 1) := by decide +kernel
theorem dX0_take_3 : decode cX0_take 3 = .ok (.bipush 8, 2) := by decide +kernel
theorem dX0_take_5 : decode cX0_take 5 = .ok (.if_icmp .ge 45, 3) := by decide +kernel
theorem dX0_take_8 : decode cX0_take 8 = .ok (.iload_n 1, 1) := by decide +kernel
theorem dX0_take_9 : decode cX0_take 9 = .ok (.iload_n 2, 1) := by decide +kernel
theorem dX0_take_10 : decode cX0_take 10 = .ok (.iadd, 1) := by decide +kernel
theorem dX0_take_11 : decode cX0_take 11 = .ok (.bipush 8, 2) := by decide +kernel
theorem dX0_take_13 : decode cX0_take 13 = .ok (.irem, 1) := by decide +kernel
theorem dX0_take_14 : decode cX0_take 14 = .ok (.istore_n 3, 1) := by decide +kernel
theorem dX0_take_15 : decode cX0_take 15 = .ok (.aload_n 0, 1) := by decide +kernel
theorem dX0_take_16 : decode cX0_take 16 = .ok (.getfield 9, 3) := by decide +kernel
theorem dX0_take_19 : decode cX0_take 19 = .ok (.iload_n 3, 1) := by decide +kernel
theorem dX0_take_20 : decode cX0_take 20 = .ok (.invokestatic 15, 3) := by decide +kernel
theorem dX0_take_23 : decode cX0_take 23 = .ok (.istore 4, 2) := by decide +kernel
theorem dX0_take_25 : decode cX0_take 25 = .ok (.iload 4, 2) := by decide +kernel
theorem dX0_take_27 : decode cX0_take 27 = .ok (.ifCond .le 17, 3) := by decide +kernel
theorem dX0_take_30 : decode cX0_take 30 = .ok (.aload_n 0, 1) := by decide +kernel
theorem dX0_take_31 : decode cX0_take 31 = .ok (.getfield 9, 3) := by decide +kernel
theorem dX0_take_34 : decode cX0_take 34 = .ok (.iload_n 3, 1) := by decide +kernel
theorem dX0_take_35 : decode cX0_take 35 = .ok (.iload 4, 2) := by decide +kernel
theorem dX0_take_37 : decode cX0_take 37 = .ok (.iconst 1, 1) := by decide +kernel
theorem dX0_take_38 : decode cX0_take 38 = .ok (.isub, 1) := by decide +kernel
theorem dX0_take_39 : decode cX0_take 39 = .ok (.invokestatic 25, 3) := by decide +kernel
theorem dX0_take_42 : decode cX0_take 42 = .ok (.iload_n 3, 1) := by decide +kernel
theorem dX0_take_43 : decode cX0_take 43 = .ok (.ireturn, 1) := by decide +kernel
theorem dX0_take_44 : decode cX0_take 44 = .ok (.iinc 2 1, 3) := by decide +kernel
theorem dX0_take_47 : decode cX0_take 47 = .ok (.goto (-45), 3) := by decide +kernel
theorem dX0_take_50 : decode cX0_take 50 = .ok (.iconst (-1), 1) := by decide +kernel
theorem dX0_take_51 : decode cX0_take 51 = .ok (.ireturn, 1) := by decide +kernel
set_option maxRecDepth 20000 in
theorem ggX0_inAll_X3_at : GoodIn wsX0_inAll wsX3_at := goodIn_r _ [4] (by decide +kernel) (by decide +kernel)
set_option maxRecDepth 20000 in
theorem gX0_inAll_X3_at_n15 : GoodIn wsX0_inAll (wsX3_at) := ggX0_inAll_X3_at
theorem dX0_inAll_0 : decode cX0_inAll 0 = .ok (.iconst 0, 1) := by decide +kernel
theorem dX0_inAll_1 : decode cX0_inAll 1 = .ok (.istore_n 1, 1) := by decide +kernel
theorem dX0_inAll_2 : decode cX0_inAll 2 = .ok (.iconst 0, 1) := by decide +kernel
theorem dX0_inAll_3 : decode cX0_inAll 3 = .ok (.istore_n 2, 1) := by decide +kernel
theorem dX0_inAll_4 : decode cX0_inAll 4 = .ok (.iload_n 2, 1) := by decide +kernel
theorem dX0_inAll_5 : decode cX0_inAll 5 = .ok (.bipush 8, 2) := by decide +kernel
theorem dX0_inAll_7 : decode cX0_inAll 7 = .ok (.if_icmp .ge 20, 3) := by decide +kernel
theorem dX0_inAll_10 : decode cX0_inAll 10 = .ok (.iload_n 1, 1) := by decide +kernel
theorem dX0_inAll_11 : decode cX0_inAll 11 = .ok (.aload_n 0, 1) := by decide +kernel
theorem dX0_inAll_12 : decode cX0_inAll 12 = .ok (.getfield 9, 3) := by decide +kernel
theorem dX0_inAll_15 : decode cX0_inAll 15 = .ok (.iload_n 2, 1) := by decide +kernel
theorem dX0_inAll_16 : decode cX0_inAll 16 = .ok (.invokestatic 15, 3) := by decide +kernel
theorem dX0_inAll_19 : decode cX0_inAll 19 = .ok (.iadd, 1) := by decide +kernel
theorem dX0_inAll_20 : decode cX0_inAll 20 = .ok (.istore_n 1, 1) := by decide +kernel
theorem dX0_inAll_21 : decode cX0_inAll 21 = .ok (.iinc 2 1, 3) := by decide +kernel
theorem dX0_inAll_24 : decode cX0_inAll 24 = .ok (.goto (-20), 3) := by decide +kernel
theorem dX0_inAll_27 : decode cX0_inAll 27 = .ok (.iload_n 1, 1) := by decide +kernel
theorem dX0_inAll_28 : decode cX0_inAll 28 = .ok (.ireturn, 1) := by decide +kernel
set_option maxRecDepth 20000 in
theorem ggX0_empty_X3_at : GoodIn wsX0_empty wsX3_at := goodIn_r _ [4] (by decide +kernel) (by decide +kernel)
set_option maxRecDepth 20000 in
theorem gX0_empty_X3_at_n15 : GoodIn wsX0_empty (wsX3_at) := ggX0_empty_X3_at
theorem dX0_empty_0 : decode cX0_empty 0 = .ok (.iconst 0, 1) := by decide +kernel
theorem dX0_empty_1 : decode cX0_empty 1 = .ok (.istore_n 1, 1) := by decide +kernel
theorem dX0_empty_2 : decode cX0_empty 2 = .ok (.iconst 0, 1) := by decide +kernel
theorem dX0_empty_3 : decode cX0_empty 3 = .ok (.istore_n 2, 1) := by decide +kernel
theorem dX0_empty_4 : decode cX0_empty 4 = .ok (.iload_n 2, 1) := by decide +kernel
theorem dX0_empty_5 : decode cX0_empty 5 = .ok (.bipush 8, 2) := by decide +kernel
theorem dX0_empty_7 : decode cX0_empty 7 = .ok (.if_icmp .ge 23, 3) := by decide +kernel
theorem dX0_empty_10 : decode cX0_empty 10 = .ok (.aload_n 0, 1) := by decide +kernel
theorem dX0_empty_11 : decode cX0_empty 11 = .ok (.getfield 9, 3) := by decide +kernel
theorem dX0_empty_14 : decode cX0_empty 14 = .ok (.iload_n 2, 1) := by decide +kernel
theorem dX0_empty_15 : decode cX0_empty 15 = .ok (.invokestatic 15, 3) := by decide +kernel
theorem dX0_empty_18 : decode cX0_empty 18 = .ok (.ifCond .ne 6, 3) := by decide +kernel
theorem dX0_empty_21 : decode cX0_empty 21 = .ok (.iinc 1 1, 3) := by decide +kernel
theorem dX0_empty_24 : decode cX0_empty 24 = .ok (.iinc 2 1, 3) := by decide +kernel
theorem dX0_empty_27 : decode cX0_empty 27 = .ok (.goto (-23), 3) := by decide +kernel
theorem dX0_empty_30 : decode cX0_empty 30 = .ok (.iload_n 1, 1) := by decide +kernel
theorem dX0_empty_31 : decode cX0_empty 31 = .ok (.ireturn, 1) := by decide +kernel
set_option maxRecDepth 20000 in
theorem ggX1_init_X2_init : GoodIn wsX1_init wsX2_init := goodIn_r _ [17, 18, 2, 3, 19, 20, 21, 22, 23, 24, 25, 26, 27, 28, 34, 35, 36, 37, 38, 39, 40, 41, 42] (by decide +kernel) (by decide +kernel)
set_option maxRecDepth 20000 in
theorem gX1_init_X2_init : GoodIn wsX1_init (wsX2_init) := ggX1_init_X2_init
set_option maxRecDepth 20000 in
theorem ggX1_init_X0_init : GoodIn wsX1_init wsX0_init := goodIn_r _ [31, 32, 2, 3, 19, 33, 48] (by decide +kernel) (by decide +kernel)
set_option maxRecDepth 20000 in
theorem gX1_init_X0_init : GoodIn wsX1_init (wsX0_init) := ggX1_init_X0_init
theorem dX1_init_0 : decode cX1_init 0 = .ok (.aload_n 0, 1) := by decide +kernel
theorem dX1_init_1 : decode cX1_init 1 = .ok (.invokespecial 3, 3) := by decide +kernel
theorem dX1_init_4 : decode cX1_init 4 = .ok (.aload_n 0, 1) := by decide +kernel
theorem dX1_init_5 : decode cX1_init 5 = .ok (.new 9, 3) := by decide +kernel
theorem dX1_init_8 : decode cX1_init 8 = .ok (.dup, 1) := by decide +kernel
theorem dX1_init_9 : decode cX1_init 9 = .ok (.iconst 0, 1) := by decide +kernel
theorem dX1_init_10 : decode cX1_init 10 = .ok (.invokespecial 11, 3) := by decide +kernel
theorem dX1_init_13 : decode cX1_init 13 = .ok (.putfield 14, 3) := by decide +kernel
theorem dX1_init_16 : decode cX1_init 16 = .ok (.aload_n 0, 1) := by decide +kernel
theorem dX1_init_17 : decode cX1_init 17 = .ok (.new 9, 3) := by decide +kernel
theorem dX1_init_20 : decode cX1_init 20 = .ok (.dup, 1) := by decide +kernel
theorem dX1_init_21 : decode cX1_init 21 = .ok (.iconst 1, 1) := by decide +kernel
theorem dX1_init_22 : decode cX1_init 22 = .ok (.invokespecial 11, 3) := by decide +kernel
theorem dX1_init_25 : decode cX1_init 25 = .ok (.putfield 20, 3) := by decide +kernel
theorem dX1_init_28 : decode cX1_init 28 = .ok (.aload_n 0, 1) := by decide +kernel
theorem dX1_init_29 : decode cX1_init 29 = .ok (.new 23, 3) := by decide +kernel
theorem dX1_init_32 : decode cX1_init 32 = .ok (.dup, 1) := by decide +kernel
theorem dX1_init_33 : decode cX1_init 33 = .ok (.invokespecial 25, 3) := by decide +kernel
theorem dX1_init_36 : decode cX1_init 36 = .ok (.putfield 26, 3) := by decide +kernel
theorem dX1_init_39 : decode cX1_init 39 = .ok (.aload_n 0, 1) := by decide +kernel
theorem dX1_init_40 : decode cX1_init 40 = .ok (.iconst 0, 1) := by decide +kernel
theorem dX1_init_41 : decode cX1_init 41 = .ok (.putfield 30, 3) := by decide +kernel
theorem dX1_init_44 : decode cX1_init 44 = .ok (.aload_n 0, 1) := by decide +kernel
theorem dX1_init_45 : decode cX1_init 45 = .ok (.iconst 0, 1) := by decide +kernel
theorem dX1_init_46 : decode cX1_init 46 = .ok (.putfield 34, 3) := by decide +kernel
theorem dX1_init_49 : decode cX1_init 49 = .ok (.return_, 1) := by decide +kernel
theorem dX1_weaverAt_0 : decode cX1_weaverAt 0 = .ok (.iload_n 1, 1) := by decide +kernel
theorem dX1_weaverAt_1 : decode cX1_weaverAt 1 = .ok (.ifCond .ne 10, 3) := by decide +kernel
theorem dX1_weaverAt_4 : decode cX1_weaverAt 4 = .ok (.aload_n 0, 1) := by decide +kernel
theorem dX1_weaverAt_5 : decode cX1_weaverAt 5 = .ok (.getfield 14, 3) := by decide +kernel
theorem dX1_weaverAt_8 : decode cX1_weaverAt 8 = .ok (.goto 7, 3) := by decide +kernel
theorem dX1_weaverAt_11 : decode cX1_weaverAt 11 = .ok (.aload_n 0, 1) := by decide +kernel
theorem dX1_weaverAt_12 : decode cX1_weaverAt 12 = .ok (.getfield 20, 3) := by decide +kernel
theorem dX1_weaverAt_15 : decode cX1_weaverAt 15 = .ok (.areturn, 1) := by decide +kernel
set_option maxRecDepth 20000 in
theorem ggX1_ownerOf_X3_sideOf : GoodIn wsX1_ownerOf wsX3_sideOf := goodIn_r _ [3] (by decide +kernel) (by decide +kernel)
set_option maxRecDepth 20000 in
theorem gX1_ownerOf_X3_sideOf_n37 : GoodIn wsX1_ownerOf (wsX3_sideOf) := ggX1_ownerOf_X3_sideOf
set_option maxRecDepth 20000 in
theorem ggX1_ownerOf_X1_weaverAt : GoodIn wsX1_ownerOf wsX1_weaverAt := goodIn_r _ [8, 9, 10, 11, 12, 13, 14, 15] (by decide +kernel) (by decide +kernel)
set_option maxRecDepth 20000 in
theorem gX1_ownerOf_X1_weaverAt : GoodIn wsX1_ownerOf (wsV RX1 41 RX1 yX1_weaverAt wsX1_weaverAt) := goodIn_app (goodIn_of _ (by decide +kernel)) ggX1_ownerOf_X1_weaverAt
theorem dX1_ownerOf_0 : decode cX1_ownerOf 0 = .ok (.aload_n 0, 1) := by decide +kernel
theorem dX1_ownerOf_1 : decode cX1_ownerOf 1 = .ok (.iload_n 1, 1) := by decide +kernel
theorem dX1_ownerOf_2 : decode cX1_ownerOf 2 = .ok (.invokestatic 37, 3) := by decide +kernel
theorem dX1_ownerOf_5 : decode cX1_ownerOf 5 = .ok (.invokevirtual 41, 3) := by decide +kernel
theorem dX1_ownerOf_8 : decode cX1_ownerOf 8 = .ok (.areturn, 1) := by decide +kernel
set_option maxRecDepth 20000 in
theorem ggX1_knotAt_X1_ownerOf : GoodIn wsX1_knotAt wsX1_ownerOf := goodIn_r _ [5, 6, 7, 8, 9, 10, 11, 4, 12, 13, 14, 26, 27, 28, 29, 30] (by decide +kernel) (by decide +kernel)
set_option maxRecDepth 20000 in
theorem gX1_knotAt_X1_ownerOf : GoodIn wsX1_knotAt (wsV RX1 45 RX1 yX1_ownerOf wsX1_ownerOf) := goodIn_app (goodIn_of _ (by decide +kernel)) ggX1_knotAt_X1_ownerOf
set_option maxRecDepth 20000 in
theorem ggX1_knotAt_X3_placeOf : GoodIn wsX1_knotAt wsX3_placeOf := goodIn_r _ [16] (by decide +kernel) (by decide +kernel)
set_option maxRecDepth 20000 in
theorem gX1_knotAt_X3_placeOf_n48 : GoodIn wsX1_knotAt (wsX3_placeOf) := ggX1_knotAt_X3_placeOf
set_option maxRecDepth 20000 in
theorem ggX1_knotAt_X2_knotAtPlace : GoodIn wsX1_knotAt wsX2_knotAtPlace := goodIn_r _ [21, 22, 23, 24, 7, 25, 31, 32, 33, 34, 35, 36, 37, 38, 39] (by decide +kernel) (by decide +kernel)
set_option maxRecDepth 20000 in
theorem gX1_knotAt_X2_knotAtPlace : GoodIn wsX1_knotAt (wsV RX1 52 RX2 yX2_knotAtPlace wsX2_knotAtPlace) := goodIn_app (goodIn_of _ (by decide +kernel)) ggX1_knotAt_X2_knotAtPlace
theorem dX1_knotAt_0 : decode cX1_knotAt 0 = .ok (.aload_n 0, 1) := by decide +kernel
theorem dX1_knotAt_1 : decode cX1_knotAt 1 = .ok (.iload_n 1, 1) := by decide +kernel
theorem dX1_knotAt_2 : decode cX1_knotAt 2 = .ok (.invokevirtual 45, 3) := by decide +kernel
theorem dX1_knotAt_5 : decode cX1_knotAt 5 = .ok (.iload_n 1, 1) := by decide +kernel
theorem dX1_knotAt_6 : decode cX1_knotAt 6 = .ok (.iload_n 2, 1) := by decide +kernel
theorem dX1_knotAt_7 : decode cX1_knotAt 7 = .ok (.invokestatic 48, 3) := by decide +kernel
theorem dX1_knotAt_10 : decode cX1_knotAt 10 = .ok (.invokevirtual 52, 3) := by decide +kernel
theorem dX1_knotAt_13 : decode cX1_knotAt 13 = .ok (.ireturn, 1) := by decide +kernel
set_option maxRecDepth 20000 in
theorem ggX1_planAt_X1_ownerOf : GoodIn wsX1_planAt wsX1_ownerOf := goodIn_r _ [5, 6, 7, 8, 9, 10, 11, 4, 12, 13, 14, 28, 29, 30, 31, 32] (by decide +kernel) (by decide +kernel)
set_option maxRecDepth 20000 in
theorem gX1_planAt_X1_ownerOf : GoodIn wsX1_planAt (wsV RX1 45 RX1 yX1_ownerOf wsX1_ownerOf) := goodIn_app (goodIn_of _ (by decide +kernel)) ggX1_planAt_X1_ownerOf
set_option maxRecDepth 20000 in
theorem ggX1_planAt_X3_placeOf : GoodIn wsX1_planAt wsX3_placeOf := goodIn_r _ [16] (by decide +kernel) (by decide +kernel)
set_option maxRecDepth 20000 in
theorem gX1_planAt_X3_placeOf_n48 : GoodIn wsX1_planAt (wsX3_placeOf) := ggX1_planAt_X3_placeOf
set_option maxRecDepth 20000 in
theorem ggX1_planAt_X3_at : GoodIn wsX1_planAt wsX3_at := goodIn_r _ [18] (by decide +kernel) (by decide +kernel)
set_option maxRecDepth 20000 in
theorem gX1_planAt_X3_at_n59 : GoodIn wsX1_planAt (wsX3_at) := ggX1_planAt_X3_at
theorem dX1_planAt_0 : decode cX1_planAt 0 = .ok (.aload_n 0, 1) := by decide +kernel
theorem dX1_planAt_1 : decode cX1_planAt 1 = .ok (.iload_n 1, 1) := by decide +kernel
theorem dX1_planAt_2 : decode cX1_planAt 2 = .ok (.invokevirtual 45, 3) := by decide +kernel
theorem dX1_planAt_5 : decode cX1_planAt 5 = .ok (.getfield 55, 3) := by decide +kernel
theorem dX1_planAt_8 : decode cX1_planAt 8 = .ok (.iload_n 1, 1) := by decide +kernel
theorem dX1_planAt_9 : decode cX1_planAt 9 = .ok (.iload_n 2, 1) := by decide +kernel
theorem dX1_planAt_10 : decode cX1_planAt 10 = .ok (.invokestatic 48, 3) := by decide +kernel
theorem dX1_planAt_13 : decode cX1_planAt 13 = .ok (.invokestatic 59, 3) := by decide +kernel
theorem dX1_planAt_16 : decode cX1_planAt 16 = .ok (.ireturn, 1) := by decide +kernel
set_option maxRecDepth 20000 in
theorem ggX1_becomeLike_X2_becomeLike : GoodIn wsX1_becomeLike wsX2_becomeLike := goodIn_r _ [10, 11, 12, 13, 14, 15, 16, 17, 18, 19, 20, 21, 28, 29, 30, 31, 32, 33, 34, 35, 36] (by decide +kernel) (by decide +kernel)
set_option maxRecDepth 20000 in
theorem gX1_becomeLike_X2_becomeLike : GoodIn wsX1_becomeLike (wsV RX1 63 RX2 yX2_becomeLike wsX2_becomeLike) := goodIn_app (goodIn_of _ (by decide +kernel)) ggX1_becomeLike_X2_becomeLike
set_option maxRecDepth 20000 in
theorem ggX1_becomeLike_X3_copyRow : GoodIn wsX1_becomeLike wsX3_copyRow := goodIn_r _ [21] (by decide +kernel) (by decide +kernel)
set_option maxRecDepth 20000 in
theorem gX1_becomeLike_X3_copyRow_n70 : GoodIn wsX1_becomeLike (wsX3_copyRow) := ggX1_becomeLike_X3_copyRow
theorem dX1_becomeLike_0 : decode cX1_becomeLike 0 = .ok (.aload_n 0, 1) := by decide +kernel
theorem dX1_becomeLike_1 : decode cX1_becomeLike 1 = .ok (.getfield 14, 3) := by decide +kernel
theorem dX1_becomeLike_4 : decode cX1_becomeLike 4 = .ok (.aload_n 1, 1) := by decide +kernel
theorem dX1_becomeLike_5 : decode cX1_becomeLike 5 = .ok (.getfield 14, 3) := by decide +kernel
theorem dX1_becomeLike_8 : decode cX1_becomeLike 8 = .ok (.invokevirtual 63, 3) := by decide +kernel
theorem dX1_becomeLike_11 : decode cX1_becomeLike 11 = .ok (.aload_n 0, 1) := by decide +kernel
theorem dX1_becomeLike_12 : decode cX1_becomeLike 12 = .ok (.getfield 20, 3) := by decide +kernel
theorem dX1_becomeLike_15 : decode cX1_becomeLike 15 = .ok (.aload_n 1, 1) := by decide +kernel
theorem dX1_becomeLike_16 : decode cX1_becomeLike 16 = .ok (.getfield 20, 3) := by decide +kernel
theorem dX1_becomeLike_19 : decode cX1_becomeLike 19 = .ok (.invokevirtual 63, 3) := by decide +kernel
theorem dX1_becomeLike_22 : decode cX1_becomeLike 22 = .ok (.aload_n 1, 1) := by decide +kernel
theorem dX1_becomeLike_23 : decode cX1_becomeLike 23 = .ok (.getfield 26, 3) := by decide +kernel
theorem dX1_becomeLike_26 : decode cX1_becomeLike 26 = .ok (.getfield 67, 3) := by decide +kernel
theorem dX1_becomeLike_29 : decode cX1_becomeLike 29 = .ok (.aload_n 0, 1) := by decide +kernel
theorem dX1_becomeLike_30 : decode cX1_becomeLike 30 = .ok (.getfield 26, 3) := by decide +kernel
theorem dX1_becomeLike_33 : decode cX1_becomeLike 33 = .ok (.getfield 67, 3) := by decide +kernel
theorem dX1_becomeLike_36 : decode cX1_becomeLike 36 = .ok (.invokestatic 70, 3) := by decide +kernel
theorem dX1_becomeLike_39 : decode cX1_becomeLike 39 = .ok (.aload_n 0, 1) := by decide +kernel
theorem dX1_becomeLike_40 : decode cX1_becomeLike 40 = .ok (.aload_n 1, 1) := by decide +kernel
theorem dX1_becomeLike_41 : decode cX1_becomeLike 41 = .ok (.getfield 30, 3) := by decide +kernel
theorem dX1_becomeLike_44 : decode cX1_becomeLike 44 = .ok (.putfield 30, 3) := by decide +kernel
theorem dX1_becomeLike_47 : decode cX1_becomeLike 47 = .ok (.aload_n 0, 1) := by decide +kernel
theorem dX1_becomeLike_48 : decode cX1_becomeLike 48 = .ok (.aload_n 1, 1) := by decide +kernel
theorem dX1_becomeLike_49 : decode cX1_becomeLike 49 = .ok (.getfield 34, 3) := by decide +kernel
theorem dX1_becomeLike_52 : decode cX1_becomeLike 52 = .ok (.putfield 34, 3) := by decide +kernel
theorem dX1_becomeLike_55 : decode cX1_becomeLike 55 = .ok (.return_, 1) := by decide +kernel
set_option maxRecDepth 20000 in
theorem ggX1_letGoBy_X2_workAnHour : GoodIn wsX1_letGoBy wsX2_workAnHour := goodIn_r _ [9, 10, 11, 12, 13, 8, 14, 15, 16, 17, 18, 19, 20, 21, 22, 23, 24, 25, 26, 27, 28, 29, 30, 31, 32, 33, 34, 35, 36, 37, 38, 39, 40, 41, 42, 43, 49, 50, 51, 52, 53, 54, 55, 56, 57, 58] (by decide +kernel) (by decide +kernel)
set_option maxRecDepth 20000 in
theorem gX1_letGoBy_X2_workAnHour : GoodIn wsX1_letGoBy (wsV RX1 74 RX2 yX2_workAnHour wsX2_workAnHour) := goodIn_app (goodIn_of _ (by decide +kernel)) ggX1_letGoBy_X2_workAnHour
theorem dX1_letGoBy_0 : decode cX1_letGoBy 0 = .ok (.iconst 0, 1) := by decide +kernel
theorem dX1_letGoBy_1 : decode cX1_letGoBy 1 = .ok (.istore_n 2, 1) := by decide +kernel
theorem dX1_letGoBy_2 : decode cX1_letGoBy 2 = .ok (.iconst 0, 1) := by decide +kernel
theorem dX1_letGoBy_3 : decode cX1_letGoBy 3 = .ok (.istore_n 3, 1) := by decide +kernel
theorem dX1_letGoBy_4 : decode cX1_letGoBy 4 = .ok (.iload_n 3, 1) := by decide +kernel
theorem dX1_letGoBy_5 : decode cX1_letGoBy 5 = .ok (.iload_n 1, 1) := by decide +kernel
theorem dX1_letGoBy_6 : decode cX1_letGoBy 6 = .ok (.if_icmp .ge 47, 3) := by decide +kernel
theorem dX1_letGoBy_9 : decode cX1_letGoBy 9 = .ok (.iload_n 2, 1) := by decide +kernel
theorem dX1_letGoBy_10 : decode cX1_letGoBy 10 = .ok (.aload_n 0, 1) := by decide +kernel
theorem dX1_letGoBy_11 : decode cX1_letGoBy 11 = .ok (.getfield 14, 3) := by decide +kernel
theorem dX1_letGoBy_14 : decode cX1_letGoBy 14 = .ok (.aload_n 0, 1) := by decide +kernel
theorem dX1_letGoBy_15 : decode cX1_letGoBy 15 = .ok (.getfield 26, 3) := by decide +kernel
theorem dX1_letGoBy_18 : decode cX1_letGoBy 18 = .ok (.invokevirtual 74, 3) := by decide +kernel
theorem dX1_letGoBy_21 : decode cX1_letGoBy 21 = .ok (.iadd, 1) := by decide +kernel
theorem dX1_letGoBy_22 : decode cX1_letGoBy 22 = .ok (.istore_n 2, 1) := by decide +kernel
theorem dX1_letGoBy_23 : decode cX1_letGoBy 23 = .ok (.iload_n 2, 1) := by decide +kernel
theorem dX1_letGoBy_24 : decode cX1_letGoBy 24 = .ok (.aload_n 0, 1) := by decide +kernel
theorem dX1_letGoBy_25 : decode cX1_letGoBy 25 = .ok (.getfield 20, 3) := by decide +kernel
theorem dX1_letGoBy_28 : decode cX1_letGoBy 28 = .ok (.aload_n 0, 1) := by decide +kernel
theorem dX1_letGoBy_29 : decode cX1_letGoBy 29 = .ok (.getfield 26, 3) := by decide +kernel
theorem dX1_letGoBy_32 : decode cX1_letGoBy 32 = .ok (.invokevirtual 74, 3) := by decide +kernel
theorem dX1_letGoBy_35 : decode cX1_letGoBy 35 = .ok (.iadd, 1) := by decide +kernel
theorem dX1_letGoBy_36 : decode cX1_letGoBy 36 = .ok (.istore_n 2, 1) := by decide +kernel
theorem dX1_letGoBy_37 : decode cX1_letGoBy 37 = .ok (.aload_n 0, 1) := by decide +kernel
theorem dX1_letGoBy_38 : decode cX1_letGoBy 38 = .ok (.dup, 1) := by decide +kernel
theorem dX1_letGoBy_39 : decode cX1_letGoBy 39 = .ok (.getfield 30, 3) := by decide +kernel
theorem dX1_letGoBy_42 : decode cX1_letGoBy 42 = .ok (.iconst 1, 1) := by decide +kernel
theorem dX1_letGoBy_43 : decode cX1_letGoBy 43 = .ok (.iadd, 1) := by decide +kernel
theorem dX1_letGoBy_44 : decode cX1_letGoBy 44 = .ok (.putfield 30, 3) := by decide +kernel
theorem dX1_letGoBy_47 : decode cX1_letGoBy 47 = .ok (.iinc 3 1, 3) := by decide +kernel
theorem dX1_letGoBy_50 : decode cX1_letGoBy 50 = .ok (.goto (-46), 3) := by decide +kernel
theorem dX1_letGoBy_53 : decode cX1_letGoBy 53 = .ok (.iload_n 2, 1) := by decide +kernel
theorem dX1_letGoBy_54 : decode cX1_letGoBy 54 = .ok (.ireturn, 1) := by decide +kernel
set_option maxRecDepth 20000 in
theorem ggX1_number_X1_knots : GoodIn wsX1_number wsX1_knots := goodIn_r _ [8, 9, 10, 54, 55, 56, 57, 58, 59, 60, 61, 62, 63, 64, 65, 66, 67] (by decide +kernel) (by decide +kernel)
set_option maxRecDepth 20000 in
theorem gX1_number_X1_knots : GoodIn wsX1_number (wsV RX1 78 RX1 yX1_knots wsX1_knots) := goodIn_app (goodIn_of _ (by decide +kernel)) ggX1_number_X1_knots
set_option maxRecDepth 20000 in
theorem ggX1_number_X1_offPlan : GoodIn wsX1_number wsX1_offPlan := goodIn_r _ [14, 9, 10, 15, 16, 17, 18, 19, 20, 21, 22, 23, 24, 25, 54, 55, 56, 57, 58, 59, 60, 61, 62, 63, 64, 65, 66, 67] (by decide +kernel) (by decide +kernel)
set_option maxRecDepth 20000 in
theorem gX1_number_X1_offPlan : GoodIn wsX1_number (wsV RX1 82 RX1 yX1_offPlan wsX1_offPlan) := goodIn_app (goodIn_of _ (by decide +kernel)) ggX1_number_X1_offPlan
set_option maxRecDepth 20000 in
theorem ggX1_number_X1_rowsDone : GoodIn wsX1_number wsX1_rowsDone := goodIn_r _ [29, 9, 10, 30, 31, 32, 33, 34, 35, 36, 18, 37, 20, 54, 55, 56, 57, 58, 59, 60, 61, 62, 63, 64, 65, 66, 67] (by decide +kernel) (by decide +kernel)
set_option maxRecDepth 20000 in
theorem gX1_number_X1_rowsDone : GoodIn wsX1_number (wsV RX1 85 RX1 yX1_rowsDone wsX1_rowsDone) := goodIn_app (goodIn_of _ (by decide +kernel)) ggX1_number_X1_rowsDone
set_option maxRecDepth 20000 in
theorem ggX1_number_X1_tornRows : GoodIn wsX1_number wsX1_tornRows := goodIn_r _ [41, 9, 10, 26, 27, 28, 7, 29, 30, 31, 32, 33, 34, 35, 36, 18, 37, 20, 42, 24, 43, 23, 25, 54, 55, 56, 57, 58, 59, 60, 61, 62, 63, 64, 65, 66, 67] (by decide +kernel) (by decide +kernel)
set_option maxRecDepth 20000 in
theorem gX1_number_X1_tornRows : GoodIn wsX1_number (wsV RX1 88 RX1 yX1_tornRows wsX1_tornRows) := goodIn_app (goodIn_of _ (by decide +kernel)) ggX1_number_X1_tornRows
set_option maxRecDepth 20000 in
theorem ggX1_number_X0_inAll : GoodIn wsX1_number wsX0_inAll := goodIn_r _ [48, 49, 23, 24, 25, 68] (by decide +kernel) (by decide +kernel)
set_option maxRecDepth 20000 in
theorem gX1_number_X0_inAll : GoodIn wsX1_number (wsV RX1 91 RX0 yX0_inAll wsX0_inAll) := goodIn_app (goodIn_of _ (by decide +kernel)) ggX1_number_X0_inAll
set_option maxRecDepth 20000 in
theorem ggX1_number_X0_empty : GoodIn wsX1_number wsX0_empty := goodIn_r _ [53, 49, 23, 24, 25, 68] (by decide +kernel) (by decide +kernel)
set_option maxRecDepth 20000 in
theorem gX1_number_X0_empty : GoodIn wsX1_number (wsV RX1 94 RX0 yX0_empty wsX0_empty) := goodIn_app (goodIn_of _ (by decide +kernel)) ggX1_number_X0_empty
theorem dX1_number_0 : decode cX1_number 0 = .ok (.iload_n 1, 1) := by decide +kernel
theorem dX1_number_1 : decode cX1_number 1 = .ok (.tableswitch 84 0 6 #[43, 48, 53, 58, 63, 68, 76], 43) := by decide +kernel
theorem dX1_number_44 : decode cX1_number 44 = .ok (.aload_n 0, 1) := by decide +kernel
theorem dX1_number_45 : decode cX1_number 45 = .ok (.getfield 30, 3) := by decide +kernel
theorem dX1_number_48 : decode cX1_number 48 = .ok (.ireturn, 1) := by decide +kernel
theorem dX1_number_49 : decode cX1_number 49 = .ok (.aload_n 0, 1) := by decide +kernel
theorem dX1_number_50 : decode cX1_number 50 = .ok (.invokevirtual 78, 3) := by decide +kernel
theorem dX1_number_53 : decode cX1_number 53 = .ok (.ireturn, 1) := by decide +kernel
theorem dX1_number_54 : decode cX1_number 54 = .ok (.aload_n 0, 1) := by decide +kernel
theorem dX1_number_55 : decode cX1_number 55 = .ok (.invokevirtual 82, 3) := by decide +kernel
theorem dX1_number_58 : decode cX1_number 58 = .ok (.ireturn, 1) := by decide +kernel
theorem dX1_number_59 : decode cX1_number 59 = .ok (.aload_n 0, 1) := by decide +kernel
theorem dX1_number_60 : decode cX1_number 60 = .ok (.invokevirtual 85, 3) := by decide +kernel
theorem dX1_number_63 : decode cX1_number 63 = .ok (.ireturn, 1) := by decide +kernel
theorem dX1_number_64 : decode cX1_number 64 = .ok (.aload_n 0, 1) := by decide +kernel
theorem dX1_number_65 : decode cX1_number 65 = .ok (.invokevirtual 88, 3) := by decide +kernel
theorem dX1_number_68 : decode cX1_number 68 = .ok (.ireturn, 1) := by decide +kernel
theorem dX1_number_69 : decode cX1_number 69 = .ok (.aload_n 0, 1) := by decide +kernel
theorem dX1_number_70 : decode cX1_number 70 = .ok (.getfield 26, 3) := by decide +kernel
theorem dX1_number_73 : decode cX1_number 73 = .ok (.invokevirtual 91, 3) := by decide +kernel
theorem dX1_number_76 : decode cX1_number 76 = .ok (.ireturn, 1) := by decide +kernel
theorem dX1_number_77 : decode cX1_number 77 = .ok (.aload_n 0, 1) := by decide +kernel
theorem dX1_number_78 : decode cX1_number 78 = .ok (.getfield 26, 3) := by decide +kernel
theorem dX1_number_81 : decode cX1_number 81 = .ok (.invokevirtual 94, 3) := by decide +kernel
theorem dX1_number_84 : decode cX1_number 84 = .ok (.ireturn, 1) := by decide +kernel
theorem dX1_number_85 : decode cX1_number 85 = .ok (.aload_n 0, 1) := by decide +kernel
theorem dX1_number_86 : decode cX1_number 86 = .ok (.getfield 34, 3) := by decide +kernel
theorem dX1_number_89 : decode cX1_number 89 = .ok (.ireturn, 1) := by decide +kernel
theorem dX1_knots_0 : decode cX1_knots 0 = .ok (.aload_n 0, 1) := by decide +kernel
theorem dX1_knots_1 : decode cX1_knots 1 = .ok (.getfield 14, 3) := by decide +kernel
theorem dX1_knots_4 : decode cX1_knots 4 = .ok (.getfield 97, 3) := by decide +kernel
theorem dX1_knots_7 : decode cX1_knots 7 = .ok (.aload_n 0, 1) := by decide +kernel
theorem dX1_knots_8 : decode cX1_knots 8 = .ok (.getfield 20, 3) := by decide +kernel
theorem dX1_knots_11 : decode cX1_knots 11 = .ok (.getfield 97, 3) := by decide +kernel
theorem dX1_knots_14 : decode cX1_knots 14 = .ok (.iadd, 1) := by decide +kernel
theorem dX1_knots_15 : decode cX1_knots 15 = .ok (.ireturn, 1) := by decide +kernel
set_option maxRecDepth 20000 in
theorem ggX1_offPlan_X2_offPlan : GoodIn wsX1_offPlan wsX2_offPlan := goodIn_r _ [7, 8, 9, 10, 11, 12, 13, 19, 20, 21, 22, 23, 24, 25, 26, 27] (by decide +kernel) (by decide +kernel)
set_option maxRecDepth 20000 in
theorem gX1_offPlan_X2_offPlan : GoodIn wsX1_offPlan (wsV RX1 100 RX2 yX2_offPlan wsX2_offPlan) := goodIn_app (goodIn_of _ (by decide +kernel)) ggX1_offPlan_X2_offPlan
theorem dX1_offPlan_0 : decode cX1_offPlan 0 = .ok (.aload_n 0, 1) := by decide +kernel
theorem dX1_offPlan_1 : decode cX1_offPlan 1 = .ok (.getfield 14, 3) := by decide +kernel
theorem dX1_offPlan_4 : decode cX1_offPlan 4 = .ok (.invokevirtual 100, 3) := by decide +kernel
theorem dX1_offPlan_7 : decode cX1_offPlan 7 = .ok (.aload_n 0, 1) := by decide +kernel
theorem dX1_offPlan_8 : decode cX1_offPlan 8 = .ok (.getfield 20, 3) := by decide +kernel
theorem dX1_offPlan_11 : decode cX1_offPlan 11 = .ok (.invokevirtual 100, 3) := by decide +kernel
theorem dX1_offPlan_14 : decode cX1_offPlan 14 = .ok (.iadd, 1) := by decide +kernel
theorem dX1_offPlan_15 : decode cX1_offPlan 15 = .ok (.ireturn, 1) := by decide +kernel
set_option maxRecDepth 20000 in
theorem ggX1_rowsDone_X2_rowsDone : GoodIn wsX1_rowsDone wsX2_rowsDone := goodIn_r _ [11, 12, 18, 19, 20, 21, 22, 23, 24, 25, 26] (by decide +kernel) (by decide +kernel)
set_option maxRecDepth 20000 in
theorem gX1_rowsDone_X2_rowsDone : GoodIn wsX1_rowsDone (wsV RX1 101 RX2 yX2_rowsDone wsX2_rowsDone) := goodIn_app (goodIn_of _ (by decide +kernel)) ggX1_rowsDone_X2_rowsDone
theorem dX1_rowsDone_0 : decode cX1_rowsDone 0 = .ok (.aload_n 0, 1) := by decide +kernel
theorem dX1_rowsDone_1 : decode cX1_rowsDone 1 = .ok (.getfield 14, 3) := by decide +kernel
theorem dX1_rowsDone_4 : decode cX1_rowsDone 4 = .ok (.invokevirtual 101, 3) := by decide +kernel
theorem dX1_rowsDone_7 : decode cX1_rowsDone 7 = .ok (.aload_n 0, 1) := by decide +kernel
theorem dX1_rowsDone_8 : decode cX1_rowsDone 8 = .ok (.getfield 20, 3) := by decide +kernel
theorem dX1_rowsDone_11 : decode cX1_rowsDone 11 = .ok (.invokevirtual 101, 3) := by decide +kernel
theorem dX1_rowsDone_14 : decode cX1_rowsDone 14 = .ok (.invokestatic 102, 3) := by decide +kernel
theorem dX1_rowsDone_17 : decode cX1_rowsDone 17 = .ok (.ireturn, 1) := by decide +kernel
set_option maxRecDepth 20000 in
theorem ggX1_tornRows_X1_rowsDone : GoodIn wsX1_tornRows wsX1_rowsDone := goodIn_r _ [7, 1, 2, 8, 9, 10, 11, 12, 13, 14, 15, 16, 17, 23, 24, 25, 26, 27, 28, 29, 30, 31, 32, 33, 34, 35, 36] (by decide +kernel) (by decide +kernel)
set_option maxRecDepth 20000 in
theorem gX1_tornRows_X1_rowsDone : GoodIn wsX1_tornRows (wsV RX1 85 RX1 yX1_rowsDone wsX1_rowsDone) := goodIn_app (goodIn_of _ (by decide +kernel)) ggX1_tornRows_X1_rowsDone
set_option maxRecDepth 20000 in
theorem ggX1_tornRows_X3_placeOf : GoodIn wsX1_tornRows wsX3_placeOf := goodIn_r _ [20] (by decide +kernel) (by decide +kernel)
set_option maxRecDepth 20000 in
theorem gX1_tornRows_X3_placeOf_n48 : GoodIn wsX1_tornRows (wsX3_placeOf) := ggX1_tornRows_X3_placeOf
set_option maxRecDepth 20000 in
theorem ggX1_tornRows_X3_at : GoodIn wsX1_tornRows wsX3_at := goodIn_r _ [22] (by decide +kernel) (by decide +kernel)
set_option maxRecDepth 20000 in
theorem gX1_tornRows_X3_at_n59 : GoodIn wsX1_tornRows (wsX3_at) := ggX1_tornRows_X3_at
theorem dX1_tornRows_0 : decode cX1_tornRows 0 = .ok (.iconst 0, 1) := by decide +kernel
theorem dX1_tornRows_1 : decode cX1_tornRows 1 = .ok (.istore_n 1, 1) := by decide +kernel
theorem dX1_tornRows_2 : decode cX1_tornRows 2 = .ok (.aload_n 0, 1) := by decide +kernel
theorem dX1_tornRows_3 : decode cX1_tornRows 3 = .ok (.invokevirtual 85, 3) := by decide +kernel
theorem dX1_tornRows_6 : decode cX1_tornRows 6 = .ok (.istore_n 2, 1) := by decide +kernel
theorem dX1_tornRows_7 : decode cX1_tornRows 7 = .ok (.iconst 0, 1) := by decide +kernel
theorem dX1_tornRows_8 : decode cX1_tornRows 8 = .ok (.istore_n 3, 1) := by decide +kernel
theorem dX1_tornRows_9 : decode cX1_tornRows 9 = .ok (.iload_n 3, 1) := by decide +kernel
theorem dX1_tornRows_10 : decode cX1_tornRows 10 = .ok (.iload_n 2, 1) := by decide +kernel
theorem dX1_tornRows_11 : decode cX1_tornRows 11 = .ok (.if_icmp .ge 95, 3) := by decide +kernel
theorem dX1_tornRows_14 : decode cX1_tornRows 14 = .ok (.bipush 6, 2) := by decide +kernel
theorem dX1_tornRows_16 : decode cX1_tornRows 16 = .ok (.iload_n 3, 1) := by decide +kernel
theorem dX1_tornRows_17 : decode cX1_tornRows 17 = .ok (.invokestatic 48, 3) := by decide +kernel
theorem dX1_tornRows_20 : decode cX1_tornRows 20 = .ok (.istore 4, 2) := by decide +kernel
theorem dX1_tornRows_22 : decode cX1_tornRows 22 = .ok (.aload_n 0, 1) := by decide +kernel
theorem dX1_tornRows_23 : decode cX1_tornRows 23 = .ok (.getfield 14, 3) := by decide +kernel
theorem dX1_tornRows_26 : decode cX1_tornRows 26 = .ok (.getfield 107, 3) := by decide +kernel
theorem dX1_tornRows_29 : decode cX1_tornRows 29 = .ok (.iload 4, 2) := by decide +kernel
theorem dX1_tornRows_31 : decode cX1_tornRows 31 = .ok (.invokestatic 59, 3) := by decide +kernel
theorem dX1_tornRows_34 : decode cX1_tornRows 34 = .ok (.aload_n 0, 1) := by decide +kernel
theorem dX1_tornRows_35 : decode cX1_tornRows 35 = .ok (.getfield 20, 3) := by decide +kernel
theorem dX1_tornRows_38 : decode cX1_tornRows 38 = .ok (.getfield 107, 3) := by decide +kernel
theorem dX1_tornRows_41 : decode cX1_tornRows 41 = .ok (.iload 4, 2) := by decide +kernel
theorem dX1_tornRows_43 : decode cX1_tornRows 43 = .ok (.invokestatic 59, 3) := by decide +kernel
theorem dX1_tornRows_46 : decode cX1_tornRows 46 = .ok (.if_icmp .ne 7, 3) := by decide +kernel
theorem dX1_tornRows_49 : decode cX1_tornRows 49 = .ok (.iconst 1, 1) := by decide +kernel
theorem dX1_tornRows_50 : decode cX1_tornRows 50 = .ok (.goto 4, 3) := by decide +kernel
theorem dX1_tornRows_53 : decode cX1_tornRows 53 = .ok (.iconst 0, 1) := by decide +kernel
theorem dX1_tornRows_54 : decode cX1_tornRows 54 = .ok (.istore 5, 2) := by decide +kernel
theorem dX1_tornRows_56 : decode cX1_tornRows 56 = .ok (.aload_n 0, 1) := by decide +kernel
theorem dX1_tornRows_57 : decode cX1_tornRows 57 = .ok (.getfield 14, 3) := by decide +kernel
theorem dX1_tornRows_60 : decode cX1_tornRows 60 = .ok (.getfield 55, 3) := by decide +kernel
theorem dX1_tornRows_63 : decode cX1_tornRows 63 = .ok (.iload 4, 2) := by decide +kernel
theorem dX1_tornRows_65 : decode cX1_tornRows 65 = .ok (.invokestatic 59, 3) := by decide +kernel
theorem dX1_tornRows_68 : decode cX1_tornRows 68 = .ok (.aload_n 0, 1) := by decide +kernel
theorem dX1_tornRows_69 : decode cX1_tornRows 69 = .ok (.getfield 20, 3) := by decide +kernel
theorem dX1_tornRows_72 : decode cX1_tornRows 72 = .ok (.getfield 55, 3) := by decide +kernel
theorem dX1_tornRows_75 : decode cX1_tornRows 75 = .ok (.iload 4, 2) := by decide +kernel
theorem dX1_tornRows_77 : decode cX1_tornRows 77 = .ok (.invokestatic 59, 3) := by decide +kernel
theorem dX1_tornRows_80 : decode cX1_tornRows 80 = .ok (.if_icmp .ne 7, 3) := by decide +kernel
theorem dX1_tornRows_83 : decode cX1_tornRows 83 = .ok (.iconst 1, 1) := by decide +kernel
theorem dX1_tornRows_84 : decode cX1_tornRows 84 = .ok (.goto 4, 3) := by decide +kernel
theorem dX1_tornRows_87 : decode cX1_tornRows 87 = .ok (.iconst 0, 1) := by decide +kernel
theorem dX1_tornRows_88 : decode cX1_tornRows 88 = .ok (.istore 6, 2) := by decide +kernel
theorem dX1_tornRows_90 : decode cX1_tornRows 90 = .ok (.iload 5, 2) := by decide +kernel
theorem dX1_tornRows_92 : decode cX1_tornRows 92 = .ok (.iload 6, 2) := by decide +kernel
theorem dX1_tornRows_94 : decode cX1_tornRows 94 = .ok (.if_icmp .eq 6, 3) := by decide +kernel
theorem dX1_tornRows_97 : decode cX1_tornRows 97 = .ok (.iinc 1 1, 3) := by decide +kernel
theorem dX1_tornRows_100 : decode cX1_tornRows 100 = .ok (.iinc 3 1, 3) := by decide +kernel
theorem dX1_tornRows_103 : decode cX1_tornRows 103 = .ok (.goto (-94), 3) := by decide +kernel
theorem dX1_tornRows_106 : decode cX1_tornRows 106 = .ok (.iload_n 1, 1) := by decide +kernel
theorem dX1_tornRows_107 : decode cX1_tornRows 107 = .ok (.ireturn, 1) := by decide +kernel
theorem dX2_init_0 : decode cX2_init 0 = .ok (.aload_n 0, 1) := by decide +kernel
theorem dX2_init_1 : decode cX2_init 1 = .ok (.invokespecial 3, 3) := by decide +kernel
theorem dX2_init_4 : decode cX2_init 4 = .ok (.aload_n 0, 1) := by decide +kernel
theorem dX2_init_5 : decode cX2_init 5 = .ok (.bipush 60, 2) := by decide +kernel
theorem dX2_init_7 : decode cX2_init 7 = .ok (.newarray .int, 2) := by decide +kernel
theorem dX2_init_9 : decode cX2_init 9 = .ok (.putfield 9, 3) := by decide +kernel
theorem dX2_init_12 : decode cX2_init 12 = .ok (.aload_n 0, 1) := by decide +kernel
theorem dX2_init_13 : decode cX2_init 13 = .ok (.bipush 60, 2) := by decide +kernel
theorem dX2_init_15 : decode cX2_init 15 = .ok (.newarray .int, 2) := by decide +kernel
theorem dX2_init_17 : decode cX2_init 17 = .ok (.putfield 15, 3) := by decide +kernel
theorem dX2_init_20 : decode cX2_init 20 = .ok (.aload_n 0, 1) := by decide +kernel
theorem dX2_init_21 : decode cX2_init 21 = .ok (.bipush 20, 2) := by decide +kernel
theorem dX2_init_23 : decode cX2_init 23 = .ok (.newarray .int, 2) := by decide +kernel
theorem dX2_init_25 : decode cX2_init 25 = .ok (.putfield 18, 3) := by decide +kernel
theorem dX2_init_28 : decode cX2_init 28 = .ok (.aload_n 0, 1) := by decide +kernel
theorem dX2_init_29 : decode cX2_init 29 = .ok (.bipush 20, 2) := by decide +kernel
theorem dX2_init_31 : decode cX2_init 31 = .ok (.newarray .int, 2) := by decide +kernel
theorem dX2_init_33 : decode cX2_init 33 = .ok (.putfield 21, 3) := by decide +kernel
theorem dX2_init_36 : decode cX2_init 36 = .ok (.aload_n 0, 1) := by decide +kernel
theorem dX2_init_37 : decode cX2_init 37 = .ok (.iconst 1, 1) := by decide +kernel
theorem dX2_init_38 : decode cX2_init 38 = .ok (.putfield 24, 3) := by decide +kernel
theorem dX2_init_41 : decode cX2_init 41 = .ok (.aload_n 0, 1) := by decide +kernel
theorem dX2_init_42 : decode cX2_init 42 = .ok (.iconst 0, 1) := by decide +kernel
theorem dX2_init_43 : decode cX2_init 43 = .ok (.putfield 28, 3) := by decide +kernel
theorem dX2_init_46 : decode cX2_init 46 = .ok (.aload_n 0, 1) := by decide +kernel
theorem dX2_init_47 : decode cX2_init 47 = .ok (.iconst 0, 1) := by decide +kernel
theorem dX2_init_48 : decode cX2_init 48 = .ok (.putfield 31, 3) := by decide +kernel
theorem dX2_init_51 : decode cX2_init 51 = .ok (.aload_n 0, 1) := by decide +kernel
theorem dX2_init_52 : decode cX2_init 52 = .ok (.iconst 0, 1) := by decide +kernel
theorem dX2_init_53 : decode cX2_init 53 = .ok (.putfield 34, 3) := by decide +kernel
theorem dX2_init_56 : decode cX2_init 56 = .ok (.aload_n 0, 1) := by decide +kernel
theorem dX2_init_57 : decode cX2_init 57 = .ok (.iload_n 1, 1) := by decide +kernel
theorem dX2_init_58 : decode cX2_init 58 = .ok (.putfield 37, 3) := by decide +kernel
theorem dX2_init_61 : decode cX2_init 61 = .ok (.return_, 1) := by decide +kernel
set_option maxRecDepth 20000 in
theorem ggX2_becomeLike_X3_copyRow : GoodIn wsX2_becomeLike wsX3_copyRow := goodIn_r _ [11] (by decide +kernel) (by decide +kernel)
set_option maxRecDepth 20000 in
theorem gX2_becomeLike_X3_copyRow_n40 : GoodIn wsX2_becomeLike (wsX3_copyRow) := ggX2_becomeLike_X3_copyRow
theorem dX2_becomeLike_0 : decode cX2_becomeLike 0 = .ok (.aload_n 1, 1) := by decide +kernel
theorem dX2_becomeLike_1 : decode cX2_becomeLike 1 = .ok (.getfield 9, 3) := by decide +kernel
theorem dX2_becomeLike_4 : decode cX2_becomeLike 4 = .ok (.aload_n 0, 1) := by decide +kernel
theorem dX2_becomeLike_5 : decode cX2_becomeLike 5 = .ok (.getfield 9, 3) := by decide +kernel
theorem dX2_becomeLike_8 : decode cX2_becomeLike 8 = .ok (.invokestatic 40, 3) := by decide +kernel
theorem dX2_becomeLike_11 : decode cX2_becomeLike 11 = .ok (.aload_n 1, 1) := by decide +kernel
theorem dX2_becomeLike_12 : decode cX2_becomeLike 12 = .ok (.getfield 15, 3) := by decide +kernel
theorem dX2_becomeLike_15 : decode cX2_becomeLike 15 = .ok (.aload_n 0, 1) := by decide +kernel
theorem dX2_becomeLike_16 : decode cX2_becomeLike 16 = .ok (.getfield 15, 3) := by decide +kernel
theorem dX2_becomeLike_19 : decode cX2_becomeLike 19 = .ok (.invokestatic 40, 3) := by decide +kernel
theorem dX2_becomeLike_22 : decode cX2_becomeLike 22 = .ok (.aload_n 1, 1) := by decide +kernel
theorem dX2_becomeLike_23 : decode cX2_becomeLike 23 = .ok (.getfield 18, 3) := by decide +kernel
theorem dX2_becomeLike_26 : decode cX2_becomeLike 26 = .ok (.aload_n 0, 1) := by decide +kernel
theorem dX2_becomeLike_27 : decode cX2_becomeLike 27 = .ok (.getfield 18, 3) := by decide +kernel
theorem dX2_becomeLike_30 : decode cX2_becomeLike 30 = .ok (.invokestatic 40, 3) := by decide +kernel
theorem dX2_becomeLike_33 : decode cX2_becomeLike 33 = .ok (.aload_n 1, 1) := by decide +kernel
theorem dX2_becomeLike_34 : decode cX2_becomeLike 34 = .ok (.getfield 21, 3) := by decide +kernel
theorem dX2_becomeLike_37 : decode cX2_becomeLike 37 = .ok (.aload_n 0, 1) := by decide +kernel
theorem dX2_becomeLike_38 : decode cX2_becomeLike 38 = .ok (.getfield 21, 3) := by decide +kernel
theorem dX2_becomeLike_41 : decode cX2_becomeLike 41 = .ok (.invokestatic 40, 3) := by decide +kernel
theorem dX2_becomeLike_44 : decode cX2_becomeLike 44 = .ok (.aload_n 0, 1) := by decide +kernel
theorem dX2_becomeLike_45 : decode cX2_becomeLike 45 = .ok (.aload_n 1, 1) := by decide +kernel
theorem dX2_becomeLike_46 : decode cX2_becomeLike 46 = .ok (.getfield 24, 3) := by decide +kernel
theorem dX2_becomeLike_49 : decode cX2_becomeLike 49 = .ok (.putfield 24, 3) := by decide +kernel
theorem dX2_becomeLike_52 : decode cX2_becomeLike 52 = .ok (.aload_n 0, 1) := by decide +kernel
theorem dX2_becomeLike_53 : decode cX2_becomeLike 53 = .ok (.aload_n 1, 1) := by decide +kernel
theorem dX2_becomeLike_54 : decode cX2_becomeLike 54 = .ok (.getfield 28, 3) := by decide +kernel
theorem dX2_becomeLike_57 : decode cX2_becomeLike 57 = .ok (.putfield 28, 3) := by decide +kernel
theorem dX2_becomeLike_60 : decode cX2_becomeLike 60 = .ok (.aload_n 0, 1) := by decide +kernel
theorem dX2_becomeLike_61 : decode cX2_becomeLike 61 = .ok (.aload_n 1, 1) := by decide +kernel
theorem dX2_becomeLike_62 : decode cX2_becomeLike 62 = .ok (.getfield 31, 3) := by decide +kernel
theorem dX2_becomeLike_65 : decode cX2_becomeLike 65 = .ok (.putfield 31, 3) := by decide +kernel
theorem dX2_becomeLike_68 : decode cX2_becomeLike 68 = .ok (.aload_n 0, 1) := by decide +kernel
theorem dX2_becomeLike_69 : decode cX2_becomeLike 69 = .ok (.aload_n 1, 1) := by decide +kernel
theorem dX2_becomeLike_70 : decode cX2_becomeLike 70 = .ok (.getfield 34, 3) := by decide +kernel
theorem dX2_becomeLike_73 : decode cX2_becomeLike 73 = .ok (.putfield 34, 3) := by decide +kernel
theorem dX2_becomeLike_76 : decode cX2_becomeLike 76 = .ok (.return_, 1) := by decide +kernel
set_option maxRecDepth 20000 in
theorem ggX2_planCell_X3_at : GoodIn wsX2_planCell wsX3_at := goodIn_r _ [4] (by decide +kernel) (by decide +kernel)
set_option maxRecDepth 20000 in
theorem gX2_planCell_X3_at_n44 : GoodIn wsX2_planCell (wsX3_at) := ggX2_planCell_X3_at
set_option maxRecDepth 20000 in
theorem ggX2_planCell_X3_put : GoodIn wsX2_planCell wsX3_put := goodIn_r _ [6] (by decide +kernel) (by decide +kernel)
set_option maxRecDepth 20000 in
theorem gX2_planCell_X3_put_n48 : GoodIn wsX2_planCell (wsX3_put) := ggX2_planCell_X3_put
theorem dX2_planCell_0 : decode cX2_planCell 0 = .ok (.aload_n 0, 1) := by decide +kernel
theorem dX2_planCell_1 : decode cX2_planCell 1 = .ok (.getfield 9, 3) := by decide +kernel
theorem dX2_planCell_4 : decode cX2_planCell 4 = .ok (.iload_n 1, 1) := by decide +kernel
theorem dX2_planCell_5 : decode cX2_planCell 5 = .ok (.invokestatic 44, 3) := by decide +kernel
theorem dX2_planCell_8 : decode cX2_planCell 8 = .ok (.iload_n 2, 1) := by decide +kernel
theorem dX2_planCell_9 : decode cX2_planCell 9 = .ok (.if_icmp .eq 7, 3) := by decide +kernel
theorem dX2_planCell_12 : decode cX2_planCell 12 = .ok (.iconst 1, 1) := by decide +kernel
theorem dX2_planCell_13 : decode cX2_planCell 13 = .ok (.goto 4, 3) := by decide +kernel
theorem dX2_planCell_16 : decode cX2_planCell 16 = .ok (.iconst 0, 1) := by decide +kernel
theorem dX2_planCell_17 : decode cX2_planCell 17 = .ok (.istore_n 3, 1) := by decide +kernel
theorem dX2_planCell_18 : decode cX2_planCell 18 = .ok (.aload_n 0, 1) := by decide +kernel
theorem dX2_planCell_19 : decode cX2_planCell 19 = .ok (.getfield 9, 3) := by decide +kernel
theorem dX2_planCell_22 : decode cX2_planCell 22 = .ok (.iload_n 1, 1) := by decide +kernel
theorem dX2_planCell_23 : decode cX2_planCell 23 = .ok (.iload_n 2, 1) := by decide +kernel
theorem dX2_planCell_24 : decode cX2_planCell 24 = .ok (.invokestatic 48, 3) := by decide +kernel
theorem dX2_planCell_27 : decode cX2_planCell 27 = .ok (.iload_n 3, 1) := by decide +kernel
theorem dX2_planCell_28 : decode cX2_planCell 28 = .ok (.ireturn, 1) := by decide +kernel
set_option maxRecDepth 20000 in
theorem ggX2_knotAtPlace_X3_at : GoodIn wsX2_knotAtPlace wsX3_at := goodIn_r _ [5] (by decide +kernel) (by decide +kernel)
set_option maxRecDepth 20000 in
theorem gX2_knotAtPlace_X3_at_n44 : GoodIn wsX2_knotAtPlace (wsX3_at) := ggX2_knotAtPlace_X3_at
theorem dX2_knotAtPlace_0 : decode cX2_knotAtPlace 0 = .ok (.iload_n 1, 1) := by decide +kernel
theorem dX2_knotAtPlace_1 : decode cX2_knotAtPlace 1 = .ok (.aload_n 0, 1) := by decide +kernel
theorem dX2_knotAtPlace_2 : decode cX2_knotAtPlace 2 = .ok (.getfield 31, 3) := by decide +kernel
theorem dX2_knotAtPlace_5 : decode cX2_knotAtPlace 5 = .ok (.if_icmp .ge 14, 3) := by decide +kernel
theorem dX2_knotAtPlace_8 : decode cX2_knotAtPlace 8 = .ok (.aload_n 0, 1) := by decide +kernel
theorem dX2_knotAtPlace_9 : decode cX2_knotAtPlace 9 = .ok (.getfield 15, 3) := by decide +kernel
theorem dX2_knotAtPlace_12 : decode cX2_knotAtPlace 12 = .ok (.iload_n 1, 1) := by decide +kernel
theorem dX2_knotAtPlace_13 : decode cX2_knotAtPlace 13 = .ok (.invokestatic 44, 3) := by decide +kernel
theorem dX2_knotAtPlace_16 : decode cX2_knotAtPlace 16 = .ok (.goto 4, 3) := by decide +kernel
theorem dX2_knotAtPlace_19 : decode cX2_knotAtPlace 19 = .ok (.iconst (-1), 1) := by decide +kernel
theorem dX2_knotAtPlace_20 : decode cX2_knotAtPlace 20 = .ok (.ireturn, 1) := by decide +kernel
theorem dX2_isHalfDone_0 : decode cX2_isHalfDone 0 = .ok (.aload_n 0, 1) := by decide +kernel
theorem dX2_isHalfDone_1 : decode cX2_isHalfDone 1 = .ok (.getfield 31, 3) := by decide +kernel
theorem dX2_isHalfDone_4 : decode cX2_isHalfDone 4 = .ok (.bipush 60, 2) := by decide +kernel
theorem dX2_isHalfDone_6 : decode cX2_isHalfDone 6 = .ok (.if_icmp .lt 7, 3) := by decide +kernel
theorem dX2_isHalfDone_9 : decode cX2_isHalfDone 9 = .ok (.iconst 1, 1) := by decide +kernel
theorem dX2_isHalfDone_10 : decode cX2_isHalfDone 10 = .ok (.goto 4, 3) := by decide +kernel
theorem dX2_isHalfDone_13 : decode cX2_isHalfDone 13 = .ok (.iconst 0, 1) := by decide +kernel
theorem dX2_isHalfDone_14 : decode cX2_isHalfDone 14 = .ok (.ireturn, 1) := by decide +kernel
set_option maxRecDepth 20000 in
theorem ggX2_hasWork_X2_isHalfDone : GoodIn wsX2_hasWork wsX2_isHalfDone := goodIn_r _ [6, 7, 8, 9, 10, 11, 12, 13, 14, 15, 16] (by decide +kernel) (by decide +kernel)
set_option maxRecDepth 20000 in
theorem gX2_hasWork_X2_isHalfDone : GoodIn wsX2_hasWork (wsV RX2 52 RX2 yX2_isHalfDone wsX2_isHalfDone) := goodIn_app (goodIn_of _ (by decide +kernel)) ggX2_hasWork_X2_isHalfDone
theorem dX2_hasWork_0 : decode cX2_hasWork 0 = .ok (.aload_n 0, 1) := by decide +kernel
theorem dX2_hasWork_1 : decode cX2_hasWork 1 = .ok (.getfield 28, 3) := by decide +kernel
theorem dX2_hasWork_4 : decode cX2_hasWork 4 = .ok (.ifCond .le 14, 3) := by decide +kernel
theorem dX2_hasWork_7 : decode cX2_hasWork 7 = .ok (.aload_n 0, 1) := by decide +kernel
theorem dX2_hasWork_8 : decode cX2_hasWork 8 = .ok (.invokevirtual 52, 3) := by decide +kernel
theorem dX2_hasWork_11 : decode cX2_hasWork 11 = .ok (.ifCond .ne 7, 3) := by decide +kernel
theorem dX2_hasWork_14 : decode cX2_hasWork 14 = .ok (.iconst 1, 1) := by decide +kernel
theorem dX2_hasWork_15 : decode cX2_hasWork 15 = .ok (.goto 4, 3) := by decide +kernel
theorem dX2_hasWork_18 : decode cX2_hasWork 18 = .ok (.iconst 0, 1) := by decide +kernel
theorem dX2_hasWork_19 : decode cX2_hasWork 19 = .ok (.ireturn, 1) := by decide +kernel
theorem dX2_rowsDone_0 : decode cX2_rowsDone 0 = .ok (.aload_n 0, 1) := by decide +kernel
theorem dX2_rowsDone_1 : decode cX2_rowsDone 1 = .ok (.getfield 31, 3) := by decide +kernel
theorem dX2_rowsDone_4 : decode cX2_rowsDone 4 = .ok (.bipush 6, 2) := by decide +kernel
theorem dX2_rowsDone_6 : decode cX2_rowsDone 6 = .ok (.idiv, 1) := by decide +kernel
theorem dX2_rowsDone_7 : decode cX2_rowsDone 7 = .ok (.ireturn, 1) := by decide +kernel
set_option maxRecDepth 20000 in
theorem ggX2_addRun_X3_put : GoodIn wsX2_addRun wsX3_put := goodIn_r _ [6] (by decide +kernel) (by decide +kernel)
set_option maxRecDepth 20000 in
theorem gX2_addRun_X3_put_n48 : GoodIn wsX2_addRun (wsX3_put) := ggX2_addRun_X3_put
theorem dX2_addRun_0 : decode cX2_addRun 0 = .ok (.aload_n 0, 1) := by decide +kernel
theorem dX2_addRun_1 : decode cX2_addRun 1 = .ok (.getfield 18, 3) := by decide +kernel
theorem dX2_addRun_4 : decode cX2_addRun 4 = .ok (.aload_n 0, 1) := by decide +kernel
theorem dX2_addRun_5 : decode cX2_addRun 5 = .ok (.getfield 28, 3) := by decide +kernel
theorem dX2_addRun_8 : decode cX2_addRun 8 = .ok (.iload_n 1, 1) := by decide +kernel
theorem dX2_addRun_9 : decode cX2_addRun 9 = .ok (.invokestatic 48, 3) := by decide +kernel
theorem dX2_addRun_12 : decode cX2_addRun 12 = .ok (.aload_n 0, 1) := by decide +kernel
theorem dX2_addRun_13 : decode cX2_addRun 13 = .ok (.getfield 21, 3) := by decide +kernel
theorem dX2_addRun_16 : decode cX2_addRun 16 = .ok (.aload_n 0, 1) := by decide +kernel
theorem dX2_addRun_17 : decode cX2_addRun 17 = .ok (.getfield 28, 3) := by decide +kernel
theorem dX2_addRun_20 : decode cX2_addRun 20 = .ok (.iload_n 2, 1) := by decide +kernel
theorem dX2_addRun_21 : decode cX2_addRun 21 = .ok (.invokestatic 48, 3) := by decide +kernel
theorem dX2_addRun_24 : decode cX2_addRun 24 = .ok (.aload_n 0, 1) := by decide +kernel
theorem dX2_addRun_25 : decode cX2_addRun 25 = .ok (.dup, 1) := by decide +kernel
theorem dX2_addRun_26 : decode cX2_addRun 26 = .ok (.getfield 28, 3) := by decide +kernel
theorem dX2_addRun_29 : decode cX2_addRun 29 = .ok (.iconst 1, 1) := by decide +kernel
theorem dX2_addRun_30 : decode cX2_addRun 30 = .ok (.iadd, 1) := by decide +kernel
theorem dX2_addRun_31 : decode cX2_addRun 31 = .ok (.putfield 28, 3) := by decide +kernel
theorem dX2_addRun_34 : decode cX2_addRun 34 = .ok (.return_, 1) := by decide +kernel
set_option maxRecDepth 20000 in
theorem ggX2_toldInAll_X3_at : GoodIn wsX2_toldInAll wsX3_at := goodIn_r _ [5] (by decide +kernel) (by decide +kernel)
set_option maxRecDepth 20000 in
theorem gX2_toldInAll_X3_at_n44 : GoodIn wsX2_toldInAll (wsX3_at) := ggX2_toldInAll_X3_at
theorem dX2_toldInAll_0 : decode cX2_toldInAll 0 = .ok (.iconst 0, 1) := by decide +kernel
theorem dX2_toldInAll_1 : decode cX2_toldInAll 1 = .ok (.istore_n 1, 1) := by decide +kernel
theorem dX2_toldInAll_2 : decode cX2_toldInAll 2 = .ok (.iconst 0, 1) := by decide +kernel
theorem dX2_toldInAll_3 : decode cX2_toldInAll 3 = .ok (.istore_n 2, 1) := by decide +kernel
theorem dX2_toldInAll_4 : decode cX2_toldInAll 4 = .ok (.iload_n 2, 1) := by decide +kernel
theorem dX2_toldInAll_5 : decode cX2_toldInAll 5 = .ok (.aload_n 0, 1) := by decide +kernel
theorem dX2_toldInAll_6 : decode cX2_toldInAll 6 = .ok (.getfield 28, 3) := by decide +kernel
theorem dX2_toldInAll_9 : decode cX2_toldInAll 9 = .ok (.if_icmp .ge 20, 3) := by decide +kernel
theorem dX2_toldInAll_12 : decode cX2_toldInAll 12 = .ok (.iload_n 1, 1) := by decide +kernel
theorem dX2_toldInAll_13 : decode cX2_toldInAll 13 = .ok (.aload_n 0, 1) := by decide +kernel
theorem dX2_toldInAll_14 : decode cX2_toldInAll 14 = .ok (.getfield 21, 3) := by decide +kernel
theorem dX2_toldInAll_17 : decode cX2_toldInAll 17 = .ok (.iload_n 2, 1) := by decide +kernel
theorem dX2_toldInAll_18 : decode cX2_toldInAll 18 = .ok (.invokestatic 44, 3) := by decide +kernel
theorem dX2_toldInAll_21 : decode cX2_toldInAll 21 = .ok (.iadd, 1) := by decide +kernel
theorem dX2_toldInAll_22 : decode cX2_toldInAll 22 = .ok (.istore_n 1, 1) := by decide +kernel
theorem dX2_toldInAll_23 : decode cX2_toldInAll 23 = .ok (.iinc 2 1, 3) := by decide +kernel
theorem dX2_toldInAll_26 : decode cX2_toldInAll 26 = .ok (.goto (-22), 3) := by decide +kernel
theorem dX2_toldInAll_29 : decode cX2_toldInAll 29 = .ok (.iload_n 1, 1) := by decide +kernel
theorem dX2_toldInAll_30 : decode cX2_toldInAll 30 = .ok (.ireturn, 1) := by decide +kernel
set_option maxRecDepth 20000 in
theorem ggX2_workAnHour_X2_hasWork : GoodIn wsX2_workAnHour wsX2_hasWork := goodIn_r _ [6, 7, 8, 9, 10, 5, 11, 12, 36, 37, 38, 39, 40, 41, 42, 43, 44] (by decide +kernel) (by decide +kernel)
set_option maxRecDepth 20000 in
theorem gX2_workAnHour_X2_hasWork : GoodIn wsX2_workAnHour (wsV RX2 56 RX2 yX2_hasWork wsX2_hasWork) := goodIn_app (goodIn_of _ (by decide +kernel)) ggX2_workAnHour_X2_hasWork
set_option maxRecDepth 20000 in
theorem ggX2_workAnHour_X2_knotNext : GoodIn wsX2_workAnHour wsX2_knotNext := goodIn_r _ [16, 17, 18, 12, 19, 20, 21, 22, 23, 24, 25, 26, 27, 28, 29, 30, 31, 32, 33, 5, 34, 35, 7, 36, 37, 38, 39, 40, 41, 42, 43, 44, 45] (by decide +kernel) (by decide +kernel)
set_option maxRecDepth 20000 in
theorem gX2_workAnHour_X2_knotNext : GoodIn wsX2_workAnHour (wsV RX2 59 RX2 yX2_knotNext wsX2_knotNext) := goodIn_app (goodIn_of _ (by decide +kernel)) ggX2_workAnHour_X2_knotNext
theorem dX2_workAnHour_0 : decode cX2_workAnHour 0 = .ok (.iconst 0, 1) := by decide +kernel
theorem dX2_workAnHour_1 : decode cX2_workAnHour 1 = .ok (.istore_n 2, 1) := by decide +kernel
theorem dX2_workAnHour_2 : decode cX2_workAnHour 2 = .ok (.iload_n 2, 1) := by decide +kernel
theorem dX2_workAnHour_3 : decode cX2_workAnHour 3 = .ok (.aload_n 0, 1) := by decide +kernel
theorem dX2_workAnHour_4 : decode cX2_workAnHour 4 = .ok (.getfield 24, 3) := by decide +kernel
theorem dX2_workAnHour_7 : decode cX2_workAnHour 7 = .ok (.if_icmp .ge 24, 3) := by decide +kernel
theorem dX2_workAnHour_10 : decode cX2_workAnHour 10 = .ok (.aload_n 0, 1) := by decide +kernel
theorem dX2_workAnHour_11 : decode cX2_workAnHour 11 = .ok (.invokevirtual 56, 3) := by decide +kernel
theorem dX2_workAnHour_14 : decode cX2_workAnHour 14 = .ok (.ifCond .eq 17, 3) := by decide +kernel
theorem dX2_workAnHour_17 : decode cX2_workAnHour 17 = .ok (.aload_n 0, 1) := by decide +kernel
theorem dX2_workAnHour_18 : decode cX2_workAnHour 18 = .ok (.aload_n 1, 1) := by decide +kernel
theorem dX2_workAnHour_19 : decode cX2_workAnHour 19 = .ok (.invokevirtual 59, 3) := by decide +kernel
theorem dX2_workAnHour_22 : decode cX2_workAnHour 22 = .ok (.ifCond .eq 9, 3) := by decide +kernel
theorem dX2_workAnHour_25 : decode cX2_workAnHour 25 = .ok (.iinc 2 1, 3) := by decide +kernel
theorem dX2_workAnHour_28 : decode cX2_workAnHour 28 = .ok (.goto (-26), 3) := by decide +kernel
theorem dX2_workAnHour_31 : decode cX2_workAnHour 31 = .ok (.iload_n 2, 1) := by decide +kernel
theorem dX2_workAnHour_32 : decode cX2_workAnHour 32 = .ok (.ireturn, 1) := by decide +kernel
set_option maxRecDepth 20000 in
theorem ggX2_knotNext_X3_at : GoodIn wsX2_knotNext wsX3_at := goodIn_r _ [7] (by decide +kernel) (by decide +kernel)
set_option maxRecDepth 20000 in
theorem gX2_knotNext_X3_at_n44 : GoodIn wsX2_knotNext (wsX3_at) := ggX2_knotNext_X3_at
set_option maxRecDepth 20000 in
theorem ggX2_knotNext_X0_take : GoodIn wsX2_knotNext wsX0_take := goodIn_r _ [12, 13, 5, 6, 7, 14, 15, 32] (by decide +kernel) (by decide +kernel)
set_option maxRecDepth 20000 in
theorem gX2_knotNext_X0_take : GoodIn wsX2_knotNext (wsV RX2 63 RX0 yX0_take wsX0_take) := goodIn_app (goodIn_of _ (by decide +kernel)) ggX2_knotNext_X0_take
set_option maxRecDepth 20000 in
theorem ggX2_knotNext_X3_put : GoodIn wsX2_knotNext wsX3_put := goodIn_r _ [15] (by decide +kernel) (by decide +kernel)
set_option maxRecDepth 20000 in
theorem gX2_knotNext_X3_put_n48 : GoodIn wsX2_knotNext (wsX3_put) := ggX2_knotNext_X3_put
set_option maxRecDepth 20000 in
theorem ggX2_knotNext_X2_shortenFirstRun : GoodIn wsX2_knotNext wsX2_shortenFirstRun := goodIn_r _ [20, 21, 22, 1, 5, 6, 7, 14, 15, 23, 24, 25, 26, 27, 28, 29, 30, 31] (by decide +kernel) (by decide +kernel)
set_option maxRecDepth 20000 in
theorem gX2_knotNext_X2_shortenFirstRun : GoodIn wsX2_knotNext (wsV RX2 69 RX2 yX2_shortenFirstRun wsX2_shortenFirstRun) := goodIn_app (goodIn_of _ (by decide +kernel)) ggX2_knotNext_X2_shortenFirstRun
theorem dX2_knotNext_0 : decode cX2_knotNext 0 = .ok (.aload_n 0, 1) := by decide +kernel
theorem dX2_knotNext_1 : decode cX2_knotNext 1 = .ok (.getfield 18, 3) := by decide +kernel
theorem dX2_knotNext_4 : decode cX2_knotNext 4 = .ok (.iconst 0, 1) := by decide +kernel
theorem dX2_knotNext_5 : decode cX2_knotNext 5 = .ok (.invokestatic 44, 3) := by decide +kernel
theorem dX2_knotNext_8 : decode cX2_knotNext 8 = .ok (.istore_n 2, 1) := by decide +kernel
theorem dX2_knotNext_9 : decode cX2_knotNext 9 = .ok (.aload_n 1, 1) := by decide +kernel
theorem dX2_knotNext_10 : decode cX2_knotNext 10 = .ok (.iload_n 2, 1) := by decide +kernel
theorem dX2_knotNext_11 : decode cX2_knotNext 11 = .ok (.invokevirtual 63, 3) := by decide +kernel
theorem dX2_knotNext_14 : decode cX2_knotNext 14 = .ok (.istore_n 3, 1) := by decide +kernel
theorem dX2_knotNext_15 : decode cX2_knotNext 15 = .ok (.iload_n 3, 1) := by decide +kernel
theorem dX2_knotNext_16 : decode cX2_knotNext 16 = .ok (.iconst (-1), 1) := by decide +kernel
theorem dX2_knotNext_17 : decode cX2_knotNext 17 = .ok (.if_icmp .ne 5, 3) := by decide +kernel
theorem dX2_knotNext_20 : decode cX2_knotNext 20 = .ok (.iconst 0, 1) := by decide +kernel
theorem dX2_knotNext_21 : decode cX2_knotNext 21 = .ok (.ireturn, 1) := by decide +kernel
theorem dX2_knotNext_22 : decode cX2_knotNext 22 = .ok (.aload_n 0, 1) := by decide +kernel
theorem dX2_knotNext_23 : decode cX2_knotNext 23 = .ok (.getfield 15, 3) := by decide +kernel
theorem dX2_knotNext_26 : decode cX2_knotNext 26 = .ok (.aload_n 0, 1) := by decide +kernel
theorem dX2_knotNext_27 : decode cX2_knotNext 27 = .ok (.getfield 31, 3) := by decide +kernel
theorem dX2_knotNext_30 : decode cX2_knotNext 30 = .ok (.iload_n 3, 1) := by decide +kernel
theorem dX2_knotNext_31 : decode cX2_knotNext 31 = .ok (.invokestatic 48, 3) := by decide +kernel
theorem dX2_knotNext_34 : decode cX2_knotNext 34 = .ok (.aload_n 0, 1) := by decide +kernel
theorem dX2_knotNext_35 : decode cX2_knotNext 35 = .ok (.dup, 1) := by decide +kernel
theorem dX2_knotNext_36 : decode cX2_knotNext 36 = .ok (.getfield 31, 3) := by decide +kernel
theorem dX2_knotNext_39 : decode cX2_knotNext 39 = .ok (.iconst 1, 1) := by decide +kernel
theorem dX2_knotNext_40 : decode cX2_knotNext 40 = .ok (.iadd, 1) := by decide +kernel
theorem dX2_knotNext_41 : decode cX2_knotNext 41 = .ok (.putfield 31, 3) := by decide +kernel
theorem dX2_knotNext_44 : decode cX2_knotNext 44 = .ok (.iload_n 3, 1) := by decide +kernel
theorem dX2_knotNext_45 : decode cX2_knotNext 45 = .ok (.iload_n 2, 1) := by decide +kernel
theorem dX2_knotNext_46 : decode cX2_knotNext 46 = .ok (.if_icmp .eq 13, 3) := by decide +kernel
theorem dX2_knotNext_49 : decode cX2_knotNext 49 = .ok (.aload_n 0, 1) := by decide +kernel
theorem dX2_knotNext_50 : decode cX2_knotNext 50 = .ok (.dup, 1) := by decide +kernel
theorem dX2_knotNext_51 : decode cX2_knotNext 51 = .ok (.getfield 34, 3) := by decide +kernel
theorem dX2_knotNext_54 : decode cX2_knotNext 54 = .ok (.iconst 1, 1) := by decide +kernel
theorem dX2_knotNext_55 : decode cX2_knotNext 55 = .ok (.iadd, 1) := by decide +kernel
theorem dX2_knotNext_56 : decode cX2_knotNext 56 = .ok (.putfield 34, 3) := by decide +kernel
theorem dX2_knotNext_59 : decode cX2_knotNext 59 = .ok (.aload_n 0, 1) := by decide +kernel
theorem dX2_knotNext_60 : decode cX2_knotNext 60 = .ok (.invokevirtual 69, 3) := by decide +kernel
theorem dX2_knotNext_63 : decode cX2_knotNext 63 = .ok (.iconst 1, 1) := by decide +kernel
theorem dX2_knotNext_64 : decode cX2_knotNext 64 = .ok (.ireturn, 1) := by decide +kernel
set_option maxRecDepth 20000 in
theorem ggX2_shortenFirstRun_X3_at : GoodIn wsX2_shortenFirstRun wsX3_at := goodIn_r _ [6] (by decide +kernel) (by decide +kernel)
set_option maxRecDepth 20000 in
theorem gX2_shortenFirstRun_X3_at_n44 : GoodIn wsX2_shortenFirstRun (wsX3_at) := ggX2_shortenFirstRun_X3_at
set_option maxRecDepth 20000 in
theorem ggX2_shortenFirstRun_X3_put : GoodIn wsX2_shortenFirstRun wsX3_put := goodIn_r _ [8] (by decide +kernel) (by decide +kernel)
set_option maxRecDepth 20000 in
theorem gX2_shortenFirstRun_X3_put_n48 : GoodIn wsX2_shortenFirstRun (wsX3_put) := ggX2_shortenFirstRun_X3_put
theorem dX2_shortenFirstRun_0 : decode cX2_shortenFirstRun 0 = .ok (.aload_n 0, 1) := by decide +kernel
theorem dX2_shortenFirstRun_1 : decode cX2_shortenFirstRun 1 = .ok (.getfield 21, 3) := by decide +kernel
theorem dX2_shortenFirstRun_4 : decode cX2_shortenFirstRun 4 = .ok (.iconst 0, 1) := by decide +kernel
theorem dX2_shortenFirstRun_5 : decode cX2_shortenFirstRun 5 = .ok (.invokestatic 44, 3) := by decide +kernel
theorem dX2_shortenFirstRun_8 : decode cX2_shortenFirstRun 8 = .ok (.iconst 1, 1) := by decide +kernel
theorem dX2_shortenFirstRun_9 : decode cX2_shortenFirstRun 9 = .ok (.isub, 1) := by decide +kernel
theorem dX2_shortenFirstRun_10 : decode cX2_shortenFirstRun 10 = .ok (.istore_n 1, 1) := by decide +kernel
theorem dX2_shortenFirstRun_11 : decode cX2_shortenFirstRun 11 = .ok (.aload_n 0, 1) := by decide +kernel
theorem dX2_shortenFirstRun_12 : decode cX2_shortenFirstRun 12 = .ok (.getfield 21, 3) := by decide +kernel
theorem dX2_shortenFirstRun_15 : decode cX2_shortenFirstRun 15 = .ok (.iconst 0, 1) := by decide +kernel
theorem dX2_shortenFirstRun_16 : decode cX2_shortenFirstRun 16 = .ok (.iload_n 1, 1) := by decide +kernel
theorem dX2_shortenFirstRun_17 : decode cX2_shortenFirstRun 17 = .ok (.invokestatic 48, 3) := by decide +kernel
theorem dX2_shortenFirstRun_20 : decode cX2_shortenFirstRun 20 = .ok (.iload_n 1, 1) := by decide +kernel
theorem dX2_shortenFirstRun_21 : decode cX2_shortenFirstRun 21 = .ok (.ifCond .le 4, 3) := by decide +kernel
theorem dX2_shortenFirstRun_24 : decode cX2_shortenFirstRun 24 = .ok (.return_, 1) := by decide +kernel
theorem dX2_shortenFirstRun_25 : decode cX2_shortenFirstRun 25 = .ok (.iconst 1, 1) := by decide +kernel
theorem dX2_shortenFirstRun_26 : decode cX2_shortenFirstRun 26 = .ok (.istore_n 2, 1) := by decide +kernel
theorem dX2_shortenFirstRun_27 : decode cX2_shortenFirstRun 27 = .ok (.iload_n 2, 1) := by decide +kernel
theorem dX2_shortenFirstRun_28 : decode cX2_shortenFirstRun 28 = .ok (.aload_n 0, 1) := by decide +kernel
theorem dX2_shortenFirstRun_29 : decode cX2_shortenFirstRun 29 = .ok (.getfield 28, 3) := by decide +kernel
theorem dX2_shortenFirstRun_32 : decode cX2_shortenFirstRun 32 = .ok (.if_icmp .ge 45, 3) := by decide +kernel
theorem dX2_shortenFirstRun_35 : decode cX2_shortenFirstRun 35 = .ok (.aload_n 0, 1) := by decide +kernel
theorem dX2_shortenFirstRun_36 : decode cX2_shortenFirstRun 36 = .ok (.getfield 18, 3) := by decide +kernel
theorem dX2_shortenFirstRun_39 : decode cX2_shortenFirstRun 39 = .ok (.iload_n 2, 1) := by decide +kernel
theorem dX2_shortenFirstRun_40 : decode cX2_shortenFirstRun 40 = .ok (.iconst 1, 1) := by decide +kernel
theorem dX2_shortenFirstRun_41 : decode cX2_shortenFirstRun 41 = .ok (.isub, 1) := by decide +kernel
theorem dX2_shortenFirstRun_42 : decode cX2_shortenFirstRun 42 = .ok (.aload_n 0, 1) := by decide +kernel
theorem dX2_shortenFirstRun_43 : decode cX2_shortenFirstRun 43 = .ok (.getfield 18, 3) := by decide +kernel
theorem dX2_shortenFirstRun_46 : decode cX2_shortenFirstRun 46 = .ok (.iload_n 2, 1) := by decide +kernel
theorem dX2_shortenFirstRun_47 : decode cX2_shortenFirstRun 47 = .ok (.invokestatic 44, 3) := by decide +kernel
theorem dX2_shortenFirstRun_50 : decode cX2_shortenFirstRun 50 = .ok (.invokestatic 48, 3) := by decide +kernel
theorem dX2_shortenFirstRun_53 : decode cX2_shortenFirstRun 53 = .ok (.aload_n 0, 1) := by decide +kernel
theorem dX2_shortenFirstRun_54 : decode cX2_shortenFirstRun 54 = .ok (.getfield 21, 3) := by decide +kernel
theorem dX2_shortenFirstRun_57 : decode cX2_shortenFirstRun 57 = .ok (.iload_n 2, 1) := by decide +kernel
theorem dX2_shortenFirstRun_58 : decode cX2_shortenFirstRun 58 = .ok (.iconst 1, 1) := by decide +kernel
theorem dX2_shortenFirstRun_59 : decode cX2_shortenFirstRun 59 = .ok (.isub, 1) := by decide +kernel
theorem dX2_shortenFirstRun_60 : decode cX2_shortenFirstRun 60 = .ok (.aload_n 0, 1) := by decide +kernel
theorem dX2_shortenFirstRun_61 : decode cX2_shortenFirstRun 61 = .ok (.getfield 21, 3) := by decide +kernel
theorem dX2_shortenFirstRun_64 : decode cX2_shortenFirstRun 64 = .ok (.iload_n 2, 1) := by decide +kernel
theorem dX2_shortenFirstRun_65 : decode cX2_shortenFirstRun 65 = .ok (.invokestatic 44, 3) := by decide +kernel
theorem dX2_shortenFirstRun_68 : decode cX2_shortenFirstRun 68 = .ok (.invokestatic 48, 3) := by decide +kernel
theorem dX2_shortenFirstRun_71 : decode cX2_shortenFirstRun 71 = .ok (.iinc 2 1, 3) := by decide +kernel
theorem dX2_shortenFirstRun_74 : decode cX2_shortenFirstRun 74 = .ok (.goto (-47), 3) := by decide +kernel
theorem dX2_shortenFirstRun_77 : decode cX2_shortenFirstRun 77 = .ok (.aload_n 0, 1) := by decide +kernel
theorem dX2_shortenFirstRun_78 : decode cX2_shortenFirstRun 78 = .ok (.dup, 1) := by decide +kernel
theorem dX2_shortenFirstRun_79 : decode cX2_shortenFirstRun 79 = .ok (.getfield 28, 3) := by decide +kernel
theorem dX2_shortenFirstRun_82 : decode cX2_shortenFirstRun 82 = .ok (.iconst 1, 1) := by decide +kernel
theorem dX2_shortenFirstRun_83 : decode cX2_shortenFirstRun 83 = .ok (.isub, 1) := by decide +kernel
theorem dX2_shortenFirstRun_84 : decode cX2_shortenFirstRun 84 = .ok (.putfield 28, 3) := by decide +kernel
theorem dX2_shortenFirstRun_87 : decode cX2_shortenFirstRun 87 = .ok (.return_, 1) := by decide +kernel
set_option maxRecDepth 20000 in
theorem ggX2_undo_X3_at : GoodIn wsX2_undo wsX3_at := goodIn_r _ [5] (by decide +kernel) (by decide +kernel)
set_option maxRecDepth 20000 in
theorem gX2_undo_X3_at_n44 : GoodIn wsX2_undo (wsX3_at) := ggX2_undo_X3_at
set_option maxRecDepth 20000 in
theorem ggX2_undo_X0_fill : GoodIn wsX2_undo wsX0_fill := goodIn_r _ [10, 11, 12, 13, 14, 15, 3, 4, 5, 16, 17, 27] (by decide +kernel) (by decide +kernel)
set_option maxRecDepth 20000 in
theorem gX2_undo_X0_fill : GoodIn wsX2_undo (wsV RX2 72 RX0 yX0_fill wsX0_fill) := goodIn_app (goodIn_of _ (by decide +kernel)) ggX2_undo_X0_fill
theorem dX2_undo_0 : decode cX2_undo 0 = .ok (.iconst 0, 1) := by decide +kernel
theorem dX2_undo_1 : decode cX2_undo 1 = .ok (.istore_n 3, 1) := by decide +kernel
theorem dX2_undo_2 : decode cX2_undo 2 = .ok (.iload_n 3, 1) := by decide +kernel
theorem dX2_undo_3 : decode cX2_undo 3 = .ok (.iload_n 1, 1) := by decide +kernel
theorem dX2_undo_4 : decode cX2_undo 4 = .ok (.if_icmp .ge 36, 3) := by decide +kernel
theorem dX2_undo_7 : decode cX2_undo 7 = .ok (.aload_n 0, 1) := by decide +kernel
theorem dX2_undo_8 : decode cX2_undo 8 = .ok (.dup, 1) := by decide +kernel
theorem dX2_undo_9 : decode cX2_undo 9 = .ok (.getfield 31, 3) := by decide +kernel
theorem dX2_undo_12 : decode cX2_undo 12 = .ok (.iconst 1, 1) := by decide +kernel
theorem dX2_undo_13 : decode cX2_undo 13 = .ok (.isub, 1) := by decide +kernel
theorem dX2_undo_14 : decode cX2_undo 14 = .ok (.putfield 31, 3) := by decide +kernel
theorem dX2_undo_17 : decode cX2_undo 17 = .ok (.aload_n 2, 1) := by decide +kernel
theorem dX2_undo_18 : decode cX2_undo 18 = .ok (.aload_n 0, 1) := by decide +kernel
theorem dX2_undo_19 : decode cX2_undo 19 = .ok (.getfield 15, 3) := by decide +kernel
theorem dX2_undo_22 : decode cX2_undo 22 = .ok (.aload_n 0, 1) := by decide +kernel
theorem dX2_undo_23 : decode cX2_undo 23 = .ok (.getfield 31, 3) := by decide +kernel
theorem dX2_undo_26 : decode cX2_undo 26 = .ok (.invokestatic 44, 3) := by decide +kernel
theorem dX2_undo_29 : decode cX2_undo 29 = .ok (.iconst 1, 1) := by decide +kernel
theorem dX2_undo_30 : decode cX2_undo 30 = .ok (.invokevirtual 72, 3) := by decide +kernel
theorem dX2_undo_33 : decode cX2_undo 33 = .ok (.pop, 1) := by decide +kernel
theorem dX2_undo_34 : decode cX2_undo 34 = .ok (.iinc 3 1, 3) := by decide +kernel
theorem dX2_undo_37 : decode cX2_undo 37 = .ok (.goto (-35), 3) := by decide +kernel
theorem dX2_undo_40 : decode cX2_undo 40 = .ok (.return_, 1) := by decide +kernel
set_option maxRecDepth 20000 in
theorem ggX2_number_X2_toldInAll : GoodIn wsX2_number wsX2_toldInAll := goodIn_r _ [9, 2, 10, 11, 12, 13, 23, 24, 25, 26, 27, 28, 29, 30, 31] (by decide +kernel) (by decide +kernel)
set_option maxRecDepth 20000 in
theorem gX2_number_X2_toldInAll : GoodIn wsX2_number (wsV RX2 76 RX2 yX2_toldInAll wsX2_toldInAll) := goodIn_app (goodIn_of _ (by decide +kernel)) ggX2_number_X2_toldInAll
set_option maxRecDepth 20000 in
theorem ggX2_number_X2_nextX : GoodIn wsX2_number wsX2_nextX := goodIn_r _ [17, 3, 18, 19, 20, 21, 8, 22, 23, 24, 25, 26, 27, 28, 29, 30, 31] (by decide +kernel) (by decide +kernel)
set_option maxRecDepth 20000 in
theorem gX2_number_X2_nextX : GoodIn wsX2_number (wsV RX2 80 RX2 yX2_nextX wsX2_nextX) := goodIn_app (goodIn_of _ (by decide +kernel)) ggX2_number_X2_nextX
set_option maxRecDepth 20000 in
theorem ggX2_number_X2_isHalfDone : GoodIn wsX2_number wsX2_isHalfDone := goodIn_r _ [22, 3, 23, 24, 25, 26, 27, 28, 29, 30, 31] (by decide +kernel) (by decide +kernel)
set_option maxRecDepth 20000 in
theorem gX2_number_X2_isHalfDone : GoodIn wsX2_number (wsV RX2 52 RX2 yX2_isHalfDone wsX2_isHalfDone) := goodIn_app (goodIn_of _ (by decide +kernel)) ggX2_number_X2_isHalfDone
theorem dX2_number_0 : decode cX2_number 0 = .ok (.iload_n 1, 1) := by decide +kernel
theorem dX2_number_1 : decode cX2_number 1 = .ok (.tableswitch 83 0 5 #[39, 44, 49, 54, 59, 64], 39) := by decide +kernel
theorem dX2_number_40 : decode cX2_number 40 = .ok (.aload_n 0, 1) := by decide +kernel
theorem dX2_number_41 : decode cX2_number 41 = .ok (.getfield 24, 3) := by decide +kernel
theorem dX2_number_44 : decode cX2_number 44 = .ok (.ireturn, 1) := by decide +kernel
theorem dX2_number_45 : decode cX2_number 45 = .ok (.aload_n 0, 1) := by decide +kernel
theorem dX2_number_46 : decode cX2_number 46 = .ok (.getfield 28, 3) := by decide +kernel
theorem dX2_number_49 : decode cX2_number 49 = .ok (.ireturn, 1) := by decide +kernel
theorem dX2_number_50 : decode cX2_number 50 = .ok (.aload_n 0, 1) := by decide +kernel
theorem dX2_number_51 : decode cX2_number 51 = .ok (.invokevirtual 76, 3) := by decide +kernel
theorem dX2_number_54 : decode cX2_number 54 = .ok (.ireturn, 1) := by decide +kernel
theorem dX2_number_55 : decode cX2_number 55 = .ok (.aload_n 0, 1) := by decide +kernel
theorem dX2_number_56 : decode cX2_number 56 = .ok (.getfield 31, 3) := by decide +kernel
theorem dX2_number_59 : decode cX2_number 59 = .ok (.ireturn, 1) := by decide +kernel
theorem dX2_number_60 : decode cX2_number 60 = .ok (.aload_n 0, 1) := by decide +kernel
theorem dX2_number_61 : decode cX2_number 61 = .ok (.invokevirtual 80, 3) := by decide +kernel
theorem dX2_number_64 : decode cX2_number 64 = .ok (.ireturn, 1) := by decide +kernel
theorem dX2_number_65 : decode cX2_number 65 = .ok (.aload_n 0, 1) := by decide +kernel
theorem dX2_number_66 : decode cX2_number 66 = .ok (.invokevirtual 52, 3) := by decide +kernel
theorem dX2_number_69 : decode cX2_number 69 = .ok (.ifCond .eq 7, 3) := by decide +kernel
theorem dX2_number_72 : decode cX2_number 72 = .ok (.iconst (-1), 1) := by decide +kernel
theorem dX2_number_73 : decode cX2_number 73 = .ok (.goto 10, 3) := by decide +kernel
theorem dX2_number_76 : decode cX2_number 76 = .ok (.aload_n 0, 1) := by decide +kernel
theorem dX2_number_77 : decode cX2_number 77 = .ok (.getfield 31, 3) := by decide +kernel
theorem dX2_number_80 : decode cX2_number 80 = .ok (.bipush 6, 2) := by decide +kernel
theorem dX2_number_82 : decode cX2_number 82 = .ok (.idiv, 1) := by decide +kernel
theorem dX2_number_83 : decode cX2_number 83 = .ok (.ireturn, 1) := by decide +kernel
theorem dX2_number_84 : decode cX2_number 84 = .ok (.aload_n 0, 1) := by decide +kernel
theorem dX2_number_85 : decode cX2_number 85 = .ok (.getfield 34, 3) := by decide +kernel
theorem dX2_number_88 : decode cX2_number 88 = .ok (.ireturn, 1) := by decide +kernel
set_option maxRecDepth 20000 in
theorem ggX2_nextX_X2_isHalfDone : GoodIn wsX2_nextX wsX2_isHalfDone := goodIn_r _ [7, 1, 8, 9, 10, 11, 12, 13, 14, 15, 16] (by decide +kernel) (by decide +kernel)
set_option maxRecDepth 20000 in
theorem gX2_nextX_X2_isHalfDone : GoodIn wsX2_nextX (wsV RX2 52 RX2 yX2_isHalfDone wsX2_isHalfDone) := goodIn_app (goodIn_of _ (by decide +kernel)) ggX2_nextX_X2_isHalfDone
theorem dX2_nextX_0 : decode cX2_nextX 0 = .ok (.aload_n 0, 1) := by decide +kernel
theorem dX2_nextX_1 : decode cX2_nextX 1 = .ok (.invokevirtual 52, 3) := by decide +kernel
theorem dX2_nextX_4 : decode cX2_nextX 4 = .ok (.ifCond .eq 5, 3) := by decide +kernel
theorem dX2_nextX_7 : decode cX2_nextX 7 = .ok (.iconst (-1), 1) := by decide +kernel
theorem dX2_nextX_8 : decode cX2_nextX 8 = .ok (.ireturn, 1) := by decide +kernel
theorem dX2_nextX_9 : decode cX2_nextX 9 = .ok (.aload_n 0, 1) := by decide +kernel
theorem dX2_nextX_10 : decode cX2_nextX 10 = .ok (.getfield 31, 3) := by decide +kernel
theorem dX2_nextX_13 : decode cX2_nextX 13 = .ok (.bipush 6, 2) := by decide +kernel
theorem dX2_nextX_15 : decode cX2_nextX 15 = .ok (.irem, 1) := by decide +kernel
theorem dX2_nextX_16 : decode cX2_nextX 16 = .ok (.istore_n 1, 1) := by decide +kernel
theorem dX2_nextX_17 : decode cX2_nextX 17 = .ok (.aload_n 0, 1) := by decide +kernel
theorem dX2_nextX_18 : decode cX2_nextX 18 = .ok (.getfield 37, 3) := by decide +kernel
theorem dX2_nextX_21 : decode cX2_nextX 21 = .ok (.ifCond .ne 7, 3) := by decide +kernel
theorem dX2_nextX_24 : decode cX2_nextX 24 = .ok (.iload_n 1, 1) := by decide +kernel
theorem dX2_nextX_25 : decode cX2_nextX 25 = .ok (.goto 7, 3) := by decide +kernel
theorem dX2_nextX_28 : decode cX2_nextX 28 = .ok (.bipush 11, 2) := by decide +kernel
theorem dX2_nextX_30 : decode cX2_nextX 30 = .ok (.iload_n 1, 1) := by decide +kernel
theorem dX2_nextX_31 : decode cX2_nextX 31 = .ok (.isub, 1) := by decide +kernel
theorem dX2_nextX_32 : decode cX2_nextX 32 = .ok (.ireturn, 1) := by decide +kernel
set_option maxRecDepth 20000 in
theorem ggX2_offPlan_X3_at : GoodIn wsX2_offPlan wsX3_at := goodIn_r _ [6] (by decide +kernel) (by decide +kernel)
set_option maxRecDepth 20000 in
theorem gX2_offPlan_X3_at_n44 : GoodIn wsX2_offPlan (wsX3_at) := ggX2_offPlan_X3_at
theorem dX2_offPlan_0 : decode cX2_offPlan 0 = .ok (.iconst 0, 1) := by decide +kernel
theorem dX2_offPlan_1 : decode cX2_offPlan 1 = .ok (.istore_n 1, 1) := by decide +kernel
theorem dX2_offPlan_2 : decode cX2_offPlan 2 = .ok (.iconst 0, 1) := by decide +kernel
theorem dX2_offPlan_3 : decode cX2_offPlan 3 = .ok (.istore_n 2, 1) := by decide +kernel
theorem dX2_offPlan_4 : decode cX2_offPlan 4 = .ok (.iload_n 2, 1) := by decide +kernel
theorem dX2_offPlan_5 : decode cX2_offPlan 5 = .ok (.aload_n 0, 1) := by decide +kernel
theorem dX2_offPlan_6 : decode cX2_offPlan 6 = .ok (.getfield 31, 3) := by decide +kernel
theorem dX2_offPlan_9 : decode cX2_offPlan 9 = .ok (.if_icmp .ge 31, 3) := by decide +kernel
theorem dX2_offPlan_12 : decode cX2_offPlan 12 = .ok (.aload_n 0, 1) := by decide +kernel
theorem dX2_offPlan_13 : decode cX2_offPlan 13 = .ok (.getfield 15, 3) := by decide +kernel
theorem dX2_offPlan_16 : decode cX2_offPlan 16 = .ok (.iload_n 2, 1) := by decide +kernel
theorem dX2_offPlan_17 : decode cX2_offPlan 17 = .ok (.invokestatic 44, 3) := by decide +kernel
theorem dX2_offPlan_20 : decode cX2_offPlan 20 = .ok (.aload_n 0, 1) := by decide +kernel
theorem dX2_offPlan_21 : decode cX2_offPlan 21 = .ok (.getfield 9, 3) := by decide +kernel
theorem dX2_offPlan_24 : decode cX2_offPlan 24 = .ok (.iload_n 2, 1) := by decide +kernel
theorem dX2_offPlan_25 : decode cX2_offPlan 25 = .ok (.invokestatic 44, 3) := by decide +kernel
theorem dX2_offPlan_28 : decode cX2_offPlan 28 = .ok (.if_icmp .eq 6, 3) := by decide +kernel
theorem dX2_offPlan_31 : decode cX2_offPlan 31 = .ok (.iinc 1 1, 3) := by decide +kernel
theorem dX2_offPlan_34 : decode cX2_offPlan 34 = .ok (.iinc 2 1, 3) := by decide +kernel
theorem dX2_offPlan_37 : decode cX2_offPlan 37 = .ok (.goto (-33), 3) := by decide +kernel
theorem dX2_offPlan_40 : decode cX2_offPlan 40 = .ok (.iload_n 1, 1) := by decide +kernel
theorem dX2_offPlan_41 : decode cX2_offPlan 41 = .ok (.ireturn, 1) := by decide +kernel
set_option maxRecDepth 20000 in
theorem ggX2_firstOffPlan_X3_at : GoodIn wsX2_firstOffPlan wsX3_at := goodIn_r _ [6] (by decide +kernel) (by decide +kernel)
set_option maxRecDepth 20000 in
theorem gX2_firstOffPlan_X3_at_n44 : GoodIn wsX2_firstOffPlan (wsX3_at) := ggX2_firstOffPlan_X3_at
theorem dX2_firstOffPlan_0 : decode cX2_firstOffPlan 0 = .ok (.iconst 0, 1) := by decide +kernel
theorem dX2_firstOffPlan_1 : decode cX2_firstOffPlan 1 = .ok (.istore_n 1, 1) := by decide +kernel
theorem dX2_firstOffPlan_2 : decode cX2_firstOffPlan 2 = .ok (.iload_n 1, 1) := by decide +kernel
theorem dX2_firstOffPlan_3 : decode cX2_firstOffPlan 3 = .ok (.aload_n 0, 1) := by decide +kernel
theorem dX2_firstOffPlan_4 : decode cX2_firstOffPlan 4 = .ok (.getfield 31, 3) := by decide +kernel
theorem dX2_firstOffPlan_7 : decode cX2_firstOffPlan 7 = .ok (.if_icmp .ge 28, 3) := by decide +kernel
theorem dX2_firstOffPlan_10 : decode cX2_firstOffPlan 10 = .ok (.aload_n 0, 1) := by decide +kernel
theorem dX2_firstOffPlan_11 : decode cX2_firstOffPlan 11 = .ok (.getfield 15, 3) := by decide +kernel
theorem dX2_firstOffPlan_14 : decode cX2_firstOffPlan 14 = .ok (.iload_n 1, 1) := by decide +kernel
theorem dX2_firstOffPlan_15 : decode cX2_firstOffPlan 15 = .ok (.invokestatic 44, 3) := by decide +kernel
theorem dX2_firstOffPlan_18 : decode cX2_firstOffPlan 18 = .ok (.aload_n 0, 1) := by decide +kernel
theorem dX2_firstOffPlan_19 : decode cX2_firstOffPlan 19 = .ok (.getfield 9, 3) := by decide +kernel
theorem dX2_firstOffPlan_22 : decode cX2_firstOffPlan 22 = .ok (.iload_n 1, 1) := by decide +kernel
theorem dX2_firstOffPlan_23 : decode cX2_firstOffPlan 23 = .ok (.invokestatic 44, 3) := by decide +kernel
theorem dX2_firstOffPlan_26 : decode cX2_firstOffPlan 26 = .ok (.if_icmp .ne 9, 3) := by decide +kernel
theorem dX2_firstOffPlan_29 : decode cX2_firstOffPlan 29 = .ok (.iinc 1 1, 3) := by decide +kernel
theorem dX2_firstOffPlan_32 : decode cX2_firstOffPlan 32 = .ok (.goto (-30), 3) := by decide +kernel
theorem dX2_firstOffPlan_35 : decode cX2_firstOffPlan 35 = .ok (.iload_n 1, 1) := by decide +kernel
theorem dX2_firstOffPlan_36 : decode cX2_firstOffPlan 36 = .ok (.ireturn, 1) := by decide +kernel
set_option maxRecDepth 20000 in
theorem ggX2_alikeAhead_X3_at : GoodIn wsX2_alikeAhead wsX3_at := goodIn_r _ [5] (by decide +kernel) (by decide +kernel)
set_option maxRecDepth 20000 in
theorem gX2_alikeAhead_X3_at_n44 : GoodIn wsX2_alikeAhead (wsX3_at) := ggX2_alikeAhead_X3_at
theorem dX2_alikeAhead_0 : decode cX2_alikeAhead 0 = .ok (.aload_n 0, 1) := by decide +kernel
theorem dX2_alikeAhead_1 : decode cX2_alikeAhead 1 = .ok (.getfield 31, 3) := by decide +kernel
theorem dX2_alikeAhead_4 : decode cX2_alikeAhead 4 = .ok (.istore_n 1, 1) := by decide +kernel
theorem dX2_alikeAhead_5 : decode cX2_alikeAhead 5 = .ok (.iload_n 1, 1) := by decide +kernel
theorem dX2_alikeAhead_6 : decode cX2_alikeAhead 6 = .ok (.bipush 60, 2) := by decide +kernel
theorem dX2_alikeAhead_8 : decode cX2_alikeAhead 8 = .ok (.if_icmp .ge 31, 3) := by decide +kernel
theorem dX2_alikeAhead_11 : decode cX2_alikeAhead 11 = .ok (.aload_n 0, 1) := by decide +kernel
theorem dX2_alikeAhead_12 : decode cX2_alikeAhead 12 = .ok (.getfield 9, 3) := by decide +kernel
theorem dX2_alikeAhead_15 : decode cX2_alikeAhead 15 = .ok (.iload_n 1, 1) := by decide +kernel
theorem dX2_alikeAhead_16 : decode cX2_alikeAhead 16 = .ok (.invokestatic 44, 3) := by decide +kernel
theorem dX2_alikeAhead_19 : decode cX2_alikeAhead 19 = .ok (.aload_n 0, 1) := by decide +kernel
theorem dX2_alikeAhead_20 : decode cX2_alikeAhead 20 = .ok (.getfield 9, 3) := by decide +kernel
theorem dX2_alikeAhead_23 : decode cX2_alikeAhead 23 = .ok (.aload_n 0, 1) := by decide +kernel
theorem dX2_alikeAhead_24 : decode cX2_alikeAhead 24 = .ok (.getfield 31, 3) := by decide +kernel
theorem dX2_alikeAhead_27 : decode cX2_alikeAhead 27 = .ok (.invokestatic 44, 3) := by decide +kernel
theorem dX2_alikeAhead_30 : decode cX2_alikeAhead 30 = .ok (.if_icmp .ne 9, 3) := by decide +kernel
theorem dX2_alikeAhead_33 : decode cX2_alikeAhead 33 = .ok (.iinc 1 1, 3) := by decide +kernel
theorem dX2_alikeAhead_36 : decode cX2_alikeAhead 36 = .ok (.goto (-31), 3) := by decide +kernel
theorem dX2_alikeAhead_39 : decode cX2_alikeAhead 39 = .ok (.iload_n 1, 1) := by decide +kernel
theorem dX2_alikeAhead_40 : decode cX2_alikeAhead 40 = .ok (.aload_n 0, 1) := by decide +kernel
theorem dX2_alikeAhead_41 : decode cX2_alikeAhead 41 = .ok (.getfield 31, 3) := by decide +kernel
theorem dX2_alikeAhead_44 : decode cX2_alikeAhead 44 = .ok (.isub, 1) := by decide +kernel
theorem dX2_alikeAhead_45 : decode cX2_alikeAhead 45 = .ok (.ireturn, 1) := by decide +kernel
set_option maxRecDepth 20000 in
theorem ggX2_fewestRuns_X2_isHalfDone : GoodIn wsX2_fewestRuns wsX2_isHalfDone := goodIn_r _ [7, 1, 11, 12, 13, 14, 15, 16, 17, 18, 19] (by decide +kernel) (by decide +kernel)
set_option maxRecDepth 20000 in
theorem gX2_fewestRuns_X2_isHalfDone : GoodIn wsX2_fewestRuns (wsV RX2 52 RX2 yX2_isHalfDone wsX2_isHalfDone) := goodIn_app (goodIn_of _ (by decide +kernel)) ggX2_fewestRuns_X2_isHalfDone
set_option maxRecDepth 20000 in
theorem ggX2_fewestRuns_X3_at : GoodIn wsX2_fewestRuns wsX3_at := goodIn_r _ [10] (by decide +kernel) (by decide +kernel)
set_option maxRecDepth 20000 in
theorem gX2_fewestRuns_X3_at_n44 : GoodIn wsX2_fewestRuns (wsX3_at) := ggX2_fewestRuns_X3_at
theorem dX2_fewestRuns_0 : decode cX2_fewestRuns 0 = .ok (.aload_n 0, 1) := by decide +kernel
theorem dX2_fewestRuns_1 : decode cX2_fewestRuns 1 = .ok (.invokevirtual 52, 3) := by decide +kernel
theorem dX2_fewestRuns_4 : decode cX2_fewestRuns 4 = .ok (.ifCond .eq 7, 3) := by decide +kernel
theorem dX2_fewestRuns_7 : decode cX2_fewestRuns 7 = .ok (.iconst 0, 1) := by decide +kernel
theorem dX2_fewestRuns_8 : decode cX2_fewestRuns 8 = .ok (.goto 4, 3) := by decide +kernel
theorem dX2_fewestRuns_11 : decode cX2_fewestRuns 11 = .ok (.iconst 1, 1) := by decide +kernel
theorem dX2_fewestRuns_12 : decode cX2_fewestRuns 12 = .ok (.istore_n 1, 1) := by decide +kernel
theorem dX2_fewestRuns_13 : decode cX2_fewestRuns 13 = .ok (.aload_n 0, 1) := by decide +kernel
theorem dX2_fewestRuns_14 : decode cX2_fewestRuns 14 = .ok (.getfield 31, 3) := by decide +kernel
theorem dX2_fewestRuns_17 : decode cX2_fewestRuns 17 = .ok (.iconst 1, 1) := by decide +kernel
theorem dX2_fewestRuns_18 : decode cX2_fewestRuns 18 = .ok (.iadd, 1) := by decide +kernel
theorem dX2_fewestRuns_19 : decode cX2_fewestRuns 19 = .ok (.istore_n 2, 1) := by decide +kernel
theorem dX2_fewestRuns_20 : decode cX2_fewestRuns 20 = .ok (.iload_n 2, 1) := by decide +kernel
theorem dX2_fewestRuns_21 : decode cX2_fewestRuns 21 = .ok (.bipush 60, 2) := by decide +kernel
theorem dX2_fewestRuns_23 : decode cX2_fewestRuns 23 = .ok (.if_icmp .ge 33, 3) := by decide +kernel
theorem dX2_fewestRuns_26 : decode cX2_fewestRuns 26 = .ok (.aload_n 0, 1) := by decide +kernel
theorem dX2_fewestRuns_27 : decode cX2_fewestRuns 27 = .ok (.getfield 9, 3) := by decide +kernel
theorem dX2_fewestRuns_30 : decode cX2_fewestRuns 30 = .ok (.iload_n 2, 1) := by decide +kernel
theorem dX2_fewestRuns_31 : decode cX2_fewestRuns 31 = .ok (.invokestatic 44, 3) := by decide +kernel
theorem dX2_fewestRuns_34 : decode cX2_fewestRuns 34 = .ok (.aload_n 0, 1) := by decide +kernel
theorem dX2_fewestRuns_35 : decode cX2_fewestRuns 35 = .ok (.getfield 9, 3) := by decide +kernel
theorem dX2_fewestRuns_38 : decode cX2_fewestRuns 38 = .ok (.iload_n 2, 1) := by decide +kernel
theorem dX2_fewestRuns_39 : decode cX2_fewestRuns 39 = .ok (.iconst 1, 1) := by decide +kernel
theorem dX2_fewestRuns_40 : decode cX2_fewestRuns 40 = .ok (.isub, 1) := by decide +kernel
theorem dX2_fewestRuns_41 : decode cX2_fewestRuns 41 = .ok (.invokestatic 44, 3) := by decide +kernel
theorem dX2_fewestRuns_44 : decode cX2_fewestRuns 44 = .ok (.if_icmp .eq 6, 3) := by decide +kernel
theorem dX2_fewestRuns_47 : decode cX2_fewestRuns 47 = .ok (.iinc 1 1, 3) := by decide +kernel
theorem dX2_fewestRuns_50 : decode cX2_fewestRuns 50 = .ok (.iinc 2 1, 3) := by decide +kernel
theorem dX2_fewestRuns_53 : decode cX2_fewestRuns 53 = .ok (.goto (-33), 3) := by decide +kernel
theorem dX2_fewestRuns_56 : decode cX2_fewestRuns 56 = .ok (.iload_n 1, 1) := by decide +kernel
theorem dX2_fewestRuns_57 : decode cX2_fewestRuns 57 = .ok (.ireturn, 1) := by decide +kernel
set_option maxRecDepth 20000 in
theorem ggX2_mixInto_X2_number : GoodIn wsX2_mixInto wsX2_number := goodIn_r _ [8, 9, 1, 10, 11, 12, 13, 14, 7, 15, 3, 16, 17, 18, 19, 20, 21, 22, 23, 24, 25, 26, 27, 31, 32, 33, 34, 35, 36, 37, 38, 39] (by decide +kernel) (by decide +kernel)
set_option maxRecDepth 20000 in
theorem gX2_mixInto_X2_number : GoodIn wsX2_mixInto (wsV RX2 83 RX2 yX2_number wsX2_number) := goodIn_app (goodIn_of _ (by decide +kernel)) ggX2_mixInto_X2_number
set_option maxRecDepth 20000 in
theorem ggX2_mixInto_X3_mix : GoodIn wsX2_mixInto wsX3_mix := goodIn_r _ [29, 30] (by decide +kernel) (by decide +kernel)
set_option maxRecDepth 20000 in
theorem gX2_mixInto_X3_mix_n86 : GoodIn wsX2_mixInto (wsX3_mix) := ggX2_mixInto_X3_mix
set_option maxRecDepth 20000 in
theorem ggX2_mixInto_X3_at : GoodIn wsX2_mixInto wsX3_at := goodIn_r _ [18] (by decide +kernel) (by decide +kernel)
set_option maxRecDepth 20000 in
theorem gX2_mixInto_X3_at_n44 : GoodIn wsX2_mixInto (wsX3_at) := ggX2_mixInto_X3_at
theorem dX2_mixInto_0 : decode cX2_mixInto 0 = .ok (.lload_n 1, 1) := by decide +kernel
theorem dX2_mixInto_1 : decode cX2_mixInto 1 = .ok (.lstore_n 3, 1) := by decide +kernel
theorem dX2_mixInto_2 : decode cX2_mixInto 2 = .ok (.iconst 0, 1) := by decide +kernel
theorem dX2_mixInto_3 : decode cX2_mixInto 3 = .ok (.istore 5, 2) := by decide +kernel
theorem dX2_mixInto_5 : decode cX2_mixInto 5 = .ok (.iload 5, 2) := by decide +kernel
theorem dX2_mixInto_7 : decode cX2_mixInto 7 = .ok (.bipush 7, 2) := by decide +kernel
theorem dX2_mixInto_9 : decode cX2_mixInto 9 = .ok (.if_icmp .ge 20, 3) := by decide +kernel
theorem dX2_mixInto_12 : decode cX2_mixInto 12 = .ok (.lload_n 3, 1) := by decide +kernel
theorem dX2_mixInto_13 : decode cX2_mixInto 13 = .ok (.aload_n 0, 1) := by decide +kernel
theorem dX2_mixInto_14 : decode cX2_mixInto 14 = .ok (.iload 5, 2) := by decide +kernel
theorem dX2_mixInto_16 : decode cX2_mixInto 16 = .ok (.invokevirtual 83, 3) := by decide +kernel
theorem dX2_mixInto_19 : decode cX2_mixInto 19 = .ok (.invokestatic 86, 3) := by decide +kernel
theorem dX2_mixInto_22 : decode cX2_mixInto 22 = .ok (.lstore_n 3, 1) := by decide +kernel
theorem dX2_mixInto_23 : decode cX2_mixInto 23 = .ok (.iinc 5 1, 3) := by decide +kernel
theorem dX2_mixInto_26 : decode cX2_mixInto 26 = .ok (.goto (-21), 3) := by decide +kernel
theorem dX2_mixInto_29 : decode cX2_mixInto 29 = .ok (.iconst 0, 1) := by decide +kernel
theorem dX2_mixInto_30 : decode cX2_mixInto 30 = .ok (.istore 5, 2) := by decide +kernel
theorem dX2_mixInto_32 : decode cX2_mixInto 32 = .ok (.iload 5, 2) := by decide +kernel
theorem dX2_mixInto_34 : decode cX2_mixInto 34 = .ok (.aload_n 0, 1) := by decide +kernel
theorem dX2_mixInto_35 : decode cX2_mixInto 35 = .ok (.getfield 28, 3) := by decide +kernel
theorem dX2_mixInto_38 : decode cX2_mixInto 38 = .ok (.if_icmp .ge 37, 3) := by decide +kernel
theorem dX2_mixInto_41 : decode cX2_mixInto 41 = .ok (.lload_n 3, 1) := by decide +kernel
theorem dX2_mixInto_42 : decode cX2_mixInto 42 = .ok (.aload_n 0, 1) := by decide +kernel
theorem dX2_mixInto_43 : decode cX2_mixInto 43 = .ok (.getfield 18, 3) := by decide +kernel
theorem dX2_mixInto_46 : decode cX2_mixInto 46 = .ok (.iload 5, 2) := by decide +kernel
theorem dX2_mixInto_48 : decode cX2_mixInto 48 = .ok (.invokestatic 44, 3) := by decide +kernel
theorem dX2_mixInto_51 : decode cX2_mixInto 51 = .ok (.invokestatic 86, 3) := by decide +kernel
theorem dX2_mixInto_54 : decode cX2_mixInto 54 = .ok (.lstore_n 3, 1) := by decide +kernel
theorem dX2_mixInto_55 : decode cX2_mixInto 55 = .ok (.lload_n 3, 1) := by decide +kernel
theorem dX2_mixInto_56 : decode cX2_mixInto 56 = .ok (.aload_n 0, 1) := by decide +kernel
theorem dX2_mixInto_57 : decode cX2_mixInto 57 = .ok (.getfield 21, 3) := by decide +kernel
theorem dX2_mixInto_60 : decode cX2_mixInto 60 = .ok (.iload 5, 2) := by decide +kernel
theorem dX2_mixInto_62 : decode cX2_mixInto 62 = .ok (.invokestatic 44, 3) := by decide +kernel
theorem dX2_mixInto_65 : decode cX2_mixInto 65 = .ok (.invokestatic 86, 3) := by decide +kernel
theorem dX2_mixInto_68 : decode cX2_mixInto 68 = .ok (.lstore_n 3, 1) := by decide +kernel
theorem dX2_mixInto_69 : decode cX2_mixInto 69 = .ok (.iinc 5 1, 3) := by decide +kernel
theorem dX2_mixInto_72 : decode cX2_mixInto 72 = .ok (.goto (-40), 3) := by decide +kernel
theorem dX2_mixInto_75 : decode cX2_mixInto 75 = .ok (.lload_n 3, 1) := by decide +kernel
theorem dX2_mixInto_76 : decode cX2_mixInto 76 = .ok (.lreturn, 1) := by decide +kernel
set_option maxRecDepth 20000 in
theorem ggX3_init_X1_init : GoodIn wsX3_init wsX1_init := goodIn_r _ [10, 11, 2, 3, 12, 13, 14, 15, 16, 17, 18, 19, 20, 21, 22, 23, 24, 25, 26, 27, 28, 29, 30, 31, 32, 33, 34, 35, 36, 37, 38, 39, 40, 41, 49, 50, 51, 52, 53, 54, 55, 56, 57, 42, 43, 44, 45, 46, 58] (by decide +kernel) (by decide +kernel)
set_option maxRecDepth 20000 in
theorem gX3_init_X1_init_n9 : GoodIn wsX3_init (wsX1_init) := ggX3_init_X1_init
theorem dX3_init_0 : decode cX3_init 0 = .ok (.aload_n 0, 1) := by decide +kernel
theorem dX3_init_1 : decode cX3_init 1 = .ok (.invokespecial 1, 3) := by decide +kernel
theorem dX3_init_4 : decode cX3_init 4 = .ok (.aload_n 0, 1) := by decide +kernel
theorem dX3_init_5 : decode cX3_init 5 = .ok (.new 7, 3) := by decide +kernel
theorem dX3_init_8 : decode cX3_init 8 = .ok (.dup, 1) := by decide +kernel
theorem dX3_init_9 : decode cX3_init 9 = .ok (.invokespecial 9, 3) := by decide +kernel
theorem dX3_init_12 : decode cX3_init 12 = .ok (.putfield 10, 3) := by decide +kernel
theorem dX3_init_15 : decode cX3_init 15 = .ok (.aload_n 0, 1) := by decide +kernel
theorem dX3_init_16 : decode cX3_init 16 = .ok (.new 7, 3) := by decide +kernel
theorem dX3_init_19 : decode cX3_init 19 = .ok (.dup, 1) := by decide +kernel
theorem dX3_init_20 : decode cX3_init 20 = .ok (.invokespecial 9, 3) := by decide +kernel
theorem dX3_init_23 : decode cX3_init 23 = .ok (.putfield 16, 3) := by decide +kernel
theorem dX3_init_26 : decode cX3_init 26 = .ok (.return_, 1) := by decide +kernel
set_option maxRecDepth 20000 in
theorem ggX3_plan_X3_checkCell : GoodIn wsX3_plan wsX3_checkCell := goodIn_ca (goodIn_r _ [5, 6, 7, 4, 8, 9, 10] (by decide +kernel) (by decide +kernel)) (goodIn_sub (fun _ h => List.mem_cons_of_mem _ (List.mem_append_left _ (List.mem_append_right _ h))) (by decide +kernel))
set_option maxRecDepth 20000 in
theorem gX3_plan_X3_checkCell : GoodIn wsX3_plan (va_wsS RX3 19 yX3_checkCell wsX3_checkCell) := goodIn_app (goodIn_of _ (by decide +kernel)) ggX3_plan_X3_checkCell
set_option maxRecDepth 20000 in
theorem ggX3_plan_X3_checkRange : GoodIn wsX3_plan wsX3_checkRange := goodIn_ca (goodIn_r _ [13, 14, 15] (by decide +kernel) (by decide +kernel)) (goodIn_sub (fun _ h => List.mem_cons_of_mem _ (List.mem_append_right _ h)) (by decide +kernel))
set_option maxRecDepth 20000 in
theorem gX3_plan_X3_checkRange : GoodIn wsX3_plan (va_wsS RX3 23 yX3_checkRange wsX3_checkRange) := goodIn_app (goodIn_of _ (by decide +kernel)) ggX3_plan_X3_checkRange
set_option maxRecDepth 20000 in
theorem ggX3_plan_X3_checkColour : GoodIn wsX3_plan wsX3_checkColour := goodIn_ca (goodIn_r _ [18, 11, 12, 4, 13, 14, 15] (by decide +kernel) (by decide +kernel)) (goodIn_sub (fun _ h => List.mem_cons_of_mem _ (List.mem_append_right _ h)) (by decide +kernel))
set_option maxRecDepth 20000 in
theorem gX3_plan_X3_checkColour : GoodIn wsX3_plan (va_wsS RX3 27 yX3_checkColour wsX3_checkColour) := goodIn_app (goodIn_of _ (by decide +kernel)) ggX3_plan_X3_checkColour
set_option maxRecDepth 20000 in
theorem ggX3_plan_X1_ownerOf : GoodIn wsX3_plan wsX1_ownerOf := goodIn_r _ [23, 24, 4, 25, 26, 27, 28, 22, 29, 30, 31, 47, 48, 49, 50, 51] (by decide +kernel) (by decide +kernel)
set_option maxRecDepth 20000 in
theorem gX3_plan_X1_ownerOf : GoodIn wsX3_plan (wsV RX3 31 RX1 yX1_ownerOf wsX1_ownerOf) := goodIn_app (goodIn_of _ (by decide +kernel)) ggX3_plan_X1_ownerOf
set_option maxRecDepth 20000 in
theorem ggX3_plan_X3_placeOf : GoodIn wsX3_plan wsX3_placeOf := goodIn_r _ [34] (by decide +kernel) (by decide +kernel)
set_option maxRecDepth 20000 in
theorem gX3_plan_X3_placeOf : GoodIn wsX3_plan (va_wsS RX3 35 yX3_placeOf wsX3_placeOf) := goodIn_app (goodIn_of _ (by decide +kernel)) ggX3_plan_X3_placeOf
set_option maxRecDepth 20000 in
theorem ggX3_plan_X2_planCell : GoodIn wsX3_plan wsX2_planCell := goodIn_r _ [39, 40, 41, 4, 42, 43, 44, 52, 53, 54, 55, 56, 57, 58, 59, 60] (by decide +kernel) (by decide +kernel)
set_option maxRecDepth 20000 in
theorem gX3_plan_X2_planCell : GoodIn wsX3_plan (wsV RX3 39 RX2 yX2_planCell wsX2_planCell) := goodIn_app (goodIn_of _ (by decide +kernel)) ggX3_plan_X2_planCell
theorem dX3_plan_0 : decode cX3_plan 0 = .ok (.iload_n 1, 1) := by decide +kernel
theorem dX3_plan_1 : decode cX3_plan 1 = .ok (.iload_n 2, 1) := by decide +kernel
theorem dX3_plan_2 : decode cX3_plan 2 = .ok (.invokestatic 19, 3) := by decide +kernel
theorem dX3_plan_5 : decode cX3_plan 5 = .ok (.iload_n 3, 1) := by decide +kernel
theorem dX3_plan_6 : decode cX3_plan 6 = .ok (.iconst 1, 1) := by decide +kernel
theorem dX3_plan_7 : decode cX3_plan 7 = .ok (.bipush 12, 2) := by decide +kernel
theorem dX3_plan_9 : decode cX3_plan 9 = .ok (.iload_n 1, 1) := by decide +kernel
theorem dX3_plan_10 : decode cX3_plan 10 = .ok (.isub, 1) := by decide +kernel
theorem dX3_plan_11 : decode cX3_plan 11 = .ok (.invokestatic 23, 3) := by decide +kernel
theorem dX3_plan_14 : decode cX3_plan 14 = .ok (.iload 4, 2) := by decide +kernel
theorem dX3_plan_16 : decode cX3_plan 16 = .ok (.iconst 1, 1) := by decide +kernel
theorem dX3_plan_17 : decode cX3_plan 17 = .ok (.bipush 10, 2) := by decide +kernel
theorem dX3_plan_19 : decode cX3_plan 19 = .ok (.iload_n 2, 1) := by decide +kernel
theorem dX3_plan_20 : decode cX3_plan 20 = .ok (.isub, 1) := by decide +kernel
theorem dX3_plan_21 : decode cX3_plan 21 = .ok (.invokestatic 23, 3) := by decide +kernel
theorem dX3_plan_24 : decode cX3_plan 24 = .ok (.iload 5, 2) := by decide +kernel
theorem dX3_plan_26 : decode cX3_plan 26 = .ok (.invokestatic 27, 3) := by decide +kernel
theorem dX3_plan_29 : decode cX3_plan 29 = .ok (.iconst 0, 1) := by decide +kernel
theorem dX3_plan_30 : decode cX3_plan 30 = .ok (.istore 6, 2) := by decide +kernel
theorem dX3_plan_32 : decode cX3_plan 32 = .ok (.iload_n 2, 1) := by decide +kernel
theorem dX3_plan_33 : decode cX3_plan 33 = .ok (.istore 7, 2) := by decide +kernel
theorem dX3_plan_35 : decode cX3_plan 35 = .ok (.iload 7, 2) := by decide +kernel
theorem dX3_plan_37 : decode cX3_plan 37 = .ok (.iload_n 2, 1) := by decide +kernel
theorem dX3_plan_38 : decode cX3_plan 38 = .ok (.iload 4, 2) := by decide +kernel
theorem dX3_plan_40 : decode cX3_plan 40 = .ok (.iadd, 1) := by decide +kernel
theorem dX3_plan_41 : decode cX3_plan 41 = .ok (.if_icmp .ge 53, 3) := by decide +kernel
theorem dX3_plan_44 : decode cX3_plan 44 = .ok (.iload_n 1, 1) := by decide +kernel
theorem dX3_plan_45 : decode cX3_plan 45 = .ok (.istore 8, 2) := by decide +kernel
theorem dX3_plan_47 : decode cX3_plan 47 = .ok (.iload 8, 2) := by decide +kernel
theorem dX3_plan_49 : decode cX3_plan 49 = .ok (.iload_n 1, 1) := by decide +kernel
theorem dX3_plan_50 : decode cX3_plan 50 = .ok (.iload_n 3, 1) := by decide +kernel
theorem dX3_plan_51 : decode cX3_plan 51 = .ok (.iadd, 1) := by decide +kernel
theorem dX3_plan_52 : decode cX3_plan 52 = .ok (.if_icmp .ge 36, 3) := by decide +kernel
theorem dX3_plan_55 : decode cX3_plan 55 = .ok (.aload_n 0, 1) := by decide +kernel
theorem dX3_plan_56 : decode cX3_plan 56 = .ok (.getfield 10, 3) := by decide +kernel
theorem dX3_plan_59 : decode cX3_plan 59 = .ok (.iload 8, 2) := by decide +kernel
theorem dX3_plan_61 : decode cX3_plan 61 = .ok (.invokevirtual 31, 3) := by decide +kernel
theorem dX3_plan_64 : decode cX3_plan 64 = .ok (.iload 8, 2) := by decide +kernel
theorem dX3_plan_66 : decode cX3_plan 66 = .ok (.iload 7, 2) := by decide +kernel
theorem dX3_plan_68 : decode cX3_plan 68 = .ok (.invokestatic 35, 3) := by decide +kernel
theorem dX3_plan_71 : decode cX3_plan 71 = .ok (.iload 5, 2) := by decide +kernel
theorem dX3_plan_73 : decode cX3_plan 73 = .ok (.invokevirtual 39, 3) := by decide +kernel
theorem dX3_plan_76 : decode cX3_plan 76 = .ok (.ifCond .eq 6, 3) := by decide +kernel
theorem dX3_plan_79 : decode cX3_plan 79 = .ok (.iinc 6 1, 3) := by decide +kernel
theorem dX3_plan_82 : decode cX3_plan 82 = .ok (.iinc 8 1, 3) := by decide +kernel
theorem dX3_plan_85 : decode cX3_plan 85 = .ok (.goto (-38), 3) := by decide +kernel
theorem dX3_plan_88 : decode cX3_plan 88 = .ok (.iinc 7 1, 3) := by decide +kernel
theorem dX3_plan_91 : decode cX3_plan 91 = .ok (.goto (-56), 3) := by decide +kernel
theorem dX3_plan_94 : decode cX3_plan 94 = .ok (.iload 6, 2) := by decide +kernel
theorem dX3_plan_96 : decode cX3_plan 96 = .ok (.ireturn, 1) := by decide +kernel
set_option maxRecDepth 20000 in
theorem ggX3_bring_X3_checkColour : GoodIn wsX3_bring wsX3_checkColour := goodIn_ca (goodIn_r _ [5, 6, 7, 4, 8, 9, 10] (by decide +kernel) (by decide +kernel)) (goodIn_sub (fun _ h => List.mem_cons_of_mem _ (List.mem_append_right _ h)) (by decide +kernel))
set_option maxRecDepth 20000 in
theorem gX3_bring_X3_checkColour : GoodIn wsX3_bring (va_wsS RX3 27 yX3_checkColour wsX3_checkColour) := goodIn_app (goodIn_of _ (by decide +kernel)) ggX3_bring_X3_checkColour
set_option maxRecDepth 20000 in
theorem ggX3_bring_X3_checkRange : GoodIn wsX3_bring wsX3_checkRange := goodIn_ca (goodIn_r _ [8, 9, 10] (by decide +kernel) (by decide +kernel)) (goodIn_sub (fun _ h => List.mem_cons_of_mem _ (List.mem_append_right _ h)) (by decide +kernel))
set_option maxRecDepth 20000 in
theorem gX3_bring_X3_checkRange : GoodIn wsX3_bring (va_wsS RX3 23 yX3_checkRange wsX3_checkRange) := goodIn_app (goodIn_of _ (by decide +kernel)) ggX3_bring_X3_checkRange
set_option maxRecDepth 20000 in
theorem ggX3_bring_X0_fill : GoodIn wsX3_bring wsX0_fill := goodIn_r _ [15, 16, 17, 18, 19, 20, 21, 4, 22, 23, 24, 32] (by decide +kernel) (by decide +kernel)
set_option maxRecDepth 20000 in
theorem gX3_bring_X0_fill : GoodIn wsX3_bring (wsV RX3 49 RX0 yX0_fill wsX0_fill) := goodIn_app (goodIn_of _ (by decide +kernel)) ggX3_bring_X0_fill
theorem dX3_bring_0 : decode cX3_bring 0 = .ok (.iload_n 1, 1) := by decide +kernel
theorem dX3_bring_1 : decode cX3_bring 1 = .ok (.invokestatic 27, 3) := by decide +kernel
theorem dX3_bring_4 : decode cX3_bring 4 = .ok (.iload_n 2, 1) := by decide +kernel
theorem dX3_bring_5 : decode cX3_bring 5 = .ok (.iconst 1, 1) := by decide +kernel
theorem dX3_bring_6 : decode cX3_bring 6 = .ok (.sipush 200, 3) := by decide +kernel
theorem dX3_bring_9 : decode cX3_bring 9 = .ok (.invokestatic 23, 3) := by decide +kernel
theorem dX3_bring_12 : decode cX3_bring 12 = .ok (.aload_n 0, 1) := by decide +kernel
theorem dX3_bring_13 : decode cX3_bring 13 = .ok (.getfield 10, 3) := by decide +kernel
theorem dX3_bring_16 : decode cX3_bring 16 = .ok (.getfield 45, 3) := by decide +kernel
theorem dX3_bring_19 : decode cX3_bring 19 = .ok (.iload_n 1, 1) := by decide +kernel
theorem dX3_bring_20 : decode cX3_bring 20 = .ok (.iload_n 2, 1) := by decide +kernel
theorem dX3_bring_21 : decode cX3_bring 21 = .ok (.invokevirtual 49, 3) := by decide +kernel
theorem dX3_bring_24 : decode cX3_bring 24 = .ok (.ireturn, 1) := by decide +kernel
set_option maxRecDepth 20000 in
theorem ggX3_setSpeed_X3_checkWeaver : GoodIn wsX3_setSpeed wsX3_checkWeaver := goodIn_ca (goodIn_r _ [5, 6, 7, 4, 8, 9, 10] (by decide +kernel) (by decide +kernel)) (goodIn_sub (fun _ h => List.mem_cons_of_mem _ (List.mem_append_left _ (List.mem_append_right _ h))) (by decide +kernel))
set_option maxRecDepth 20000 in
theorem gX3_setSpeed_X3_checkWeaver : GoodIn wsX3_setSpeed (va_wsS RX3 54 yX3_checkWeaver wsX3_checkWeaver) := goodIn_app (goodIn_of _ (by decide +kernel)) ggX3_setSpeed_X3_checkWeaver
set_option maxRecDepth 20000 in
theorem ggX3_setSpeed_X3_checkRange : GoodIn wsX3_setSpeed wsX3_checkRange := goodIn_ca (goodIn_r _ [13, 14, 15] (by decide +kernel) (by decide +kernel)) (goodIn_sub (fun _ h => List.mem_cons_of_mem _ (List.mem_append_right _ h)) (by decide +kernel))
set_option maxRecDepth 20000 in
theorem gX3_setSpeed_X3_checkRange : GoodIn wsX3_setSpeed (va_wsS RX3 23 yX3_checkRange wsX3_checkRange) := goodIn_app (goodIn_of _ (by decide +kernel)) ggX3_setSpeed_X3_checkRange
set_option maxRecDepth 20000 in
theorem ggX3_setSpeed_X1_weaverAt : GoodIn wsX3_setSpeed wsX1_weaverAt := goodIn_r _ [20, 21, 22, 34, 35, 36, 37, 38] (by decide +kernel) (by decide +kernel)
set_option maxRecDepth 20000 in
theorem gX3_setSpeed_X1_weaverAt : GoodIn wsX3_setSpeed (wsV RX3 57 RX1 yX1_weaverAt wsX1_weaverAt) := goodIn_app (goodIn_of _ (by decide +kernel)) ggX3_setSpeed_X1_weaverAt
theorem dX3_setSpeed_0 : decode cX3_setSpeed 0 = .ok (.iload_n 1, 1) := by decide +kernel
theorem dX3_setSpeed_1 : decode cX3_setSpeed 1 = .ok (.invokestatic 54, 3) := by decide +kernel
theorem dX3_setSpeed_4 : decode cX3_setSpeed 4 = .ok (.iload_n 2, 1) := by decide +kernel
theorem dX3_setSpeed_5 : decode cX3_setSpeed 5 = .ok (.iconst 1, 1) := by decide +kernel
theorem dX3_setSpeed_6 : decode cX3_setSpeed 6 = .ok (.bipush 6, 2) := by decide +kernel
theorem dX3_setSpeed_8 : decode cX3_setSpeed 8 = .ok (.invokestatic 23, 3) := by decide +kernel
theorem dX3_setSpeed_11 : decode cX3_setSpeed 11 = .ok (.aload_n 0, 1) := by decide +kernel
theorem dX3_setSpeed_12 : decode cX3_setSpeed 12 = .ok (.getfield 10, 3) := by decide +kernel
theorem dX3_setSpeed_15 : decode cX3_setSpeed 15 = .ok (.iload_n 1, 1) := by decide +kernel
theorem dX3_setSpeed_16 : decode cX3_setSpeed 16 = .ok (.invokevirtual 57, 3) := by decide +kernel
theorem dX3_setSpeed_19 : decode cX3_setSpeed 19 = .ok (.astore_n 3, 1) := by decide +kernel
theorem dX3_setSpeed_20 : decode cX3_setSpeed 20 = .ok (.aload_n 3, 1) := by decide +kernel
theorem dX3_setSpeed_21 : decode cX3_setSpeed 21 = .ok (.getfield 60, 3) := by decide +kernel
theorem dX3_setSpeed_24 : decode cX3_setSpeed 24 = .ok (.istore 4, 2) := by decide +kernel
theorem dX3_setSpeed_26 : decode cX3_setSpeed 26 = .ok (.aload_n 3, 1) := by decide +kernel
theorem dX3_setSpeed_27 : decode cX3_setSpeed 27 = .ok (.iload_n 2, 1) := by decide +kernel
theorem dX3_setSpeed_28 : decode cX3_setSpeed 28 = .ok (.putfield 60, 3) := by decide +kernel
theorem dX3_setSpeed_31 : decode cX3_setSpeed 31 = .ok (.iload 4, 2) := by decide +kernel
theorem dX3_setSpeed_33 : decode cX3_setSpeed 33 = .ok (.ireturn, 1) := by decide +kernel
set_option maxRecDepth 20000 in
theorem ggX3_tell_X3_checkWeaver : GoodIn wsX3_tell wsX3_checkWeaver := goodIn_ca (goodIn_r _ [7, 8, 9, 6, 10, 11, 12] (by decide +kernel) (by decide +kernel)) (goodIn_sub (fun _ h => List.mem_cons_of_mem _ (List.mem_append_left _ (List.mem_append_right _ h))) (by decide +kernel))
set_option maxRecDepth 20000 in
theorem gX3_tell_X3_checkWeaver : GoodIn wsX3_tell (va_wsS RX3 54 yX3_checkWeaver wsX3_checkWeaver) := goodIn_app (goodIn_of _ (by decide +kernel)) ggX3_tell_X3_checkWeaver
set_option maxRecDepth 20000 in
theorem ggX3_tell_X3_checkColour : GoodIn wsX3_tell wsX3_checkColour := goodIn_ca (goodIn_r _ [15, 16, 17, 6, 18, 19, 20] (by decide +kernel) (by decide +kernel)) (goodIn_sub (fun _ h => List.mem_cons_of_mem _ (List.mem_append_right _ h)) (by decide +kernel))
set_option maxRecDepth 20000 in
theorem gX3_tell_X3_checkColour : GoodIn wsX3_tell (va_wsS RX3 27 yX3_checkColour wsX3_checkColour) := goodIn_app (goodIn_of _ (by decide +kernel)) ggX3_tell_X3_checkColour
set_option maxRecDepth 20000 in
theorem ggX3_tell_X3_checkRange : GoodIn wsX3_tell wsX3_checkRange := goodIn_ca (goodIn_r _ [18, 19, 20] (by decide +kernel) (by decide +kernel)) (goodIn_sub (fun _ h => List.mem_cons_of_mem _ (List.mem_append_right _ h)) (by decide +kernel))
set_option maxRecDepth 20000 in
theorem gX3_tell_X3_checkRange : GoodIn wsX3_tell (va_wsS RX3 23 yX3_checkRange wsX3_checkRange) := goodIn_app (goodIn_of _ (by decide +kernel)) ggX3_tell_X3_checkRange
set_option maxRecDepth 20000 in
theorem ggX3_tell_X1_weaverAt : GoodIn wsX3_tell wsX1_weaverAt := goodIn_r _ [25, 26, 27, 49, 50, 51, 52, 53] (by decide +kernel) (by decide +kernel)
set_option maxRecDepth 20000 in
theorem gX3_tell_X1_weaverAt : GoodIn wsX3_tell (wsV RX3 57 RX1 yX1_weaverAt wsX1_weaverAt) := goodIn_app (goodIn_of _ (by decide +kernel)) ggX3_tell_X1_weaverAt
set_option maxRecDepth 20000 in
theorem ggX3_tell_X2_addRun : GoodIn wsX3_tell wsX2_addRun := goodIn_r _ [32, 33, 34, 35, 36, 6, 37, 40, 41, 42, 43, 44, 45, 46, 47, 48] (by decide +kernel) (by decide +kernel)
set_option maxRecDepth 20000 in
theorem gX3_tell_X2_addRun : GoodIn wsX3_tell (wsV RX3 74 RX2 yX2_addRun wsX2_addRun) := goodIn_app (goodIn_of _ (by decide +kernel)) ggX3_tell_X2_addRun
theorem dX3_tell_0 : decode cX3_tell 0 = .ok (.iload_n 1, 1) := by decide +kernel
theorem dX3_tell_1 : decode cX3_tell 1 = .ok (.invokestatic 54, 3) := by decide +kernel
theorem dX3_tell_4 : decode cX3_tell 4 = .ok (.iload_n 2, 1) := by decide +kernel
theorem dX3_tell_5 : decode cX3_tell 5 = .ok (.invokestatic 27, 3) := by decide +kernel
theorem dX3_tell_8 : decode cX3_tell 8 = .ok (.iload_n 3, 1) := by decide +kernel
theorem dX3_tell_9 : decode cX3_tell 9 = .ok (.iconst 1, 1) := by decide +kernel
theorem dX3_tell_10 : decode cX3_tell 10 = .ok (.bipush 60, 2) := by decide +kernel
theorem dX3_tell_12 : decode cX3_tell 12 = .ok (.invokestatic 23, 3) := by decide +kernel
theorem dX3_tell_15 : decode cX3_tell 15 = .ok (.aload_n 0, 1) := by decide +kernel
theorem dX3_tell_16 : decode cX3_tell 16 = .ok (.getfield 10, 3) := by decide +kernel
theorem dX3_tell_19 : decode cX3_tell 19 = .ok (.iload_n 1, 1) := by decide +kernel
theorem dX3_tell_20 : decode cX3_tell 20 = .ok (.invokevirtual 57, 3) := by decide +kernel
theorem dX3_tell_23 : decode cX3_tell 23 = .ok (.astore 4, 2) := by decide +kernel
theorem dX3_tell_25 : decode cX3_tell 25 = .ok (.aload 4, 2) := by decide +kernel
theorem dX3_tell_27 : decode cX3_tell 27 = .ok (.getfield 64, 3) := by decide +kernel
theorem dX3_tell_30 : decode cX3_tell 30 = .ok (.bipush 20, 2) := by decide +kernel
theorem dX3_tell_32 : decode cX3_tell 32 = .ok (.if_icmp .lt 13, 3) := by decide +kernel
theorem dX3_tell_35 : decode cX3_tell 35 = .ok (.new 67, 3) := by decide +kernel
theorem dX3_tell_38 : decode cX3_tell 38 = .ok (.dup, 1) := by decide +kernel
theorem dX3_tell_39 : decode cX3_tell 39 = .ok (.ldc 69, 2) := by decide +kernel
theorem dX3_tell_41 : decode cX3_tell 41 = .ok (.invokespecial 71, 3) := by decide +kernel
theorem dX3_tell_44 : decode cX3_tell 44 = .ok (.athrow, 1) := by decide +kernel
theorem dX3_tell_45 : decode cX3_tell 45 = .ok (.aload 4, 2) := by decide +kernel
theorem dX3_tell_47 : decode cX3_tell 47 = .ok (.iload_n 2, 1) := by decide +kernel
theorem dX3_tell_48 : decode cX3_tell 48 = .ok (.iload_n 3, 1) := by decide +kernel
theorem dX3_tell_49 : decode cX3_tell 49 = .ok (.invokevirtual 74, 3) := by decide +kernel
theorem dX3_tell_52 : decode cX3_tell 52 = .ok (.aload 4, 2) := by decide +kernel
theorem dX3_tell_54 : decode cX3_tell 54 = .ok (.getfield 64, 3) := by decide +kernel
theorem dX3_tell_57 : decode cX3_tell 57 = .ok (.ireturn, 1) := by decide +kernel
set_option maxRecDepth 20000 in
theorem ggX3_hush_X3_checkWeaver : GoodIn wsX3_hush wsX3_checkWeaver := goodIn_ca (goodIn_r _ [5, 6, 7, 4, 8, 9, 10] (by decide +kernel) (by decide +kernel)) (goodIn_sub (fun _ h => List.mem_cons_of_mem _ (List.mem_append_right _ h)) (by decide +kernel))
set_option maxRecDepth 20000 in
theorem gX3_hush_X3_checkWeaver : GoodIn wsX3_hush (va_wsS RX3 54 yX3_checkWeaver wsX3_checkWeaver) := goodIn_app (goodIn_of _ (by decide +kernel)) ggX3_hush_X3_checkWeaver
set_option maxRecDepth 20000 in
theorem ggX3_hush_X1_weaverAt : GoodIn wsX3_hush wsX1_weaverAt := goodIn_r _ [15, 16, 17, 38, 39, 40, 41, 42] (by decide +kernel) (by decide +kernel)
set_option maxRecDepth 20000 in
theorem gX3_hush_X1_weaverAt : GoodIn wsX3_hush (wsV RX3 57 RX1 yX1_weaverAt wsX1_weaverAt) := goodIn_app (goodIn_of _ (by decide +kernel)) ggX3_hush_X1_weaverAt
set_option maxRecDepth 20000 in
theorem ggX3_hush_X2_toldInAll : GoodIn wsX3_hush wsX2_toldInAll := goodIn_r _ [22, 23, 24, 25, 4, 26, 29, 30, 31, 32, 33, 34, 35, 36, 37] (by decide +kernel) (by decide +kernel)
set_option maxRecDepth 20000 in
theorem gX3_hush_X2_toldInAll : GoodIn wsX3_hush (wsV RX3 77 RX2 yX2_toldInAll wsX2_toldInAll) := goodIn_app (goodIn_of _ (by decide +kernel)) ggX3_hush_X2_toldInAll
theorem dX3_hush_0 : decode cX3_hush 0 = .ok (.iload_n 1, 1) := by decide +kernel
theorem dX3_hush_1 : decode cX3_hush 1 = .ok (.invokestatic 54, 3) := by decide +kernel
theorem dX3_hush_4 : decode cX3_hush 4 = .ok (.aload_n 0, 1) := by decide +kernel
theorem dX3_hush_5 : decode cX3_hush 5 = .ok (.getfield 10, 3) := by decide +kernel
theorem dX3_hush_8 : decode cX3_hush 8 = .ok (.iload_n 1, 1) := by decide +kernel
theorem dX3_hush_9 : decode cX3_hush 9 = .ok (.invokevirtual 57, 3) := by decide +kernel
theorem dX3_hush_12 : decode cX3_hush 12 = .ok (.astore_n 2, 1) := by decide +kernel
theorem dX3_hush_13 : decode cX3_hush 13 = .ok (.aload_n 2, 1) := by decide +kernel
theorem dX3_hush_14 : decode cX3_hush 14 = .ok (.invokevirtual 77, 3) := by decide +kernel
theorem dX3_hush_17 : decode cX3_hush 17 = .ok (.istore_n 3, 1) := by decide +kernel
theorem dX3_hush_18 : decode cX3_hush 18 = .ok (.aload_n 2, 1) := by decide +kernel
theorem dX3_hush_19 : decode cX3_hush 19 = .ok (.iconst 0, 1) := by decide +kernel
theorem dX3_hush_20 : decode cX3_hush 20 = .ok (.putfield 64, 3) := by decide +kernel
theorem dX3_hush_23 : decode cX3_hush 23 = .ok (.iload_n 3, 1) := by decide +kernel
theorem dX3_hush_24 : decode cX3_hush 24 = .ok (.ireturn, 1) := by decide +kernel
set_option maxRecDepth 20000 in
theorem ggX3_unpick_X3_checkWeaver : GoodIn wsX3_unpick wsX3_checkWeaver := goodIn_ca (goodIn_r _ [7, 8, 9, 6, 10, 11, 12] (by decide +kernel) (by decide +kernel)) (goodIn_sub (fun _ h => List.mem_cons_of_mem _ (List.mem_append_left _ (List.mem_append_right _ h))) (by decide +kernel))
set_option maxRecDepth 20000 in
theorem gX3_unpick_X3_checkWeaver : GoodIn wsX3_unpick (va_wsS RX3 54 yX3_checkWeaver wsX3_checkWeaver) := goodIn_app (goodIn_of _ (by decide +kernel)) ggX3_unpick_X3_checkWeaver
set_option maxRecDepth 20000 in
theorem ggX3_unpick_X3_checkRange : GoodIn wsX3_unpick wsX3_checkRange := goodIn_ca (goodIn_r _ [15, 16, 17] (by decide +kernel) (by decide +kernel)) (goodIn_sub (fun _ h => List.mem_cons_of_mem _ (List.mem_append_right _ h)) (by decide +kernel))
set_option maxRecDepth 20000 in
theorem gX3_unpick_X3_checkRange : GoodIn wsX3_unpick (va_wsS RX3 23 yX3_checkRange wsX3_checkRange) := goodIn_app (goodIn_of _ (by decide +kernel)) ggX3_unpick_X3_checkRange
set_option maxRecDepth 20000 in
theorem ggX3_unpick_X1_weaverAt : GoodIn wsX3_unpick wsX1_weaverAt := goodIn_r _ [22, 23, 24, 57, 58, 59, 60, 61] (by decide +kernel) (by decide +kernel)
set_option maxRecDepth 20000 in
theorem gX3_unpick_X1_weaverAt : GoodIn wsX3_unpick (wsV RX3 57 RX1 yX1_weaverAt wsX1_weaverAt) := goodIn_app (goodIn_of _ (by decide +kernel)) ggX3_unpick_X1_weaverAt
set_option maxRecDepth 20000 in
theorem ggX3_unpick_X2_undo : GoodIn wsX3_unpick wsX2_undo := goodIn_r _ [29, 30, 31, 32, 6, 33, 34, 35, 36, 37, 38, 39, 40, 41, 42, 43, 44, 45, 48, 49, 50, 51, 52, 53, 54, 55, 56, 62] (by decide +kernel) (by decide +kernel)
set_option maxRecDepth 20000 in
theorem gX3_unpick_X2_undo : GoodIn wsX3_unpick (wsV RX3 86 RX2 yX2_undo wsX2_undo) := goodIn_app (goodIn_of _ (by decide +kernel)) ggX3_unpick_X2_undo
theorem dX3_unpick_0 : decode cX3_unpick 0 = .ok (.iload_n 1, 1) := by decide +kernel
theorem dX3_unpick_1 : decode cX3_unpick 1 = .ok (.invokestatic 54, 3) := by decide +kernel
theorem dX3_unpick_4 : decode cX3_unpick 4 = .ok (.iload_n 2, 1) := by decide +kernel
theorem dX3_unpick_5 : decode cX3_unpick 5 = .ok (.iconst 1, 1) := by decide +kernel
theorem dX3_unpick_6 : decode cX3_unpick 6 = .ok (.bipush 60, 2) := by decide +kernel
theorem dX3_unpick_8 : decode cX3_unpick 8 = .ok (.invokestatic 23, 3) := by decide +kernel
theorem dX3_unpick_11 : decode cX3_unpick 11 = .ok (.aload_n 0, 1) := by decide +kernel
theorem dX3_unpick_12 : decode cX3_unpick 12 = .ok (.getfield 10, 3) := by decide +kernel
theorem dX3_unpick_15 : decode cX3_unpick 15 = .ok (.iload_n 1, 1) := by decide +kernel
theorem dX3_unpick_16 : decode cX3_unpick 16 = .ok (.invokevirtual 57, 3) := by decide +kernel
theorem dX3_unpick_19 : decode cX3_unpick 19 = .ok (.astore_n 3, 1) := by decide +kernel
theorem dX3_unpick_20 : decode cX3_unpick 20 = .ok (.aload_n 3, 1) := by decide +kernel
theorem dX3_unpick_21 : decode cX3_unpick 21 = .ok (.getfield 81, 3) := by decide +kernel
theorem dX3_unpick_24 : decode cX3_unpick 24 = .ok (.iload_n 2, 1) := by decide +kernel
theorem dX3_unpick_25 : decode cX3_unpick 25 = .ok (.if_icmp .ge 13, 3) := by decide +kernel
theorem dX3_unpick_28 : decode cX3_unpick 28 = .ok (.new 67, 3) := by decide +kernel
theorem dX3_unpick_31 : decode cX3_unpick 31 = .ok (.dup, 1) := by decide +kernel
theorem dX3_unpick_32 : decode cX3_unpick 32 = .ok (.ldc 84, 2) := by decide +kernel
theorem dX3_unpick_34 : decode cX3_unpick 34 = .ok (.invokespecial 71, 3) := by decide +kernel
theorem dX3_unpick_37 : decode cX3_unpick 37 = .ok (.athrow, 1) := by decide +kernel
theorem dX3_unpick_38 : decode cX3_unpick 38 = .ok (.aload_n 3, 1) := by decide +kernel
theorem dX3_unpick_39 : decode cX3_unpick 39 = .ok (.iload_n 2, 1) := by decide +kernel
theorem dX3_unpick_40 : decode cX3_unpick 40 = .ok (.aload_n 0, 1) := by decide +kernel
theorem dX3_unpick_41 : decode cX3_unpick 41 = .ok (.getfield 10, 3) := by decide +kernel
theorem dX3_unpick_44 : decode cX3_unpick 44 = .ok (.getfield 45, 3) := by decide +kernel
theorem dX3_unpick_47 : decode cX3_unpick 47 = .ok (.invokevirtual 86, 3) := by decide +kernel
theorem dX3_unpick_50 : decode cX3_unpick 50 = .ok (.aload_n 0, 1) := by decide +kernel
theorem dX3_unpick_51 : decode cX3_unpick 51 = .ok (.getfield 10, 3) := by decide +kernel
theorem dX3_unpick_54 : decode cX3_unpick 54 = .ok (.dup, 1) := by decide +kernel
theorem dX3_unpick_55 : decode cX3_unpick 55 = .ok (.getfield 90, 3) := by decide +kernel
theorem dX3_unpick_58 : decode cX3_unpick 58 = .ok (.iload_n 2, 1) := by decide +kernel
theorem dX3_unpick_59 : decode cX3_unpick 59 = .ok (.iadd, 1) := by decide +kernel
theorem dX3_unpick_60 : decode cX3_unpick 60 = .ok (.putfield 90, 3) := by decide +kernel
theorem dX3_unpick_63 : decode cX3_unpick 63 = .ok (.aload_n 3, 1) := by decide +kernel
theorem dX3_unpick_64 : decode cX3_unpick 64 = .ok (.getfield 81, 3) := by decide +kernel
theorem dX3_unpick_67 : decode cX3_unpick 67 = .ok (.ireturn, 1) := by decide +kernel
set_option maxRecDepth 20000 in
theorem ggX3_cell_X3_checkCell : GoodIn wsX3_cell wsX3_checkCell := goodIn_ca (goodIn_r _ [5, 6, 7, 4, 8, 9, 10] (by decide +kernel) (by decide +kernel)) (goodIn_sub (fun _ h => List.mem_cons_of_mem _ (List.mem_append_right _ h)) (by decide +kernel))
set_option maxRecDepth 20000 in
theorem gX3_cell_X3_checkCell : GoodIn wsX3_cell (va_wsS RX3 19 yX3_checkCell wsX3_checkCell) := goodIn_app (goodIn_of _ (by decide +kernel)) ggX3_cell_X3_checkCell
set_option maxRecDepth 20000 in
theorem ggX3_cell_X3_checkIndex : GoodIn wsX3_cell wsX3_checkIndex := goodIn_ca (goodIn_r _ [8, 9, 10] (by decide +kernel) (by decide +kernel)) (goodIn_sub (fun _ h => List.mem_cons_of_mem _ (List.mem_append_right _ h)) (by decide +kernel))
set_option maxRecDepth 20000 in
theorem gX3_cell_X3_checkIndex : GoodIn wsX3_cell (va_wsS RX3 93 yX3_checkIndex wsX3_checkIndex) := goodIn_app (goodIn_of _ (by decide +kernel)) ggX3_cell_X3_checkIndex
set_option maxRecDepth 20000 in
theorem ggX3_cell_X1_knotAt : GoodIn wsX3_cell wsX1_knotAt := goodIn_r _ [15, 16, 17, 18, 14, 19, 20, 4, 21, 22, 23, 24, 25, 26, 27, 28, 29, 30, 31, 32, 33, 34, 35, 36, 37, 38, 45, 46, 47, 48, 49, 50, 51, 52, 53, 54, 55, 56, 57, 58] (by decide +kernel) (by decide +kernel)
set_option maxRecDepth 20000 in
theorem gX3_cell_X1_knotAt : GoodIn wsX3_cell (wsV RX3 96 RX1 yX1_knotAt wsX1_knotAt) := goodIn_app (goodIn_of _ (by decide +kernel)) ggX3_cell_X1_knotAt
set_option maxRecDepth 20000 in
theorem ggX3_cell_X1_planAt : GoodIn wsX3_cell wsX1_planAt := goodIn_r _ [42, 16, 17, 18, 14, 19, 20, 4, 21, 22, 23, 24, 25, 26, 27, 28, 29, 37, 38, 50, 51, 52, 53, 54, 55, 56, 57, 58, 45, 46, 47, 48, 49] (by decide +kernel) (by decide +kernel)
set_option maxRecDepth 20000 in
theorem gX3_cell_X1_planAt : GoodIn wsX3_cell (wsV RX3 99 RX1 yX1_planAt wsX1_planAt) := goodIn_app (goodIn_of _ (by decide +kernel)) ggX3_cell_X1_planAt
theorem dX3_cell_0 : decode cX3_cell 0 = .ok (.iload_n 1, 1) := by decide +kernel
theorem dX3_cell_1 : decode cX3_cell 1 = .ok (.iload_n 2, 1) := by decide +kernel
theorem dX3_cell_2 : decode cX3_cell 2 = .ok (.invokestatic 19, 3) := by decide +kernel
theorem dX3_cell_5 : decode cX3_cell 5 = .ok (.iload_n 3, 1) := by decide +kernel
theorem dX3_cell_6 : decode cX3_cell 6 = .ok (.iconst 2, 1) := by decide +kernel
theorem dX3_cell_7 : decode cX3_cell 7 = .ok (.invokestatic 93, 3) := by decide +kernel
theorem dX3_cell_10 : decode cX3_cell 10 = .ok (.iload_n 3, 1) := by decide +kernel
theorem dX3_cell_11 : decode cX3_cell 11 = .ok (.ifCond .ne 15, 3) := by decide +kernel
theorem dX3_cell_14 : decode cX3_cell 14 = .ok (.aload_n 0, 1) := by decide +kernel
theorem dX3_cell_15 : decode cX3_cell 15 = .ok (.getfield 10, 3) := by decide +kernel
theorem dX3_cell_18 : decode cX3_cell 18 = .ok (.iload_n 1, 1) := by decide +kernel
theorem dX3_cell_19 : decode cX3_cell 19 = .ok (.iload_n 2, 1) := by decide +kernel
theorem dX3_cell_20 : decode cX3_cell 20 = .ok (.invokevirtual 96, 3) := by decide +kernel
theorem dX3_cell_23 : decode cX3_cell 23 = .ok (.goto 12, 3) := by decide +kernel
theorem dX3_cell_26 : decode cX3_cell 26 = .ok (.aload_n 0, 1) := by decide +kernel
theorem dX3_cell_27 : decode cX3_cell 27 = .ok (.getfield 10, 3) := by decide +kernel
theorem dX3_cell_30 : decode cX3_cell 30 = .ok (.iload_n 1, 1) := by decide +kernel
theorem dX3_cell_31 : decode cX3_cell 31 = .ok (.iload_n 2, 1) := by decide +kernel
theorem dX3_cell_32 : decode cX3_cell 32 = .ok (.invokevirtual 99, 3) := by decide +kernel
theorem dX3_cell_35 : decode cX3_cell 35 = .ok (.ireturn, 1) := by decide +kernel
set_option maxRecDepth 20000 in
theorem ggX3_sees_X3_checkWeaver : GoodIn wsX3_sees wsX3_checkWeaver := goodIn_ca (goodIn_r _ [5, 6, 7, 4, 8, 9, 10] (by decide +kernel) (by decide +kernel)) (goodIn_sub (fun _ h => List.mem_cons_of_mem _ (List.mem_append_right _ h)) (by decide +kernel))
set_option maxRecDepth 20000 in
theorem gX3_sees_X3_checkWeaver : GoodIn wsX3_sees (va_wsS RX3 54 yX3_checkWeaver wsX3_checkWeaver) := goodIn_app (goodIn_of _ (by decide +kernel)) ggX3_sees_X3_checkWeaver
set_option maxRecDepth 20000 in
theorem ggX3_sees_X3_checkCell : GoodIn wsX3_sees wsX3_checkCell := goodIn_ca (goodIn_r _ [13, 6, 7, 4, 8, 9, 10] (by decide +kernel) (by decide +kernel)) (goodIn_sub (fun _ h => List.mem_cons_of_mem _ (List.mem_append_right _ h)) (by decide +kernel))
set_option maxRecDepth 20000 in
theorem gX3_sees_X3_checkCell : GoodIn wsX3_sees (va_wsS RX3 19 yX3_checkCell wsX3_checkCell) := goodIn_app (goodIn_of _ (by decide +kernel)) ggX3_sees_X3_checkCell
set_option maxRecDepth 20000 in
theorem ggX3_sees_X3_sideOf : GoodIn wsX3_sees wsX3_sideOf := goodIn_r _ [16] (by decide +kernel) (by decide +kernel)
set_option maxRecDepth 20000 in
theorem gX3_sees_X3_sideOf : GoodIn wsX3_sees (va_wsS RX3 102 yX3_sideOf wsX3_sideOf) := goodIn_app (goodIn_of _ (by decide +kernel)) ggX3_sees_X3_sideOf
set_option maxRecDepth 20000 in
theorem ggX3_sees_X1_weaverAt : GoodIn wsX3_sees wsX1_weaverAt := goodIn_r _ [21, 22, 23, 50, 51, 52, 53, 54] (by decide +kernel) (by decide +kernel)
set_option maxRecDepth 20000 in
theorem gX3_sees_X1_weaverAt : GoodIn wsX3_sees (wsV RX3 57 RX1 yX1_weaverAt wsX1_weaverAt) := goodIn_app (goodIn_of _ (by decide +kernel)) ggX3_sees_X1_weaverAt
set_option maxRecDepth 20000 in
theorem ggX3_sees_X2_rowsDone : GoodIn wsX3_sees wsX2_rowsDone := goodIn_r _ [28, 29, 55, 56, 57, 58, 59, 60, 61, 62, 63] (by decide +kernel) (by decide +kernel)
set_option maxRecDepth 20000 in
theorem gX3_sees_X2_rowsDone : GoodIn wsX3_sees (wsV RX3 106 RX2 yX2_rowsDone wsX2_rowsDone) := goodIn_app (goodIn_of _ (by decide +kernel)) ggX3_sees_X2_rowsDone
set_option maxRecDepth 20000 in
theorem ggX3_sees_X1_knotAt : GoodIn wsX3_sees wsX1_knotAt := goodIn_r _ [33, 34, 35, 36, 20, 37, 15, 4, 16, 38, 18, 19, 21, 22, 23, 39, 40, 41, 42, 43, 27, 44, 29, 45, 46, 47, 50, 51, 52, 53, 54, 55, 56, 57, 58, 59, 60, 61, 62, 63] (by decide +kernel) (by decide +kernel)
set_option maxRecDepth 20000 in
theorem gX3_sees_X1_knotAt : GoodIn wsX3_sees (wsV RX3 96 RX1 yX1_knotAt wsX1_knotAt) := goodIn_app (goodIn_of _ (by decide +kernel)) ggX3_sees_X1_knotAt
theorem dX3_sees_0 : decode cX3_sees 0 = .ok (.iload_n 1, 1) := by decide +kernel
theorem dX3_sees_1 : decode cX3_sees 1 = .ok (.invokestatic 54, 3) := by decide +kernel
theorem dX3_sees_4 : decode cX3_sees 4 = .ok (.iload_n 2, 1) := by decide +kernel
theorem dX3_sees_5 : decode cX3_sees 5 = .ok (.iload_n 3, 1) := by decide +kernel
theorem dX3_sees_6 : decode cX3_sees 6 = .ok (.invokestatic 19, 3) := by decide +kernel
theorem dX3_sees_9 : decode cX3_sees 9 = .ok (.iload_n 1, 1) := by decide +kernel
theorem dX3_sees_10 : decode cX3_sees 10 = .ok (.iload_n 2, 1) := by decide +kernel
theorem dX3_sees_11 : decode cX3_sees 11 = .ok (.invokestatic 102, 3) := by decide +kernel
theorem dX3_sees_14 : decode cX3_sees 14 = .ok (.if_icmp .ne 7, 3) := by decide +kernel
theorem dX3_sees_17 : decode cX3_sees 17 = .ok (.iconst 1, 1) := by decide +kernel
theorem dX3_sees_18 : decode cX3_sees 18 = .ok (.goto 4, 3) := by decide +kernel
theorem dX3_sees_21 : decode cX3_sees 21 = .ok (.iconst 0, 1) := by decide +kernel
theorem dX3_sees_22 : decode cX3_sees 22 = .ok (.istore 4, 2) := by decide +kernel
theorem dX3_sees_24 : decode cX3_sees 24 = .ok (.iload_n 2, 1) := by decide +kernel
theorem dX3_sees_25 : decode cX3_sees 25 = .ok (.iconst 5, 1) := by decide +kernel
theorem dX3_sees_26 : decode cX3_sees 26 = .ok (.if_icmp .eq 9, 3) := by decide +kernel
theorem dX3_sees_29 : decode cX3_sees 29 = .ok (.iload_n 2, 1) := by decide +kernel
theorem dX3_sees_30 : decode cX3_sees 30 = .ok (.bipush 6, 2) := by decide +kernel
theorem dX3_sees_32 : decode cX3_sees 32 = .ok (.if_icmp .ne 7, 3) := by decide +kernel
theorem dX3_sees_35 : decode cX3_sees 35 = .ok (.iconst 1, 1) := by decide +kernel
theorem dX3_sees_36 : decode cX3_sees 36 = .ok (.goto 4, 3) := by decide +kernel
theorem dX3_sees_39 : decode cX3_sees 39 = .ok (.iconst 0, 1) := by decide +kernel
theorem dX3_sees_40 : decode cX3_sees 40 = .ok (.istore 5, 2) := by decide +kernel
theorem dX3_sees_42 : decode cX3_sees 42 = .ok (.iload 4, 2) := by decide +kernel
theorem dX3_sees_44 : decode cX3_sees 44 = .ok (.ifCond .ne 23, 3) := by decide +kernel
theorem dX3_sees_47 : decode cX3_sees 47 = .ok (.iload 5, 2) := by decide +kernel
theorem dX3_sees_49 : decode cX3_sees 49 = .ok (.ifCond .eq 28, 3) := by decide +kernel
theorem dX3_sees_52 : decode cX3_sees 52 = .ok (.aload_n 0, 1) := by decide +kernel
theorem dX3_sees_53 : decode cX3_sees 53 = .ok (.getfield 10, 3) := by decide +kernel
theorem dX3_sees_56 : decode cX3_sees 56 = .ok (.iload_n 1, 1) := by decide +kernel
theorem dX3_sees_57 : decode cX3_sees 57 = .ok (.invokevirtual 57, 3) := by decide +kernel
theorem dX3_sees_60 : decode cX3_sees 60 = .ok (.invokevirtual 106, 3) := by decide +kernel
theorem dX3_sees_63 : decode cX3_sees 63 = .ok (.iload_n 3, 1) := by decide +kernel
theorem dX3_sees_64 : decode cX3_sees 64 = .ok (.if_icmp .le 13, 3) := by decide +kernel
theorem dX3_sees_67 : decode cX3_sees 67 = .ok (.aload_n 0, 1) := by decide +kernel
theorem dX3_sees_68 : decode cX3_sees 68 = .ok (.getfield 10, 3) := by decide +kernel
theorem dX3_sees_71 : decode cX3_sees 71 = .ok (.iload_n 2, 1) := by decide +kernel
theorem dX3_sees_72 : decode cX3_sees 72 = .ok (.iload_n 3, 1) := by decide +kernel
theorem dX3_sees_73 : decode cX3_sees 73 = .ok (.invokevirtual 96, 3) := by decide +kernel
theorem dX3_sees_76 : decode cX3_sees 76 = .ok (.ireturn, 1) := by decide +kernel
theorem dX3_sees_77 : decode cX3_sees 77 = .ok (.bipush (-2), 2) := by decide +kernel
theorem dX3_sees_79 : decode cX3_sees 79 = .ok (.ireturn, 1) := by decide +kernel
set_option maxRecDepth 20000 in
theorem ggX3_weaver_X3_checkWeaver : GoodIn wsX3_weaver wsX3_checkWeaver := goodIn_ca (goodIn_r _ [5, 6, 7, 4, 8, 9, 10] (by decide +kernel) (by decide +kernel)) (goodIn_sub (fun _ h => List.mem_cons_of_mem _ (List.mem_append_right _ h)) (by decide +kernel))
set_option maxRecDepth 20000 in
theorem gX3_weaver_X3_checkWeaver : GoodIn wsX3_weaver (va_wsS RX3 54 yX3_checkWeaver wsX3_checkWeaver) := goodIn_app (goodIn_of _ (by decide +kernel)) ggX3_weaver_X3_checkWeaver
set_option maxRecDepth 20000 in
theorem ggX3_weaver_X3_checkIndex : GoodIn wsX3_weaver wsX3_checkIndex := goodIn_ca (goodIn_r _ [8, 9, 10] (by decide +kernel) (by decide +kernel)) (goodIn_sub (fun _ h => List.mem_cons_of_mem _ (List.mem_append_right _ h)) (by decide +kernel))
set_option maxRecDepth 20000 in
theorem gX3_weaver_X3_checkIndex : GoodIn wsX3_weaver (va_wsS RX3 93 yX3_checkIndex wsX3_checkIndex) := goodIn_app (goodIn_of _ (by decide +kernel)) ggX3_weaver_X3_checkIndex
set_option maxRecDepth 20000 in
theorem ggX3_weaver_X1_weaverAt : GoodIn wsX3_weaver wsX1_weaverAt := goodIn_r _ [15, 16, 17, 45, 46, 47, 48, 49] (by decide +kernel) (by decide +kernel)
set_option maxRecDepth 20000 in
theorem gX3_weaver_X1_weaverAt : GoodIn wsX3_weaver (wsV RX3 57 RX1 yX1_weaverAt wsX1_weaverAt) := goodIn_app (goodIn_of _ (by decide +kernel)) ggX3_weaver_X1_weaverAt
set_option maxRecDepth 20000 in
theorem ggX3_weaver_X2_number : GoodIn wsX3_weaver wsX2_number := goodIn_r _ [22, 23, 24, 25, 26, 27, 28, 29, 21, 30, 31, 32, 4, 33, 34, 35, 36, 37, 38, 39, 40, 41, 42, 50, 51, 52, 53, 54, 55, 56, 57, 58] (by decide +kernel) (by decide +kernel)
set_option maxRecDepth 20000 in
theorem gX3_weaver_X2_number : GoodIn wsX3_weaver (wsV RX3 109 RX2 yX2_number wsX2_number) := goodIn_app (goodIn_of _ (by decide +kernel)) ggX3_weaver_X2_number
theorem dX3_weaver_0 : decode cX3_weaver 0 = .ok (.iload_n 1, 1) := by decide +kernel
theorem dX3_weaver_1 : decode cX3_weaver 1 = .ok (.invokestatic 54, 3) := by decide +kernel
theorem dX3_weaver_4 : decode cX3_weaver 4 = .ok (.iload_n 2, 1) := by decide +kernel
theorem dX3_weaver_5 : decode cX3_weaver 5 = .ok (.bipush 7, 2) := by decide +kernel
theorem dX3_weaver_7 : decode cX3_weaver 7 = .ok (.invokestatic 93, 3) := by decide +kernel
theorem dX3_weaver_10 : decode cX3_weaver 10 = .ok (.aload_n 0, 1) := by decide +kernel
theorem dX3_weaver_11 : decode cX3_weaver 11 = .ok (.getfield 10, 3) := by decide +kernel
theorem dX3_weaver_14 : decode cX3_weaver 14 = .ok (.iload_n 1, 1) := by decide +kernel
theorem dX3_weaver_15 : decode cX3_weaver 15 = .ok (.invokevirtual 57, 3) := by decide +kernel
theorem dX3_weaver_18 : decode cX3_weaver 18 = .ok (.iload_n 2, 1) := by decide +kernel
theorem dX3_weaver_19 : decode cX3_weaver 19 = .ok (.invokevirtual 109, 3) := by decide +kernel
theorem dX3_weaver_22 : decode cX3_weaver 22 = .ok (.ireturn, 1) := by decide +kernel
set_option maxRecDepth 20000 in
theorem ggX3_run_X3_checkWeaver : GoodIn wsX3_run wsX3_checkWeaver := goodIn_ca (goodIn_r _ [5, 6, 7, 4, 8, 9, 10] (by decide +kernel) (by decide +kernel)) (goodIn_sub (fun _ h => List.mem_cons_of_mem _ (List.mem_append_right _ h)) (by decide +kernel))
set_option maxRecDepth 20000 in
theorem gX3_run_X3_checkWeaver : GoodIn wsX3_run (va_wsS RX3 54 yX3_checkWeaver wsX3_checkWeaver) := goodIn_app (goodIn_of _ (by decide +kernel)) ggX3_run_X3_checkWeaver
set_option maxRecDepth 20000 in
theorem ggX3_run_X1_weaverAt : GoodIn wsX3_run wsX1_weaverAt := goodIn_r _ [15, 16, 17, 32, 33, 34, 35, 36] (by decide +kernel) (by decide +kernel)
set_option maxRecDepth 20000 in
theorem gX3_run_X1_weaverAt : GoodIn wsX3_run (wsV RX3 57 RX1 yX1_weaverAt wsX1_weaverAt) := goodIn_app (goodIn_of _ (by decide +kernel)) ggX3_run_X1_weaverAt
set_option maxRecDepth 20000 in
theorem ggX3_run_X3_checkIndex : GoodIn wsX3_run wsX3_checkIndex := goodIn_ca (goodIn_r _ [8, 9, 10] (by decide +kernel) (by decide +kernel)) (goodIn_sub (fun _ h => List.mem_cons_of_mem _ (List.mem_append_right _ h)) (by decide +kernel))
set_option maxRecDepth 20000 in
theorem gX3_run_X3_checkIndex : GoodIn wsX3_run (va_wsS RX3 93 yX3_checkIndex wsX3_checkIndex) := goodIn_app (goodIn_of _ (by decide +kernel)) ggX3_run_X3_checkIndex
set_option maxRecDepth 20000 in
theorem ggX3_run_X3_at : GoodIn wsX3_run wsX3_at := goodIn_r _ [20] (by decide +kernel) (by decide +kernel)
set_option maxRecDepth 20000 in
theorem gX3_run_X3_at : GoodIn wsX3_run (va_wsS RX3 116 yX3_at wsX3_at) := goodIn_app (goodIn_of _ (by decide +kernel)) ggX3_run_X3_at
theorem dX3_run_0 : decode cX3_run 0 = .ok (.iload_n 1, 1) := by decide +kernel
theorem dX3_run_1 : decode cX3_run 1 = .ok (.invokestatic 54, 3) := by decide +kernel
theorem dX3_run_4 : decode cX3_run 4 = .ok (.aload_n 0, 1) := by decide +kernel
theorem dX3_run_5 : decode cX3_run 5 = .ok (.getfield 10, 3) := by decide +kernel
theorem dX3_run_8 : decode cX3_run 8 = .ok (.iload_n 1, 1) := by decide +kernel
theorem dX3_run_9 : decode cX3_run 9 = .ok (.invokevirtual 57, 3) := by decide +kernel
theorem dX3_run_12 : decode cX3_run 12 = .ok (.astore 4, 2) := by decide +kernel
theorem dX3_run_14 : decode cX3_run 14 = .ok (.iload_n 2, 1) := by decide +kernel
theorem dX3_run_15 : decode cX3_run 15 = .ok (.aload 4, 2) := by decide +kernel
theorem dX3_run_17 : decode cX3_run 17 = .ok (.getfield 64, 3) := by decide +kernel
theorem dX3_run_20 : decode cX3_run 20 = .ok (.invokestatic 93, 3) := by decide +kernel
theorem dX3_run_23 : decode cX3_run 23 = .ok (.iload_n 3, 1) := by decide +kernel
theorem dX3_run_24 : decode cX3_run 24 = .ok (.iconst 2, 1) := by decide +kernel
theorem dX3_run_25 : decode cX3_run 25 = .ok (.invokestatic 93, 3) := by decide +kernel
theorem dX3_run_28 : decode cX3_run 28 = .ok (.iload_n 3, 1) := by decide +kernel
theorem dX3_run_29 : decode cX3_run 29 = .ok (.ifCond .ne 15, 3) := by decide +kernel
theorem dX3_run_32 : decode cX3_run 32 = .ok (.aload 4, 2) := by decide +kernel
theorem dX3_run_34 : decode cX3_run 34 = .ok (.getfield 112, 3) := by decide +kernel
theorem dX3_run_37 : decode cX3_run 37 = .ok (.iload_n 2, 1) := by decide +kernel
theorem dX3_run_38 : decode cX3_run 38 = .ok (.invokestatic 116, 3) := by decide +kernel
theorem dX3_run_41 : decode cX3_run 41 = .ok (.goto 12, 3) := by decide +kernel
theorem dX3_run_44 : decode cX3_run 44 = .ok (.aload 4, 2) := by decide +kernel
theorem dX3_run_46 : decode cX3_run 46 = .ok (.getfield 120, 3) := by decide +kernel
theorem dX3_run_49 : decode cX3_run 49 = .ok (.iload_n 2, 1) := by decide +kernel
theorem dX3_run_50 : decode cX3_run 50 = .ok (.invokestatic 116, 3) := by decide +kernel
theorem dX3_run_53 : decode cX3_run 53 = .ok (.ireturn, 1) := by decide +kernel
set_option maxRecDepth 20000 in
theorem ggX3_count_X3_checkIndex : GoodIn wsX3_count wsX3_checkIndex := goodIn_ca (goodIn_r _ [5, 6, 7] (by decide +kernel) (by decide +kernel)) (goodIn_sub (fun _ h => List.mem_cons_of_mem _ (List.mem_append_right _ h)) (by decide +kernel))
set_option maxRecDepth 20000 in
theorem gX3_count_X3_checkIndex : GoodIn wsX3_count (va_wsS RX3 93 yX3_checkIndex wsX3_checkIndex) := goodIn_app (goodIn_of _ (by decide +kernel)) ggX3_count_X3_checkIndex
set_option maxRecDepth 20000 in
theorem ggX3_count_X1_number : GoodIn wsX3_count wsX1_number := goodIn_r _ [12, 13, 14, 15, 16, 17, 18, 11, 19, 20, 21, 22, 23, 24, 25, 26, 27, 28, 29, 30, 31, 32, 33, 34, 4, 35, 36, 37, 38, 39, 40, 41, 42, 43, 44, 45, 46, 47, 48, 49, 50, 51, 52, 53, 54, 55, 56, 57, 58, 59, 60, 61, 62, 63, 66, 67, 68, 69, 70, 71, 72, 73, 74, 75, 76, 77, 78, 79, 80] (by decide +kernel) (by decide +kernel)
set_option maxRecDepth 20000 in
theorem gX3_count_X1_number : GoodIn wsX3_count (wsV RX3 123 RX1 yX1_number wsX1_number) := goodIn_app (goodIn_of _ (by decide +kernel)) ggX3_count_X1_number
theorem dX3_count_0 : decode cX3_count 0 = .ok (.iload_n 1, 1) := by decide +kernel
theorem dX3_count_1 : decode cX3_count 1 = .ok (.bipush 8, 2) := by decide +kernel
theorem dX3_count_3 : decode cX3_count 3 = .ok (.invokestatic 93, 3) := by decide +kernel
theorem dX3_count_6 : decode cX3_count 6 = .ok (.aload_n 0, 1) := by decide +kernel
theorem dX3_count_7 : decode cX3_count 7 = .ok (.getfield 10, 3) := by decide +kernel
theorem dX3_count_10 : decode cX3_count 10 = .ok (.iload_n 1, 1) := by decide +kernel
theorem dX3_count_11 : decode cX3_count 11 = .ok (.invokevirtual 123, 3) := by decide +kernel
theorem dX3_count_14 : decode cX3_count 14 = .ok (.ireturn, 1) := by decide +kernel
set_option maxRecDepth 20000 in
theorem ggX3_wool_X3_checkColour : GoodIn wsX3_wool wsX3_checkColour := goodIn_ca (goodIn_r _ [5, 6, 7, 4, 8, 9, 10] (by decide +kernel) (by decide +kernel)) (goodIn_sub (fun _ h => List.mem_cons_of_mem _ (List.mem_append_right _ h)) (by decide +kernel))
set_option maxRecDepth 20000 in
theorem gX3_wool_X3_checkColour : GoodIn wsX3_wool (va_wsS RX3 27 yX3_checkColour wsX3_checkColour) := goodIn_app (goodIn_of _ (by decide +kernel)) ggX3_wool_X3_checkColour
set_option maxRecDepth 20000 in
theorem ggX3_wool_X3_at : GoodIn wsX3_wool wsX3_at := goodIn_r _ [13] (by decide +kernel) (by decide +kernel)
set_option maxRecDepth 20000 in
theorem gX3_wool_X3_at : GoodIn wsX3_wool (va_wsS RX3 116 yX3_at wsX3_at) := goodIn_app (goodIn_of _ (by decide +kernel)) ggX3_wool_X3_at
theorem dX3_wool_0 : decode cX3_wool 0 = .ok (.iload_n 1, 1) := by decide +kernel
theorem dX3_wool_1 : decode cX3_wool 1 = .ok (.invokestatic 27, 3) := by decide +kernel
theorem dX3_wool_4 : decode cX3_wool 4 = .ok (.aload_n 0, 1) := by decide +kernel
theorem dX3_wool_5 : decode cX3_wool 5 = .ok (.getfield 10, 3) := by decide +kernel
theorem dX3_wool_8 : decode cX3_wool 8 = .ok (.getfield 45, 3) := by decide +kernel
theorem dX3_wool_11 : decode cX3_wool 11 = .ok (.getfield 124, 3) := by decide +kernel
theorem dX3_wool_14 : decode cX3_wool 14 = .ok (.iload_n 1, 1) := by decide +kernel
theorem dX3_wool_15 : decode cX3_wool 15 = .ok (.invokestatic 116, 3) := by decide +kernel
theorem dX3_wool_18 : decode cX3_wool 18 = .ok (.ireturn, 1) := by decide +kernel
set_option maxRecDepth 20000 in
theorem ggX3_advise_X3_checkWeaver : GoodIn wsX3_advise wsX3_checkWeaver := goodIn_ca (goodIn_r _ [5, 6, 7, 4, 8, 9, 10] (by decide +kernel) (by decide +kernel)) (goodIn_sub (fun _ h => List.mem_cons_of_mem _ (List.mem_append_right _ h)) (by decide +kernel))
set_option maxRecDepth 20000 in
theorem gX3_advise_X3_checkWeaver : GoodIn wsX3_advise (va_wsS RX3 54 yX3_checkWeaver wsX3_checkWeaver) := goodIn_app (goodIn_of _ (by decide +kernel)) ggX3_advise_X3_checkWeaver
set_option maxRecDepth 20000 in
theorem ggX3_advise_X1_weaverAt : GoodIn wsX3_advise wsX1_weaverAt := goodIn_r _ [15, 16, 17, 43, 44, 45, 46, 47] (by decide +kernel) (by decide +kernel)
set_option maxRecDepth 20000 in
theorem gX3_advise_X1_weaverAt : GoodIn wsX3_advise (wsV RX3 57 RX1 yX1_weaverAt wsX1_weaverAt) := goodIn_app (goodIn_of _ (by decide +kernel)) ggX3_advise_X1_weaverAt
set_option maxRecDepth 20000 in
theorem ggX3_advise_X2_isHalfDone : GoodIn wsX3_advise wsX2_isHalfDone := goodIn_r _ [22, 23, 34, 35, 36, 37, 38, 39, 40, 41, 42] (by decide +kernel) (by decide +kernel)
set_option maxRecDepth 20000 in
theorem gX3_advise_X2_isHalfDone : GoodIn wsX3_advise (wsV RX3 127 RX2 yX2_isHalfDone wsX2_isHalfDone) := goodIn_app (goodIn_of _ (by decide +kernel)) ggX3_advise_X2_isHalfDone
set_option maxRecDepth 20000 in
theorem ggX3_advise_X3_at : GoodIn wsX3_advise wsX3_at := goodIn_r _ [26] (by decide +kernel) (by decide +kernel)
set_option maxRecDepth 20000 in
theorem gX3_advise_X3_at : GoodIn wsX3_advise (va_wsS RX3 116 yX3_at wsX3_at) := goodIn_app (goodIn_of _ (by decide +kernel)) ggX3_advise_X3_at
set_option maxRecDepth 20000 in
theorem ggX3_advise_X2_alikeAhead : GoodIn wsX3_advise wsX2_alikeAhead := goodIn_r _ [30, 23, 31, 25, 4, 26, 34, 35, 36, 37, 38, 39, 40, 41, 42] (by decide +kernel) (by decide +kernel)
set_option maxRecDepth 20000 in
theorem gX3_advise_X2_alikeAhead : GoodIn wsX3_advise (wsV RX3 134 RX2 yX2_alikeAhead wsX2_alikeAhead) := goodIn_app (goodIn_of _ (by decide +kernel)) ggX3_advise_X2_alikeAhead
theorem dX3_advise_0 : decode cX3_advise 0 = .ok (.iload_n 1, 1) := by decide +kernel
theorem dX3_advise_1 : decode cX3_advise 1 = .ok (.invokestatic 54, 3) := by decide +kernel
theorem dX3_advise_4 : decode cX3_advise 4 = .ok (.aload_n 0, 1) := by decide +kernel
theorem dX3_advise_5 : decode cX3_advise 5 = .ok (.getfield 10, 3) := by decide +kernel
theorem dX3_advise_8 : decode cX3_advise 8 = .ok (.iload_n 1, 1) := by decide +kernel
theorem dX3_advise_9 : decode cX3_advise 9 = .ok (.invokevirtual 57, 3) := by decide +kernel
theorem dX3_advise_12 : decode cX3_advise 12 = .ok (.astore_n 2, 1) := by decide +kernel
theorem dX3_advise_13 : decode cX3_advise 13 = .ok (.aload_n 2, 1) := by decide +kernel
theorem dX3_advise_14 : decode cX3_advise 14 = .ok (.invokevirtual 127, 3) := by decide +kernel
theorem dX3_advise_17 : decode cX3_advise 17 = .ok (.ifCond .eq 5, 3) := by decide +kernel
theorem dX3_advise_20 : decode cX3_advise 20 = .ok (.iconst (-1), 1) := by decide +kernel
theorem dX3_advise_21 : decode cX3_advise 21 = .ok (.ireturn, 1) := by decide +kernel
theorem dX3_advise_22 : decode cX3_advise 22 = .ok (.bipush 100, 2) := by decide +kernel
theorem dX3_advise_24 : decode cX3_advise 24 = .ok (.aload_n 2, 1) := by decide +kernel
theorem dX3_advise_25 : decode cX3_advise 25 = .ok (.getfield 131, 3) := by decide +kernel
theorem dX3_advise_28 : decode cX3_advise 28 = .ok (.aload_n 2, 1) := by decide +kernel
theorem dX3_advise_29 : decode cX3_advise 29 = .ok (.getfield 81, 3) := by decide +kernel
theorem dX3_advise_32 : decode cX3_advise 32 = .ok (.invokestatic 116, 3) := by decide +kernel
theorem dX3_advise_35 : decode cX3_advise 35 = .ok (.imul, 1) := by decide +kernel
theorem dX3_advise_36 : decode cX3_advise 36 = .ok (.aload_n 2, 1) := by decide +kernel
theorem dX3_advise_37 : decode cX3_advise 37 = .ok (.invokevirtual 134, 3) := by decide +kernel
theorem dX3_advise_40 : decode cX3_advise 40 = .ok (.iadd, 1) := by decide +kernel
theorem dX3_advise_41 : decode cX3_advise 41 = .ok (.ireturn, 1) := by decide +kernel
set_option maxRecDepth 20000 in
theorem ggX3_runs_X3_checkWeaver : GoodIn wsX3_runs wsX3_checkWeaver := goodIn_ca (goodIn_r _ [5, 6, 7, 4, 8, 9, 10] (by decide +kernel) (by decide +kernel)) (goodIn_sub (fun _ h => List.mem_cons_of_mem _ (List.mem_append_right _ h)) (by decide +kernel))
set_option maxRecDepth 20000 in
theorem gX3_runs_X3_checkWeaver : GoodIn wsX3_runs (va_wsS RX3 54 yX3_checkWeaver wsX3_checkWeaver) := goodIn_app (goodIn_of _ (by decide +kernel)) ggX3_runs_X3_checkWeaver
set_option maxRecDepth 20000 in
theorem ggX3_runs_X1_weaverAt : GoodIn wsX3_runs wsX1_weaverAt := goodIn_r _ [15, 16, 17, 33, 34, 35, 36, 37] (by decide +kernel) (by decide +kernel)
set_option maxRecDepth 20000 in
theorem gX3_runs_X1_weaverAt : GoodIn wsX3_runs (wsV RX3 57 RX1 yX1_weaverAt wsX1_weaverAt) := goodIn_app (goodIn_of _ (by decide +kernel)) ggX3_runs_X1_weaverAt
set_option maxRecDepth 20000 in
theorem ggX3_runs_X2_fewestRuns : GoodIn wsX3_runs wsX2_fewestRuns := goodIn_r _ [22, 23, 24, 25, 26, 27, 21, 28, 29, 4, 30, 38, 39, 40, 41, 42, 43, 44, 45, 46] (by decide +kernel) (by decide +kernel)
set_option maxRecDepth 20000 in
theorem gX3_runs_X2_fewestRuns : GoodIn wsX3_runs (wsV RX3 137 RX2 yX2_fewestRuns wsX2_fewestRuns) := goodIn_app (goodIn_of _ (by decide +kernel)) ggX3_runs_X2_fewestRuns
theorem dX3_runs_0 : decode cX3_runs 0 = .ok (.iload_n 1, 1) := by decide +kernel
theorem dX3_runs_1 : decode cX3_runs 1 = .ok (.invokestatic 54, 3) := by decide +kernel
theorem dX3_runs_4 : decode cX3_runs 4 = .ok (.aload_n 0, 1) := by decide +kernel
theorem dX3_runs_5 : decode cX3_runs 5 = .ok (.getfield 10, 3) := by decide +kernel
theorem dX3_runs_8 : decode cX3_runs 8 = .ok (.iload_n 1, 1) := by decide +kernel
theorem dX3_runs_9 : decode cX3_runs 9 = .ok (.invokevirtual 57, 3) := by decide +kernel
theorem dX3_runs_12 : decode cX3_runs 12 = .ok (.invokevirtual 137, 3) := by decide +kernel
theorem dX3_runs_15 : decode cX3_runs 15 = .ok (.ireturn, 1) := by decide +kernel
set_option maxRecDepth 20000 in
theorem ggX3_mends_X3_checkWeaver : GoodIn wsX3_mends wsX3_checkWeaver := goodIn_ca (goodIn_r _ [5, 6, 7, 4, 8, 9, 10] (by decide +kernel) (by decide +kernel)) (goodIn_sub (fun _ h => List.mem_cons_of_mem _ (List.mem_append_right _ h)) (by decide +kernel))
set_option maxRecDepth 20000 in
theorem gX3_mends_X3_checkWeaver : GoodIn wsX3_mends (va_wsS RX3 54 yX3_checkWeaver wsX3_checkWeaver) := goodIn_app (goodIn_of _ (by decide +kernel)) ggX3_mends_X3_checkWeaver
set_option maxRecDepth 20000 in
theorem ggX3_mends_X1_weaverAt : GoodIn wsX3_mends wsX1_weaverAt := goodIn_r _ [15, 16, 17, 39, 40, 41, 42, 43] (by decide +kernel) (by decide +kernel)
set_option maxRecDepth 20000 in
theorem gX3_mends_X1_weaverAt : GoodIn wsX3_mends (wsV RX3 57 RX1 yX1_weaverAt wsX1_weaverAt) := goodIn_app (goodIn_of _ (by decide +kernel)) ggX3_mends_X1_weaverAt
set_option maxRecDepth 20000 in
theorem ggX3_mends_X2_firstOffPlan : GoodIn wsX3_mends wsX2_firstOffPlan := goodIn_r _ [22, 23, 24, 25, 26, 4, 27, 30, 31, 32, 33, 34, 35, 36, 37, 38] (by decide +kernel) (by decide +kernel)
set_option maxRecDepth 20000 in
theorem gX3_mends_X2_firstOffPlan : GoodIn wsX3_mends (wsV RX3 140 RX2 yX2_firstOffPlan wsX2_firstOffPlan) := goodIn_app (goodIn_of _ (by decide +kernel)) ggX3_mends_X2_firstOffPlan
theorem dX3_mends_0 : decode cX3_mends 0 = .ok (.iload_n 1, 1) := by decide +kernel
theorem dX3_mends_1 : decode cX3_mends 1 = .ok (.invokestatic 54, 3) := by decide +kernel
theorem dX3_mends_4 : decode cX3_mends 4 = .ok (.aload_n 0, 1) := by decide +kernel
theorem dX3_mends_5 : decode cX3_mends 5 = .ok (.getfield 10, 3) := by decide +kernel
theorem dX3_mends_8 : decode cX3_mends 8 = .ok (.iload_n 1, 1) := by decide +kernel
theorem dX3_mends_9 : decode cX3_mends 9 = .ok (.invokevirtual 57, 3) := by decide +kernel
theorem dX3_mends_12 : decode cX3_mends 12 = .ok (.astore_n 2, 1) := by decide +kernel
theorem dX3_mends_13 : decode cX3_mends 13 = .ok (.aload_n 2, 1) := by decide +kernel
theorem dX3_mends_14 : decode cX3_mends 14 = .ok (.getfield 81, 3) := by decide +kernel
theorem dX3_mends_17 : decode cX3_mends 17 = .ok (.aload_n 2, 1) := by decide +kernel
theorem dX3_mends_18 : decode cX3_mends 18 = .ok (.invokevirtual 140, 3) := by decide +kernel
theorem dX3_mends_21 : decode cX3_mends 21 = .ok (.isub, 1) := by decide +kernel
theorem dX3_mends_22 : decode cX3_mends 22 = .ok (.ireturn, 1) := by decide +kernel
set_option maxRecDepth 20000 in
theorem ggX3_pass_X3_checkRange : GoodIn wsX3_pass wsX3_checkRange := goodIn_ca (goodIn_r _ [5, 6, 7] (by decide +kernel) (by decide +kernel)) (goodIn_sub (fun _ h => List.mem_cons_of_mem _ (List.mem_append_right _ h)) (by decide +kernel))
set_option maxRecDepth 20000 in
theorem gX3_pass_X3_checkRange : GoodIn wsX3_pass (va_wsS RX3 23 yX3_checkRange wsX3_checkRange) := goodIn_app (goodIn_of _ (by decide +kernel)) ggX3_pass_X3_checkRange
set_option maxRecDepth 20000 in
theorem ggX3_pass_X1_letGoBy : GoodIn wsX3_pass wsX1_letGoBy := goodIn_r _ [12, 13, 14, 15, 16, 17, 18, 19, 20, 21, 22, 23, 24, 25, 26, 27, 28, 29, 30, 31, 32, 33, 34, 35, 36, 37, 38, 39, 40, 4, 41, 42, 43, 44, 45, 46, 47, 48, 49, 50, 51, 52, 53, 54, 57, 58, 59, 60, 61, 62, 63, 64, 65, 66, 67, 68, 69, 70, 71] (by decide +kernel) (by decide +kernel)
set_option maxRecDepth 20000 in
theorem gX3_pass_X1_letGoBy : GoodIn wsX3_pass (wsV RX3 143 RX1 yX1_letGoBy wsX1_letGoBy) := goodIn_app (goodIn_of _ (by decide +kernel)) ggX3_pass_X1_letGoBy
theorem dX3_pass_0 : decode cX3_pass 0 = .ok (.iload_n 1, 1) := by decide +kernel
theorem dX3_pass_1 : decode cX3_pass 1 = .ok (.iconst 1, 1) := by decide +kernel
theorem dX3_pass_2 : decode cX3_pass 2 = .ok (.bipush 60, 2) := by decide +kernel
theorem dX3_pass_4 : decode cX3_pass 4 = .ok (.invokestatic 23, 3) := by decide +kernel
theorem dX3_pass_7 : decode cX3_pass 7 = .ok (.aload_n 0, 1) := by decide +kernel
theorem dX3_pass_8 : decode cX3_pass 8 = .ok (.getfield 10, 3) := by decide +kernel
theorem dX3_pass_11 : decode cX3_pass 11 = .ok (.iload_n 1, 1) := by decide +kernel
theorem dX3_pass_12 : decode cX3_pass 12 = .ok (.invokevirtual 143, 3) := by decide +kernel
theorem dX3_pass_15 : decode cX3_pass 15 = .ok (.ireturn, 1) := by decide +kernel
set_option maxRecDepth 20000 in
theorem ggX3_done_X3_checkWeaver : GoodIn wsX3_done wsX3_checkWeaver := goodIn_ca (goodIn_r _ [6, 7, 8, 5, 9, 10, 11] (by decide +kernel) (by decide +kernel)) (goodIn_sub (fun _ h => List.mem_cons_of_mem _ (List.mem_append_right _ h)) (by decide +kernel))
set_option maxRecDepth 20000 in
theorem gX3_done_X3_checkWeaver : GoodIn wsX3_done (va_wsS RX3 54 yX3_checkWeaver wsX3_checkWeaver) := goodIn_app (goodIn_of _ (by decide +kernel)) ggX3_done_X3_checkWeaver
set_option maxRecDepth 20000 in
theorem ggX3_done_X1_becomeLike : GoodIn wsX3_done wsX1_becomeLike := goodIn_r _ [16, 17, 18, 19, 20, 21, 22, 23, 24, 25, 26, 27, 28, 29, 30, 31, 32, 33, 34, 35, 5, 36, 78, 79, 80, 81, 82, 83, 84, 85, 86, 87, 88, 89, 90, 91, 92] (by decide +kernel) (by decide +kernel)
set_option maxRecDepth 20000 in
theorem gX3_done_X1_becomeLike : GoodIn wsX3_done (wsV RX3 146 RX1 yX1_becomeLike wsX1_becomeLike) := goodIn_app (goodIn_of _ (by decide +kernel)) ggX3_done_X1_becomeLike
set_option maxRecDepth 20000 in
theorem ggX3_done_X1_weaverAt : GoodIn wsX3_done wsX1_weaverAt := goodIn_r _ [40, 17, 18, 78, 79, 80, 81, 82] (by decide +kernel) (by decide +kernel)
set_option maxRecDepth 20000 in
theorem gX3_done_X1_weaverAt : GoodIn wsX3_done (wsV RX3 57 RX1 yX1_weaverAt wsX1_weaverAt) := goodIn_app (goodIn_of _ (by decide +kernel)) ggX3_done_X1_weaverAt
set_option maxRecDepth 20000 in
theorem ggX3_done_X2_hasWork : GoodIn wsX3_done wsX2_hasWork := goodIn_r _ [44, 32, 45, 46, 47, 25, 48, 33, 84, 85, 86, 87, 88, 89, 90, 91, 92] (by decide +kernel) (by decide +kernel)
set_option maxRecDepth 20000 in
theorem gX3_done_X2_hasWork : GoodIn wsX3_done (wsV RX3 150 RX2 yX2_hasWork wsX2_hasWork) := goodIn_app (goodIn_of _ (by decide +kernel)) ggX3_done_X2_hasWork
set_option maxRecDepth 20000 in
theorem ggX3_done_X1_letGoBy : GoodIn wsX3_done wsX1_letGoBy := goodIn_r _ [52, 17, 19, 18, 20, 53, 54, 55, 25, 56, 31, 57, 42, 43, 44, 32, 45, 46, 47, 48, 33, 58, 59, 60, 61, 29, 28, 34, 62, 5, 63, 64, 65, 66, 67, 68, 69, 70, 71, 72, 73, 74, 75, 30, 78, 79, 80, 81, 82, 84, 85, 86, 87, 88, 89, 90, 91, 92, 83] (by decide +kernel) (by decide +kernel)
set_option maxRecDepth 20000 in
theorem gX3_done_X1_letGoBy : GoodIn wsX3_done (wsV RX3 143 RX1 yX1_letGoBy wsX1_letGoBy) := goodIn_app (goodIn_of _ (by decide +kernel)) ggX3_done_X1_letGoBy
theorem dX3_done_0 : decode cX3_done 0 = .ok (.iload_n 1, 1) := by decide +kernel
theorem dX3_done_1 : decode cX3_done 1 = .ok (.invokestatic 54, 3) := by decide +kernel
theorem dX3_done_4 : decode cX3_done 4 = .ok (.aload_n 0, 1) := by decide +kernel
theorem dX3_done_5 : decode cX3_done 5 = .ok (.getfield 16, 3) := by decide +kernel
theorem dX3_done_8 : decode cX3_done 8 = .ok (.aload_n 0, 1) := by decide +kernel
theorem dX3_done_9 : decode cX3_done 9 = .ok (.getfield 10, 3) := by decide +kernel
theorem dX3_done_12 : decode cX3_done 12 = .ok (.invokevirtual 146, 3) := by decide +kernel
theorem dX3_done_15 : decode cX3_done 15 = .ok (.aload_n 0, 1) := by decide +kernel
theorem dX3_done_16 : decode cX3_done 16 = .ok (.getfield 16, 3) := by decide +kernel
theorem dX3_done_19 : decode cX3_done 19 = .ok (.iload_n 1, 1) := by decide +kernel
theorem dX3_done_20 : decode cX3_done 20 = .ok (.invokevirtual 57, 3) := by decide +kernel
theorem dX3_done_23 : decode cX3_done 23 = .ok (.astore_n 2, 1) := by decide +kernel
theorem dX3_done_24 : decode cX3_done 24 = .ok (.iconst 0, 1) := by decide +kernel
theorem dX3_done_25 : decode cX3_done 25 = .ok (.istore_n 3, 1) := by decide +kernel
theorem dX3_done_26 : decode cX3_done 26 = .ok (.iload_n 3, 1) := by decide +kernel
theorem dX3_done_27 : decode cX3_done 27 = .ok (.bipush 100, 2) := by decide +kernel
theorem dX3_done_29 : decode cX3_done 29 = .ok (.if_icmp .gt 27, 3) := by decide +kernel
theorem dX3_done_32 : decode cX3_done 32 = .ok (.aload_n 2, 1) := by decide +kernel
theorem dX3_done_33 : decode cX3_done 33 = .ok (.invokevirtual 150, 3) := by decide +kernel
theorem dX3_done_36 : decode cX3_done 36 = .ok (.ifCond .ne 5, 3) := by decide +kernel
theorem dX3_done_39 : decode cX3_done 39 = .ok (.iload_n 3, 1) := by decide +kernel
theorem dX3_done_40 : decode cX3_done 40 = .ok (.ireturn, 1) := by decide +kernel
theorem dX3_done_41 : decode cX3_done 41 = .ok (.aload_n 0, 1) := by decide +kernel
theorem dX3_done_42 : decode cX3_done 42 = .ok (.getfield 16, 3) := by decide +kernel
theorem dX3_done_45 : decode cX3_done 45 = .ok (.iconst 1, 1) := by decide +kernel
theorem dX3_done_46 : decode cX3_done 46 = .ok (.invokevirtual 143, 3) := by decide +kernel
theorem dX3_done_49 : decode cX3_done 49 = .ok (.pop, 1) := by decide +kernel
theorem dX3_done_50 : decode cX3_done 50 = .ok (.iinc 3 1, 3) := by decide +kernel
theorem dX3_done_53 : decode cX3_done 53 = .ok (.goto (-27), 3) := by decide +kernel
theorem dX3_done_56 : decode cX3_done 56 = .ok (.iconst (-1), 1) := by decide +kernel
theorem dX3_done_57 : decode cX3_done 57 = .ok (.ireturn, 1) := by decide +kernel
set_option maxRecDepth 20000 in
theorem ggX3_foresee_X3_checkRange : GoodIn wsX3_foresee wsX3_checkRange := goodIn_ca (goodIn_r _ [6, 7, 8] (by decide +kernel) (by decide +kernel)) (goodIn_sub (fun _ h => List.mem_cons_of_mem _ (List.mem_append_left _ (List.mem_append_right _ h))) (by decide +kernel))
set_option maxRecDepth 20000 in
theorem gX3_foresee_X3_checkRange : GoodIn wsX3_foresee (va_wsS RX3 23 yX3_checkRange wsX3_checkRange) := goodIn_app (goodIn_of _ (by decide +kernel)) ggX3_foresee_X3_checkRange
set_option maxRecDepth 20000 in
theorem ggX3_foresee_X3_checkIndex : GoodIn wsX3_foresee wsX3_checkIndex := goodIn_ca (goodIn_r _ [11, 12, 13] (by decide +kernel) (by decide +kernel)) (goodIn_sub (fun _ h => List.mem_cons_of_mem _ (List.mem_append_right _ h)) (by decide +kernel))
set_option maxRecDepth 20000 in
theorem gX3_foresee_X3_checkIndex : GoodIn wsX3_foresee (va_wsS RX3 93 yX3_checkIndex wsX3_checkIndex) := goodIn_app (goodIn_of _ (by decide +kernel)) ggX3_foresee_X3_checkIndex
set_option maxRecDepth 20000 in
theorem ggX3_foresee_X1_becomeLike : GoodIn wsX3_foresee wsX1_becomeLike := goodIn_r _ [18, 19, 20, 21, 22, 23, 24, 25, 26, 27, 28, 29, 30, 31, 32, 33, 34, 35, 36, 37, 5, 38, 105, 106, 107, 108, 109, 110, 111, 112, 113, 114, 115, 116, 117, 118, 119] (by decide +kernel) (by decide +kernel)
set_option maxRecDepth 20000 in
theorem gX3_foresee_X1_becomeLike : GoodIn wsX3_foresee (wsV RX3 146 RX1 yX1_becomeLike wsX1_becomeLike) := goodIn_app (goodIn_of _ (by decide +kernel)) ggX3_foresee_X1_becomeLike
set_option maxRecDepth 20000 in
theorem ggX3_foresee_X1_letGoBy : GoodIn wsX3_foresee wsX1_letGoBy := goodIn_r _ [42, 19, 21, 20, 22, 43, 44, 45, 27, 46, 33, 47, 48, 49, 50, 34, 51, 52, 53, 54, 35, 55, 56, 57, 58, 31, 30, 36, 59, 5, 60, 61, 62, 63, 64, 65, 66, 67, 68, 69, 70, 71, 72, 32, 105, 106, 107, 108, 109, 111, 112, 113, 114, 115, 116, 117, 118, 119, 110] (by decide +kernel) (by decide +kernel)
set_option maxRecDepth 20000 in
theorem gX3_foresee_X1_letGoBy : GoodIn wsX3_foresee (wsV RX3 143 RX1 yX1_letGoBy wsX1_letGoBy) := goodIn_app (goodIn_of _ (by decide +kernel)) ggX3_foresee_X1_letGoBy
set_option maxRecDepth 20000 in
theorem ggX3_foresee_X1_knots : GoodIn wsX3_foresee wsX1_knots := goodIn_r _ [76, 19, 20, 105, 106, 107, 108, 109, 111, 112, 113, 114, 115, 116, 117, 118, 119] (by decide +kernel) (by decide +kernel)
set_option maxRecDepth 20000 in
theorem gX3_foresee_X1_knots : GoodIn wsX3_foresee (wsV RX3 153 RX1 yX1_knots wsX1_knots) := goodIn_app (goodIn_of _ (by decide +kernel)) ggX3_foresee_X1_knots
set_option maxRecDepth 20000 in
theorem ggX3_foresee_X1_offPlan : GoodIn wsX3_foresee wsX1_offPlan := goodIn_r _ [80, 19, 20, 81, 82, 83, 27, 84, 35, 30, 29, 59, 5, 60, 105, 106, 107, 108, 109, 111, 112, 113, 114, 115, 116, 117, 118, 119] (by decide +kernel) (by decide +kernel)
set_option maxRecDepth 20000 in
theorem gX3_foresee_X1_offPlan : GoodIn wsX3_foresee (wsV RX3 156 RX1 yX1_offPlan wsX1_offPlan) := goodIn_app (goodIn_of _ (by decide +kernel)) ggX3_foresee_X1_offPlan
set_option maxRecDepth 20000 in
theorem ggX3_foresee_X1_tornRows : GoodIn wsX3_foresee wsX1_tornRows := goodIn_r _ [88, 19, 20, 89, 90, 91, 17, 92, 93, 94, 95, 96, 97, 98, 99, 27, 100, 35, 101, 5, 102, 59, 60, 105, 106, 107, 108, 109, 111, 112, 113, 114, 115, 116, 117, 118, 119] (by decide +kernel) (by decide +kernel)
set_option maxRecDepth 20000 in
theorem gX3_foresee_X1_tornRows : GoodIn wsX3_foresee (wsV RX3 159 RX1 yX1_tornRows wsX1_tornRows) := goodIn_app (goodIn_of _ (by decide +kernel)) ggX3_foresee_X1_tornRows
theorem dX3_foresee_0 : decode cX3_foresee 0 = .ok (.iload_n 1, 1) := by decide +kernel
theorem dX3_foresee_1 : decode cX3_foresee 1 = .ok (.iconst 1, 1) := by decide +kernel
theorem dX3_foresee_2 : decode cX3_foresee 2 = .ok (.bipush 60, 2) := by decide +kernel
theorem dX3_foresee_4 : decode cX3_foresee 4 = .ok (.invokestatic 23, 3) := by decide +kernel
theorem dX3_foresee_7 : decode cX3_foresee 7 = .ok (.iload_n 2, 1) := by decide +kernel
theorem dX3_foresee_8 : decode cX3_foresee 8 = .ok (.iconst 3, 1) := by decide +kernel
theorem dX3_foresee_9 : decode cX3_foresee 9 = .ok (.invokestatic 93, 3) := by decide +kernel
theorem dX3_foresee_12 : decode cX3_foresee 12 = .ok (.aload_n 0, 1) := by decide +kernel
theorem dX3_foresee_13 : decode cX3_foresee 13 = .ok (.getfield 16, 3) := by decide +kernel
theorem dX3_foresee_16 : decode cX3_foresee 16 = .ok (.aload_n 0, 1) := by decide +kernel
theorem dX3_foresee_17 : decode cX3_foresee 17 = .ok (.getfield 10, 3) := by decide +kernel
theorem dX3_foresee_20 : decode cX3_foresee 20 = .ok (.invokevirtual 146, 3) := by decide +kernel
theorem dX3_foresee_23 : decode cX3_foresee 23 = .ok (.aload_n 0, 1) := by decide +kernel
theorem dX3_foresee_24 : decode cX3_foresee 24 = .ok (.getfield 16, 3) := by decide +kernel
theorem dX3_foresee_27 : decode cX3_foresee 27 = .ok (.iload_n 1, 1) := by decide +kernel
theorem dX3_foresee_28 : decode cX3_foresee 28 = .ok (.invokevirtual 143, 3) := by decide +kernel
theorem dX3_foresee_31 : decode cX3_foresee 31 = .ok (.pop, 1) := by decide +kernel
theorem dX3_foresee_32 : decode cX3_foresee 32 = .ok (.iload_n 2, 1) := by decide +kernel
theorem dX3_foresee_33 : decode cX3_foresee 33 = .ok (.ifCond .ne 11, 3) := by decide +kernel
theorem dX3_foresee_36 : decode cX3_foresee 36 = .ok (.aload_n 0, 1) := by decide +kernel
theorem dX3_foresee_37 : decode cX3_foresee 37 = .ok (.getfield 16, 3) := by decide +kernel
theorem dX3_foresee_40 : decode cX3_foresee 40 = .ok (.invokevirtual 153, 3) := by decide +kernel
theorem dX3_foresee_43 : decode cX3_foresee 43 = .ok (.ireturn, 1) := by decide +kernel
theorem dX3_foresee_44 : decode cX3_foresee 44 = .ok (.iload_n 2, 1) := by decide +kernel
theorem dX3_foresee_45 : decode cX3_foresee 45 = .ok (.iconst 1, 1) := by decide +kernel
theorem dX3_foresee_46 : decode cX3_foresee 46 = .ok (.if_icmp .ne 13, 3) := by decide +kernel
theorem dX3_foresee_49 : decode cX3_foresee 49 = .ok (.aload_n 0, 1) := by decide +kernel
theorem dX3_foresee_50 : decode cX3_foresee 50 = .ok (.getfield 16, 3) := by decide +kernel
theorem dX3_foresee_53 : decode cX3_foresee 53 = .ok (.invokevirtual 156, 3) := by decide +kernel
theorem dX3_foresee_56 : decode cX3_foresee 56 = .ok (.goto 10, 3) := by decide +kernel
theorem dX3_foresee_59 : decode cX3_foresee 59 = .ok (.aload_n 0, 1) := by decide +kernel
theorem dX3_foresee_60 : decode cX3_foresee 60 = .ok (.getfield 16, 3) := by decide +kernel
theorem dX3_foresee_63 : decode cX3_foresee 63 = .ok (.invokevirtual 159, 3) := by decide +kernel
theorem dX3_foresee_66 : decode cX3_foresee 66 = .ok (.ireturn, 1) := by decide +kernel
set_option maxRecDepth 20000 in
theorem ggX3_share_X1_knots : GoodIn wsX3_share wsX1_knots := goodIn_r _ [6, 7, 8, 26, 27, 28, 29, 30, 31, 32, 33, 34, 35, 36, 37, 38, 39] (by decide +kernel) (by decide +kernel)
set_option maxRecDepth 20000 in
theorem gX3_share_X1_knots : GoodIn wsX3_share (wsV RX3 153 RX1 yX1_knots wsX1_knots) := goodIn_app (goodIn_of _ (by decide +kernel)) ggX3_share_X1_knots
set_option maxRecDepth 20000 in
theorem ggX3_share_X1_offPlan : GoodIn wsX3_share wsX1_offPlan := goodIn_r _ [12, 7, 8, 13, 14, 15, 16, 17, 18, 19, 20, 21, 22, 23, 26, 27, 28, 29, 30, 31, 32, 33, 34, 35, 36, 37, 38, 39] (by decide +kernel) (by decide +kernel)
set_option maxRecDepth 20000 in
theorem gX3_share_X1_offPlan : GoodIn wsX3_share (wsV RX3 156 RX1 yX1_offPlan wsX1_offPlan) := goodIn_app (goodIn_of _ (by decide +kernel)) ggX3_share_X1_offPlan
theorem dX3_share_0 : decode cX3_share 0 = .ok (.aload_n 0, 1) := by decide +kernel
theorem dX3_share_1 : decode cX3_share 1 = .ok (.getfield 10, 3) := by decide +kernel
theorem dX3_share_4 : decode cX3_share 4 = .ok (.invokevirtual 153, 3) := by decide +kernel
theorem dX3_share_7 : decode cX3_share 7 = .ok (.istore_n 1, 1) := by decide +kernel
theorem dX3_share_8 : decode cX3_share 8 = .ok (.iload_n 1, 1) := by decide +kernel
theorem dX3_share_9 : decode cX3_share 9 = .ok (.ifCond .gt 5, 3) := by decide +kernel
theorem dX3_share_12 : decode cX3_share 12 = .ok (.dconst 0, 1) := by decide +kernel
theorem dX3_share_13 : decode cX3_share 13 = .ok (.dreturn, 1) := by decide +kernel
theorem dX3_share_14 : decode cX3_share 14 = .ok (.iload_n 1, 1) := by decide +kernel
theorem dX3_share_15 : decode cX3_share 15 = .ok (.aload_n 0, 1) := by decide +kernel
theorem dX3_share_16 : decode cX3_share 16 = .ok (.getfield 10, 3) := by decide +kernel
theorem dX3_share_19 : decode cX3_share 19 = .ok (.invokevirtual 156, 3) := by decide +kernel
theorem dX3_share_22 : decode cX3_share 22 = .ok (.isub, 1) := by decide +kernel
theorem dX3_share_23 : decode cX3_share 23 = .ok (.i2d, 1) := by decide +kernel
theorem dX3_share_24 : decode cX3_share 24 = .ok (.iload_n 1, 1) := by decide +kernel
theorem dX3_share_25 : decode cX3_share 25 = .ok (.i2d, 1) := by decide +kernel
theorem dX3_share_26 : decode cX3_share 26 = .ok (.ddiv, 1) := by decide +kernel
theorem dX3_share_27 : decode cX3_share 27 = .ok (.dreturn, 1) := by decide +kernel
set_option maxRecDepth 20000 in
theorem ggX3_digest_X1_number : GoodIn wsX3_digest wsX1_number := goodIn_r _ [7, 8, 9, 10, 11, 12, 13, 6, 14, 15, 16, 17, 18, 19, 20, 21, 22, 23, 24, 25, 26, 27, 28, 29, 30, 31, 32, 33, 34, 35, 36, 37, 38, 39, 40, 41, 42, 43, 44, 45, 46, 47, 48, 49, 50, 51, 52, 53, 54, 55, 56, 57, 58, 59, 116, 117, 118, 119, 120, 122, 123, 124, 125, 126, 127, 128, 129, 130, 121] (by decide +kernel) (by decide +kernel)
set_option maxRecDepth 20000 in
theorem gX3_digest_X1_number : GoodIn wsX3_digest (wsV RX3 123 RX1 yX1_number wsX1_number) := goodIn_app (goodIn_of _ (by decide +kernel)) ggX3_digest_X1_number
set_option maxRecDepth 20000 in
theorem ggX3_digest_X3_mix : GoodIn wsX3_digest wsX3_mix := goodIn_r _ [62, 63] (by decide +kernel) (by decide +kernel)
set_option maxRecDepth 20000 in
theorem gX3_digest_X3_mix : GoodIn wsX3_digest (va_wsS RX3 164 yX3_mix wsX3_mix) := goodIn_app (goodIn_of _ (by decide +kernel)) ggX3_digest_X3_mix
set_option maxRecDepth 20000 in
theorem ggX3_digest_X1_knotAt : GoodIn wsX3_digest wsX1_knotAt := goodIn_r _ [67, 68, 69, 70, 6, 71, 72, 30, 73, 74, 75, 76, 77, 15, 16, 48, 49, 78, 79, 80, 24, 81, 26, 27, 29, 31, 116, 117, 118, 119, 120, 122, 123, 124, 125, 126, 127, 128, 129, 130] (by decide +kernel) (by decide +kernel)
set_option maxRecDepth 20000 in
theorem gX3_digest_X1_knotAt : GoodIn wsX3_digest (wsV RX3 96 RX1 yX1_knotAt wsX1_knotAt) := goodIn_app (goodIn_of _ (by decide +kernel)) ggX3_digest_X1_knotAt
set_option maxRecDepth 20000 in
theorem ggX3_digest_X1_planAt : GoodIn wsX3_digest wsX1_planAt := goodIn_r _ [85, 68, 69, 70, 6, 71, 72, 30, 73, 74, 75, 76, 77, 15, 16, 48, 49, 29, 31, 122, 123, 124, 125, 126, 127, 128, 129, 130, 116, 117, 118, 119, 120] (by decide +kernel) (by decide +kernel)
set_option maxRecDepth 20000 in
theorem gX3_digest_X1_planAt : GoodIn wsX3_digest (wsV RX3 99 RX1 yX1_planAt wsX1_planAt) := goodIn_app (goodIn_of _ (by decide +kernel)) ggX3_digest_X1_planAt
set_option maxRecDepth 20000 in
theorem ggX3_digest_X1_weaverAt : GoodIn wsX3_digest wsX1_weaverAt := goodIn_r _ [77, 15, 16, 116, 117, 118, 119, 120] (by decide +kernel) (by decide +kernel)
set_option maxRecDepth 20000 in
theorem gX3_digest_X1_weaverAt : GoodIn wsX3_digest (wsV RX3 57 RX1 yX1_weaverAt wsX1_weaverAt) := goodIn_app (goodIn_of _ (by decide +kernel)) ggX3_digest_X1_weaverAt
set_option maxRecDepth 20000 in
theorem ggX3_digest_X2_mixInto : GoodIn wsX3_digest wsX2_mixInto := goodIn_r _ [90, 91, 92, 93, 94, 95, 96, 24, 97, 98, 26, 99, 100, 101, 102, 103, 29, 30, 31, 104, 105, 106, 107, 108, 109, 110, 111, 112, 61, 62, 63, 122, 123, 124, 125, 126, 127, 128, 129, 130] (by decide +kernel) (by decide +kernel)
set_option maxRecDepth 20000 in
theorem gX3_digest_X2_mixInto : GoodIn wsX3_digest (wsV RX3 168 RX2 yX2_mixInto wsX2_mixInto) := goodIn_app (goodIn_of _ (by decide +kernel)) ggX3_digest_X2_mixInto
set_option maxRecDepth 20000 in
theorem ggX3_digest_X3_at : GoodIn wsX3_digest wsX3_at := goodIn_r _ [31] (by decide +kernel) (by decide +kernel)
set_option maxRecDepth 20000 in
theorem gX3_digest_X3_at : GoodIn wsX3_digest (va_wsS RX3 116 yX3_at wsX3_at) := goodIn_app (goodIn_of _ (by decide +kernel)) ggX3_digest_X3_at
theorem dX3_digest_0 : decode cX3_digest 0 = .ok (.ldc2_w 162, 3) := by decide +kernel
theorem dX3_digest_3 : decode cX3_digest 3 = .ok (.lstore_n 1, 1) := by decide +kernel
theorem dX3_digest_4 : decode cX3_digest 4 = .ok (.iconst 0, 1) := by decide +kernel
theorem dX3_digest_5 : decode cX3_digest 5 = .ok (.istore_n 3, 1) := by decide +kernel
theorem dX3_digest_6 : decode cX3_digest 6 = .ok (.iload_n 3, 1) := by decide +kernel
theorem dX3_digest_7 : decode cX3_digest 7 = .ok (.bipush 8, 2) := by decide +kernel
theorem dX3_digest_9 : decode cX3_digest 9 = .ok (.if_icmp .ge 22, 3) := by decide +kernel
theorem dX3_digest_12 : decode cX3_digest 12 = .ok (.lload_n 1, 1) := by decide +kernel
theorem dX3_digest_13 : decode cX3_digest 13 = .ok (.aload_n 0, 1) := by decide +kernel
theorem dX3_digest_14 : decode cX3_digest 14 = .ok (.getfield 10, 3) := by decide +kernel
theorem dX3_digest_17 : decode cX3_digest 17 = .ok (.iload_n 3, 1) := by decide +kernel
theorem dX3_digest_18 : decode cX3_digest 18 = .ok (.invokevirtual 123, 3) := by decide +kernel
theorem dX3_digest_21 : decode cX3_digest 21 = .ok (.invokestatic 164, 3) := by decide +kernel
theorem dX3_digest_24 : decode cX3_digest 24 = .ok (.lstore_n 1, 1) := by decide +kernel
theorem dX3_digest_25 : decode cX3_digest 25 = .ok (.iinc 3 1, 3) := by decide +kernel
theorem dX3_digest_28 : decode cX3_digest 28 = .ok (.goto (-22), 3) := by decide +kernel
theorem dX3_digest_31 : decode cX3_digest 31 = .ok (.iconst 0, 1) := by decide +kernel
theorem dX3_digest_32 : decode cX3_digest 32 = .ok (.istore_n 3, 1) := by decide +kernel
theorem dX3_digest_33 : decode cX3_digest 33 = .ok (.iload_n 3, 1) := by decide +kernel
theorem dX3_digest_34 : decode cX3_digest 34 = .ok (.bipush 10, 2) := by decide +kernel
theorem dX3_digest_36 : decode cX3_digest 36 = .ok (.if_icmp .ge 55, 3) := by decide +kernel
theorem dX3_digest_39 : decode cX3_digest 39 = .ok (.iconst 0, 1) := by decide +kernel
theorem dX3_digest_40 : decode cX3_digest 40 = .ok (.istore 4, 2) := by decide +kernel
theorem dX3_digest_42 : decode cX3_digest 42 = .ok (.iload 4, 2) := by decide +kernel
theorem dX3_digest_44 : decode cX3_digest 44 = .ok (.bipush 12, 2) := by decide +kernel
theorem dX3_digest_46 : decode cX3_digest 46 = .ok (.if_icmp .ge 39, 3) := by decide +kernel
theorem dX3_digest_49 : decode cX3_digest 49 = .ok (.lload_n 1, 1) := by decide +kernel
theorem dX3_digest_50 : decode cX3_digest 50 = .ok (.aload_n 0, 1) := by decide +kernel
theorem dX3_digest_51 : decode cX3_digest 51 = .ok (.getfield 10, 3) := by decide +kernel
theorem dX3_digest_54 : decode cX3_digest 54 = .ok (.iload 4, 2) := by decide +kernel
theorem dX3_digest_56 : decode cX3_digest 56 = .ok (.iload_n 3, 1) := by decide +kernel
theorem dX3_digest_57 : decode cX3_digest 57 = .ok (.invokevirtual 96, 3) := by decide +kernel
theorem dX3_digest_60 : decode cX3_digest 60 = .ok (.invokestatic 164, 3) := by decide +kernel
theorem dX3_digest_63 : decode cX3_digest 63 = .ok (.lstore_n 1, 1) := by decide +kernel
theorem dX3_digest_64 : decode cX3_digest 64 = .ok (.lload_n 1, 1) := by decide +kernel
theorem dX3_digest_65 : decode cX3_digest 65 = .ok (.aload_n 0, 1) := by decide +kernel
theorem dX3_digest_66 : decode cX3_digest 66 = .ok (.getfield 10, 3) := by decide +kernel
theorem dX3_digest_69 : decode cX3_digest 69 = .ok (.iload 4, 2) := by decide +kernel
theorem dX3_digest_71 : decode cX3_digest 71 = .ok (.iload_n 3, 1) := by decide +kernel
theorem dX3_digest_72 : decode cX3_digest 72 = .ok (.invokevirtual 99, 3) := by decide +kernel
theorem dX3_digest_75 : decode cX3_digest 75 = .ok (.invokestatic 164, 3) := by decide +kernel
theorem dX3_digest_78 : decode cX3_digest 78 = .ok (.lstore_n 1, 1) := by decide +kernel
theorem dX3_digest_79 : decode cX3_digest 79 = .ok (.iinc 4 1, 3) := by decide +kernel
theorem dX3_digest_82 : decode cX3_digest 82 = .ok (.goto (-40), 3) := by decide +kernel
theorem dX3_digest_85 : decode cX3_digest 85 = .ok (.iinc 3 1, 3) := by decide +kernel
theorem dX3_digest_88 : decode cX3_digest 88 = .ok (.goto (-55), 3) := by decide +kernel
theorem dX3_digest_91 : decode cX3_digest 91 = .ok (.iconst 0, 1) := by decide +kernel
theorem dX3_digest_92 : decode cX3_digest 92 = .ok (.istore_n 3, 1) := by decide +kernel
theorem dX3_digest_93 : decode cX3_digest 93 = .ok (.iload_n 3, 1) := by decide +kernel
theorem dX3_digest_94 : decode cX3_digest 94 = .ok (.iconst 2, 1) := by decide +kernel
theorem dX3_digest_95 : decode cX3_digest 95 = .ok (.if_icmp .ge 22, 3) := by decide +kernel
theorem dX3_digest_98 : decode cX3_digest 98 = .ok (.aload_n 0, 1) := by decide +kernel
theorem dX3_digest_99 : decode cX3_digest 99 = .ok (.getfield 10, 3) := by decide +kernel
theorem dX3_digest_102 : decode cX3_digest 102 = .ok (.iload_n 3, 1) := by decide +kernel
theorem dX3_digest_103 : decode cX3_digest 103 = .ok (.invokevirtual 57, 3) := by decide +kernel
theorem dX3_digest_106 : decode cX3_digest 106 = .ok (.lload_n 1, 1) := by decide +kernel
theorem dX3_digest_107 : decode cX3_digest 107 = .ok (.invokevirtual 168, 3) := by decide +kernel
theorem dX3_digest_110 : decode cX3_digest 110 = .ok (.lstore_n 1, 1) := by decide +kernel
theorem dX3_digest_111 : decode cX3_digest 111 = .ok (.iinc 3 1, 3) := by decide +kernel
theorem dX3_digest_114 : decode cX3_digest 114 = .ok (.goto (-21), 3) := by decide +kernel
theorem dX3_digest_117 : decode cX3_digest 117 = .ok (.iconst 0, 1) := by decide +kernel
theorem dX3_digest_118 : decode cX3_digest 118 = .ok (.istore_n 3, 1) := by decide +kernel
theorem dX3_digest_119 : decode cX3_digest 119 = .ok (.iload_n 3, 1) := by decide +kernel
theorem dX3_digest_120 : decode cX3_digest 120 = .ok (.bipush 8, 2) := by decide +kernel
theorem dX3_digest_122 : decode cX3_digest 122 = .ok (.if_icmp .ge 28, 3) := by decide +kernel
theorem dX3_digest_125 : decode cX3_digest 125 = .ok (.lload_n 1, 1) := by decide +kernel
theorem dX3_digest_126 : decode cX3_digest 126 = .ok (.aload_n 0, 1) := by decide +kernel
theorem dX3_digest_127 : decode cX3_digest 127 = .ok (.getfield 10, 3) := by decide +kernel
theorem dX3_digest_130 : decode cX3_digest 130 = .ok (.getfield 45, 3) := by decide +kernel
theorem dX3_digest_133 : decode cX3_digest 133 = .ok (.getfield 124, 3) := by decide +kernel
theorem dX3_digest_136 : decode cX3_digest 136 = .ok (.iload_n 3, 1) := by decide +kernel
theorem dX3_digest_137 : decode cX3_digest 137 = .ok (.invokestatic 116, 3) := by decide +kernel
theorem dX3_digest_140 : decode cX3_digest 140 = .ok (.invokestatic 164, 3) := by decide +kernel
theorem dX3_digest_143 : decode cX3_digest 143 = .ok (.lstore_n 1, 1) := by decide +kernel
theorem dX3_digest_144 : decode cX3_digest 144 = .ok (.iinc 3 1, 3) := by decide +kernel
theorem dX3_digest_147 : decode cX3_digest 147 = .ok (.goto (-28), 3) := by decide +kernel
theorem dX3_digest_150 : decode cX3_digest 150 = .ok (.lload_n 1, 1) := by decide +kernel
theorem dX3_digest_151 : decode cX3_digest 151 = .ok (.lreturn, 1) := by decide +kernel
set_option maxRecDepth 20000 in
theorem ggX3_checkWeaver_X3_checkIndex : GoodIn wsX3_checkWeaver wsX3_checkIndex := goodIn_ca (goodIn_r _ [4, 5, 6] (by decide +kernel) (by decide +kernel)) (goodIn_sub (fun _ h => List.mem_cons_of_mem _ (List.mem_append_right _ h)) (by decide +kernel))
set_option maxRecDepth 20000 in
theorem gX3_checkWeaver_X3_checkIndex : GoodIn wsX3_checkWeaver (va_wsS RX3 93 yX3_checkIndex wsX3_checkIndex) := goodIn_app (goodIn_of _ (by decide +kernel)) ggX3_checkWeaver_X3_checkIndex
theorem dX3_checkWeaver_0 : decode cX3_checkWeaver 0 = .ok (.iload_n 0, 1) := by decide +kernel
theorem dX3_checkWeaver_1 : decode cX3_checkWeaver 1 = .ok (.iconst 2, 1) := by decide +kernel
theorem dX3_checkWeaver_2 : decode cX3_checkWeaver 2 = .ok (.invokestatic 93, 3) := by decide +kernel
theorem dX3_checkWeaver_5 : decode cX3_checkWeaver 5 = .ok (.return_, 1) := by decide +kernel
set_option maxRecDepth 20000 in
theorem ggX3_checkCell_X3_checkIndex : GoodIn wsX3_checkCell wsX3_checkIndex := goodIn_ca (goodIn_r _ [4, 5, 6] (by decide +kernel) (by decide +kernel)) (goodIn_sub (fun _ h => List.mem_cons_of_mem _ (List.mem_append_right _ h)) (by decide +kernel))
set_option maxRecDepth 20000 in
theorem gX3_checkCell_X3_checkIndex : GoodIn wsX3_checkCell (va_wsS RX3 93 yX3_checkIndex wsX3_checkIndex) := goodIn_app (goodIn_of _ (by decide +kernel)) ggX3_checkCell_X3_checkIndex
theorem dX3_checkCell_0 : decode cX3_checkCell 0 = .ok (.iload_n 0, 1) := by decide +kernel
theorem dX3_checkCell_1 : decode cX3_checkCell 1 = .ok (.bipush 12, 2) := by decide +kernel
theorem dX3_checkCell_3 : decode cX3_checkCell 3 = .ok (.invokestatic 93, 3) := by decide +kernel
theorem dX3_checkCell_6 : decode cX3_checkCell 6 = .ok (.iload_n 1, 1) := by decide +kernel
theorem dX3_checkCell_7 : decode cX3_checkCell 7 = .ok (.bipush 10, 2) := by decide +kernel
theorem dX3_checkCell_9 : decode cX3_checkCell 9 = .ok (.invokestatic 93, 3) := by decide +kernel
theorem dX3_checkCell_12 : decode cX3_checkCell 12 = .ok (.return_, 1) := by decide +kernel
set_option maxRecDepth 20000 in
theorem ggX3_checkColour_X3_checkRange : GoodIn wsX3_checkColour wsX3_checkRange := goodIn_ca (goodIn_r _ [4, 5, 6] (by decide +kernel) (by decide +kernel)) (goodIn_sub (fun _ h => List.mem_cons_of_mem _ (List.mem_append_right _ h)) (by decide +kernel))
set_option maxRecDepth 20000 in
theorem gX3_checkColour_X3_checkRange : GoodIn wsX3_checkColour (va_wsS RX3 23 yX3_checkRange wsX3_checkRange) := goodIn_app (goodIn_of _ (by decide +kernel)) ggX3_checkColour_X3_checkRange
theorem dX3_checkColour_0 : decode cX3_checkColour 0 = .ok (.iload_n 0, 1) := by decide +kernel
theorem dX3_checkColour_1 : decode cX3_checkColour 1 = .ok (.iconst 0, 1) := by decide +kernel
theorem dX3_checkColour_2 : decode cX3_checkColour 2 = .ok (.bipush 7, 2) := by decide +kernel
theorem dX3_checkColour_4 : decode cX3_checkColour 4 = .ok (.invokestatic 23, 3) := by decide +kernel
theorem dX3_checkColour_7 : decode cX3_checkColour 7 = .ok (.return_, 1) := by decide +kernel
theorem dX3_checkIndex_0 : decode cX3_checkIndex 0 = .ok (.iload_n 0, 1) := by decide +kernel
theorem dX3_checkIndex_1 : decode cX3_checkIndex 1 = .ok (.ifCond .lt 8, 3) := by decide +kernel
theorem dX3_checkIndex_4 : decode cX3_checkIndex 4 = .ok (.iload_n 0, 1) := by decide +kernel
theorem dX3_checkIndex_5 : decode cX3_checkIndex 5 = .ok (.iload_n 1, 1) := by decide +kernel
theorem dX3_checkIndex_6 : decode cX3_checkIndex 6 = .ok (.if_icmp .lt 13, 3) := by decide +kernel
theorem dX3_checkIndex_9 : decode cX3_checkIndex 9 = .ok (.new 172, 3) := by decide +kernel
theorem dX3_checkIndex_12 : decode cX3_checkIndex 12 = .ok (.dup, 1) := by decide +kernel
theorem dX3_checkIndex_13 : decode cX3_checkIndex 13 = .ok (.ldc 174, 2) := by decide +kernel
theorem dX3_checkIndex_15 : decode cX3_checkIndex 15 = .ok (.invokespecial 176, 3) := by decide +kernel
theorem dX3_checkIndex_18 : decode cX3_checkIndex 18 = .ok (.athrow, 1) := by decide +kernel
theorem dX3_checkIndex_19 : decode cX3_checkIndex 19 = .ok (.return_, 1) := by decide +kernel
theorem dX3_checkRange_0 : decode cX3_checkRange 0 = .ok (.iload_n 0, 1) := by decide +kernel
theorem dX3_checkRange_1 : decode cX3_checkRange 1 = .ok (.iload_n 1, 1) := by decide +kernel
theorem dX3_checkRange_2 : decode cX3_checkRange 2 = .ok (.if_icmp .lt 8, 3) := by decide +kernel
theorem dX3_checkRange_5 : decode cX3_checkRange 5 = .ok (.iload_n 0, 1) := by decide +kernel
theorem dX3_checkRange_6 : decode cX3_checkRange 6 = .ok (.iload_n 2, 1) := by decide +kernel
theorem dX3_checkRange_7 : decode cX3_checkRange 7 = .ok (.if_icmp .le 13, 3) := by decide +kernel
theorem dX3_checkRange_10 : decode cX3_checkRange 10 = .ok (.new 177, 3) := by decide +kernel
theorem dX3_checkRange_13 : decode cX3_checkRange 13 = .ok (.dup, 1) := by decide +kernel
theorem dX3_checkRange_14 : decode cX3_checkRange 14 = .ok (.ldc 179, 2) := by decide +kernel
theorem dX3_checkRange_16 : decode cX3_checkRange 16 = .ok (.invokespecial 181, 3) := by decide +kernel
theorem dX3_checkRange_19 : decode cX3_checkRange 19 = .ok (.athrow, 1) := by decide +kernel
theorem dX3_checkRange_20 : decode cX3_checkRange 20 = .ok (.return_, 1) := by decide +kernel
theorem dX3_at_0 : decode cX3_at 0 = .ok (.iload_n 1, 1) := by decide +kernel
theorem dX3_at_1 : decode cX3_at 1 = .ok (.ifCond .lt 15, 3) := by decide +kernel
theorem dX3_at_4 : decode cX3_at 4 = .ok (.iload_n 1, 1) := by decide +kernel
theorem dX3_at_5 : decode cX3_at 5 = .ok (.aload_n 0, 1) := by decide +kernel
theorem dX3_at_6 : decode cX3_at 6 = .ok (.arraylength, 1) := by decide +kernel
theorem dX3_at_7 : decode cX3_at 7 = .ok (.if_icmp .ge 9, 3) := by decide +kernel
theorem dX3_at_10 : decode cX3_at 10 = .ok (.aload_n 0, 1) := by decide +kernel
theorem dX3_at_11 : decode cX3_at 11 = .ok (.iload_n 1, 1) := by decide +kernel
theorem dX3_at_12 : decode cX3_at 12 = .ok (.iaload, 1) := by decide +kernel
theorem dX3_at_13 : decode cX3_at 13 = .ok (.goto 4, 3) := by decide +kernel
theorem dX3_at_16 : decode cX3_at 16 = .ok (.iconst (-1), 1) := by decide +kernel
theorem dX3_at_17 : decode cX3_at 17 = .ok (.ireturn, 1) := by decide +kernel
theorem dX3_put_0 : decode cX3_put 0 = .ok (.iload_n 1, 1) := by decide +kernel
theorem dX3_put_1 : decode cX3_put 1 = .ok (.ifCond .lt 13, 3) := by decide +kernel
theorem dX3_put_4 : decode cX3_put 4 = .ok (.iload_n 1, 1) := by decide +kernel
theorem dX3_put_5 : decode cX3_put 5 = .ok (.aload_n 0, 1) := by decide +kernel
theorem dX3_put_6 : decode cX3_put 6 = .ok (.arraylength, 1) := by decide +kernel
theorem dX3_put_7 : decode cX3_put 7 = .ok (.if_icmp .ge 7, 3) := by decide +kernel
theorem dX3_put_10 : decode cX3_put 10 = .ok (.aload_n 0, 1) := by decide +kernel
theorem dX3_put_11 : decode cX3_put 11 = .ok (.iload_n 1, 1) := by decide +kernel
theorem dX3_put_12 : decode cX3_put 12 = .ok (.iload_n 2, 1) := by decide +kernel
theorem dX3_put_13 : decode cX3_put 13 = .ok (.iastore, 1) := by decide +kernel
theorem dX3_put_14 : decode cX3_put 14 = .ok (.return_, 1) := by decide +kernel
theorem dX3_copyRow_0 : decode cX3_copyRow 0 = .ok (.iconst 0, 1) := by decide +kernel
theorem dX3_copyRow_1 : decode cX3_copyRow 1 = .ok (.istore_n 2, 1) := by decide +kernel
theorem dX3_copyRow_2 : decode cX3_copyRow 2 = .ok (.iload_n 2, 1) := by decide +kernel
theorem dX3_copyRow_3 : decode cX3_copyRow 3 = .ok (.aload_n 0, 1) := by decide +kernel
theorem dX3_copyRow_4 : decode cX3_copyRow 4 = .ok (.arraylength, 1) := by decide +kernel
theorem dX3_copyRow_5 : decode cX3_copyRow 5 = .ok (.if_icmp .ge 21, 3) := by decide +kernel
theorem dX3_copyRow_8 : decode cX3_copyRow 8 = .ok (.iload_n 2, 1) := by decide +kernel
theorem dX3_copyRow_9 : decode cX3_copyRow 9 = .ok (.aload_n 1, 1) := by decide +kernel
theorem dX3_copyRow_10 : decode cX3_copyRow 10 = .ok (.arraylength, 1) := by decide +kernel
theorem dX3_copyRow_11 : decode cX3_copyRow 11 = .ok (.if_icmp .ge 15, 3) := by decide +kernel
theorem dX3_copyRow_14 : decode cX3_copyRow 14 = .ok (.aload_n 1, 1) := by decide +kernel
theorem dX3_copyRow_15 : decode cX3_copyRow 15 = .ok (.iload_n 2, 1) := by decide +kernel
theorem dX3_copyRow_16 : decode cX3_copyRow 16 = .ok (.aload_n 0, 1) := by decide +kernel
theorem dX3_copyRow_17 : decode cX3_copyRow 17 = .ok (.iload_n 2, 1) := by decide +kernel
theorem dX3_copyRow_18 : decode cX3_copyRow 18 = .ok (.iaload, 1) := by decide +kernel
theorem dX3_copyRow_19 : decode cX3_copyRow 19 = .ok (.iastore, 1) := by decide +kernel
theorem dX3_copyRow_20 : decode cX3_copyRow 20 = .ok (.iinc 2 1, 3) := by decide +kernel
theorem dX3_copyRow_23 : decode cX3_copyRow 23 = .ok (.goto (-21), 3) := by decide +kernel
theorem dX3_copyRow_26 : decode cX3_copyRow 26 = .ok (.return_, 1) := by decide +kernel
theorem dX3_sideOf_0 : decode cX3_sideOf 0 = .ok (.iload_n 0, 1) := by decide +kernel
theorem dX3_sideOf_1 : decode cX3_sideOf 1 = .ok (.bipush 6, 2) := by decide +kernel
theorem dX3_sideOf_3 : decode cX3_sideOf 3 = .ok (.if_icmp .ge 7, 3) := by decide +kernel
theorem dX3_sideOf_6 : decode cX3_sideOf 6 = .ok (.iconst 0, 1) := by decide +kernel
theorem dX3_sideOf_7 : decode cX3_sideOf 7 = .ok (.goto 4, 3) := by decide +kernel
theorem dX3_sideOf_10 : decode cX3_sideOf 10 = .ok (.iconst 1, 1) := by decide +kernel
theorem dX3_sideOf_11 : decode cX3_sideOf 11 = .ok (.ireturn, 1) := by decide +kernel
theorem dX3_placeOf_0 : decode cX3_placeOf 0 = .ok (.bipush 6, 2) := by decide +kernel
theorem dX3_placeOf_2 : decode cX3_placeOf 2 = .ok (.iload_n 1, 1) := by decide +kernel
theorem dX3_placeOf_3 : decode cX3_placeOf 3 = .ok (.imul, 1) := by decide +kernel
theorem dX3_placeOf_4 : decode cX3_placeOf 4 = .ok (.iload_n 0, 1) := by decide +kernel
theorem dX3_placeOf_5 : decode cX3_placeOf 5 = .ok (.bipush 6, 2) := by decide +kernel
theorem dX3_placeOf_7 : decode cX3_placeOf 7 = .ok (.if_icmp .ge 7, 3) := by decide +kernel
theorem dX3_placeOf_10 : decode cX3_placeOf 10 = .ok (.iload_n 0, 1) := by decide +kernel
theorem dX3_placeOf_11 : decode cX3_placeOf 11 = .ok (.goto 7, 3) := by decide +kernel
theorem dX3_placeOf_14 : decode cX3_placeOf 14 = .ok (.bipush 11, 2) := by decide +kernel
theorem dX3_placeOf_16 : decode cX3_placeOf 16 = .ok (.iload_n 0, 1) := by decide +kernel
theorem dX3_placeOf_17 : decode cX3_placeOf 17 = .ok (.isub, 1) := by decide +kernel
theorem dX3_placeOf_18 : decode cX3_placeOf 18 = .ok (.iadd, 1) := by decide +kernel
theorem dX3_placeOf_19 : decode cX3_placeOf 19 = .ok (.ireturn, 1) := by decide +kernel
theorem dX3_mix_0 : decode cX3_mix 0 = .ok (.lload_n 0, 1) := by decide +kernel
theorem dX3_mix_1 : decode cX3_mix 1 = .ok (.ldc2_w 182, 3) := by decide +kernel
theorem dX3_mix_4 : decode cX3_mix 4 = .ok (.lmul, 1) := by decide +kernel
theorem dX3_mix_5 : decode cX3_mix 5 = .ok (.iload_n 2, 1) := by decide +kernel
theorem dX3_mix_6 : decode cX3_mix 6 = .ok (.i2l, 1) := by decide +kernel
theorem dX3_mix_7 : decode cX3_mix 7 = .ok (.ladd, 1) := by decide +kernel
theorem dX3_mix_8 : decode cX3_mix 8 = .ok (.lreturn, 1) := by decide +kernel
theorem dX4_init_0 : decode cX4_init 0 = .ok (.aload_n 0, 1) := by decide +kernel
theorem dX4_init_1 : decode cX4_init 1 = .ok (.invokespecial 1, 3) := by decide +kernel
theorem dX4_init_4 : decode cX4_init 4 = .ok (.aload_n 0, 1) := by decide +kernel
theorem dX4_init_5 : decode cX4_init 5 = .ok (.bipush 8, 2) := by decide +kernel
theorem dX4_init_7 : decode cX4_init 7 = .ok (.newarray .int, 2) := by decide +kernel
theorem dX4_init_9 : decode cX4_init 9 = .ok (.dup, 1) := by decide +kernel
theorem dX4_init_10 : decode cX4_init 10 = .ok (.iconst 0, 1) := by decide +kernel
theorem dX4_init_11 : decode cX4_init 11 = .ok (.iconst 1, 1) := by decide +kernel
theorem dX4_init_12 : decode cX4_init 12 = .ok (.iastore, 1) := by decide +kernel
theorem dX4_init_13 : decode cX4_init 13 = .ok (.dup, 1) := by decide +kernel
theorem dX4_init_14 : decode cX4_init 14 = .ok (.iconst 1, 1) := by decide +kernel
theorem dX4_init_15 : decode cX4_init 15 = .ok (.iconst 0, 1) := by decide +kernel
theorem dX4_init_16 : decode cX4_init 16 = .ok (.iastore, 1) := by decide +kernel
theorem dX4_init_17 : decode cX4_init 17 = .ok (.dup, 1) := by decide +kernel
theorem dX4_init_18 : decode cX4_init 18 = .ok (.iconst 2, 1) := by decide +kernel
theorem dX4_init_19 : decode cX4_init 19 = .ok (.iconst 0, 1) := by decide +kernel
theorem dX4_init_20 : decode cX4_init 20 = .ok (.iastore, 1) := by decide +kernel
theorem dX4_init_21 : decode cX4_init 21 = .ok (.dup, 1) := by decide +kernel
theorem dX4_init_22 : decode cX4_init 22 = .ok (.iconst 3, 1) := by decide +kernel
theorem dX4_init_23 : decode cX4_init 23 = .ok (.iconst 0, 1) := by decide +kernel
theorem dX4_init_24 : decode cX4_init 24 = .ok (.iastore, 1) := by decide +kernel
theorem dX4_init_25 : decode cX4_init 25 = .ok (.dup, 1) := by decide +kernel
theorem dX4_init_26 : decode cX4_init 26 = .ok (.iconst 4, 1) := by decide +kernel
theorem dX4_init_27 : decode cX4_init 27 = .ok (.iconst 1, 1) := by decide +kernel
theorem dX4_init_28 : decode cX4_init 28 = .ok (.iastore, 1) := by decide +kernel
theorem dX4_init_29 : decode cX4_init 29 = .ok (.dup, 1) := by decide +kernel
theorem dX4_init_30 : decode cX4_init 30 = .ok (.iconst 5, 1) := by decide +kernel
theorem dX4_init_31 : decode cX4_init 31 = .ok (.iconst 0, 1) := by decide +kernel
theorem dX4_init_32 : decode cX4_init 32 = .ok (.iastore, 1) := by decide +kernel
theorem dX4_init_33 : decode cX4_init 33 = .ok (.dup, 1) := by decide +kernel
theorem dX4_init_34 : decode cX4_init 34 = .ok (.bipush 6, 2) := by decide +kernel
theorem dX4_init_36 : decode cX4_init 36 = .ok (.iconst 0, 1) := by decide +kernel
theorem dX4_init_37 : decode cX4_init 37 = .ok (.iastore, 1) := by decide +kernel
theorem dX4_init_38 : decode cX4_init 38 = .ok (.dup, 1) := by decide +kernel
theorem dX4_init_39 : decode cX4_init 39 = .ok (.bipush 7, 2) := by decide +kernel
theorem dX4_init_41 : decode cX4_init 41 = .ok (.iconst 0, 1) := by decide +kernel
theorem dX4_init_42 : decode cX4_init 42 = .ok (.iastore, 1) := by decide +kernel
theorem dX4_init_43 : decode cX4_init 43 = .ok (.putfield 7, 3) := by decide +kernel
theorem dX4_init_46 : decode cX4_init 46 = .ok (.aload_n 0, 1) := by decide +kernel
theorem dX4_init_47 : decode cX4_init 47 = .ok (.bipush 120, 2) := by decide +kernel
theorem dX4_init_49 : decode cX4_init 49 = .ok (.newarray .int, 2) := by decide +kernel
theorem dX4_init_51 : decode cX4_init 51 = .ok (.putfield 13, 3) := by decide +kernel
theorem dX4_init_54 : decode cX4_init 54 = .ok (.aload_n 0, 1) := by decide +kernel
theorem dX4_init_55 : decode cX4_init 55 = .ok (.bipush 120, 2) := by decide +kernel
theorem dX4_init_57 : decode cX4_init 57 = .ok (.newarray .int, 2) := by decide +kernel
theorem dX4_init_59 : decode cX4_init 59 = .ok (.putfield 16, 3) := by decide +kernel
theorem dX4_init_62 : decode cX4_init 62 = .ok (.aload_n 0, 1) := by decide +kernel
theorem dX4_init_63 : decode cX4_init 63 = .ok (.bipush 80, 2) := by decide +kernel
theorem dX4_init_65 : decode cX4_init 65 = .ok (.newarray .int, 2) := by decide +kernel
theorem dX4_init_67 : decode cX4_init 67 = .ok (.putfield 19, 3) := by decide +kernel
theorem dX4_init_70 : decode cX4_init 70 = .ok (.aload_n 0, 1) := by decide +kernel
theorem dX4_init_71 : decode cX4_init 71 = .ok (.bipush 8, 2) := by decide +kernel
theorem dX4_init_73 : decode cX4_init 73 = .ok (.newarray .int, 2) := by decide +kernel
theorem dX4_init_75 : decode cX4_init 75 = .ok (.putfield 22, 3) := by decide +kernel
theorem dX4_init_78 : decode cX4_init 78 = .ok (.aload_n 0, 1) := by decide +kernel
theorem dX4_init_79 : decode cX4_init 79 = .ok (.iconst 2, 1) := by decide +kernel
theorem dX4_init_80 : decode cX4_init 80 = .ok (.newarray .int, 2) := by decide +kernel
theorem dX4_init_82 : decode cX4_init 82 = .ok (.putfield 25, 3) := by decide +kernel
theorem dX4_init_85 : decode cX4_init 85 = .ok (.iconst 0, 1) := by decide +kernel
theorem dX4_init_86 : decode cX4_init 86 = .ok (.istore_n 1, 1) := by decide +kernel
theorem dX4_init_87 : decode cX4_init 87 = .ok (.iload_n 1, 1) := by decide +kernel
theorem dX4_init_88 : decode cX4_init 88 = .ok (.bipush 8, 2) := by decide +kernel
theorem dX4_init_90 : decode cX4_init 90 = .ok (.if_icmp .ge 17, 3) := by decide +kernel
theorem dX4_init_93 : decode cX4_init 93 = .ok (.aload_n 0, 1) := by decide +kernel
theorem dX4_init_94 : decode cX4_init 94 = .ok (.getfield 22, 3) := by decide +kernel
theorem dX4_init_97 : decode cX4_init 97 = .ok (.iload_n 1, 1) := by decide +kernel
theorem dX4_init_98 : decode cX4_init 98 = .ok (.bipush 30, 2) := by decide +kernel
theorem dX4_init_100 : decode cX4_init 100 = .ok (.iastore, 1) := by decide +kernel
theorem dX4_init_101 : decode cX4_init 101 = .ok (.iinc 1 1, 3) := by decide +kernel
theorem dX4_init_104 : decode cX4_init 104 = .ok (.goto (-17), 3) := by decide +kernel
theorem dX4_init_107 : decode cX4_init 107 = .ok (.return_, 1) := by decide +kernel
theorem dX4_thrown_0 : decode cX4_thrown 0 = .ok (.aload_n 0, 1) := by decide +kernel
theorem dX4_thrown_1 : decode cX4_thrown 1 = .ok (.getfield 28, 3) := by decide +kernel
theorem dX4_thrown_4 : decode cX4_thrown 4 = .ok (.ireturn, 1) := by decide +kernel
theorem dX4_fail_0 : decode cX4_fail 0 = .ok (.aload_n 0, 1) := by decide +kernel
theorem dX4_fail_1 : decode cX4_fail 1 = .ok (.iload_n 1, 1) := by decide +kernel
theorem dX4_fail_2 : decode cX4_fail 2 = .ok (.putfield 28, 3) := by decide +kernel
theorem dX4_fail_5 : decode cX4_fail 5 = .ok (.iconst 0, 1) := by decide +kernel
theorem dX4_fail_6 : decode cX4_fail 6 = .ok (.ireturn, 1) := by decide +kernel
theorem dX4_isIn_0 : decode cX4_isIn 0 = .ok (.iload_n 0, 1) := by decide +kernel
theorem dX4_isIn_1 : decode cX4_isIn 1 = .ok (.iload_n 1, 1) := by decide +kernel
theorem dX4_isIn_2 : decode cX4_isIn 2 = .ok (.if_icmp .lt 12, 3) := by decide +kernel
theorem dX4_isIn_5 : decode cX4_isIn 5 = .ok (.iload_n 0, 1) := by decide +kernel
theorem dX4_isIn_6 : decode cX4_isIn 6 = .ok (.iload_n 2, 1) := by decide +kernel
theorem dX4_isIn_7 : decode cX4_isIn 7 = .ok (.if_icmp .gt 7, 3) := by decide +kernel
theorem dX4_isIn_10 : decode cX4_isIn 10 = .ok (.iconst 1, 1) := by decide +kernel
theorem dX4_isIn_11 : decode cX4_isIn 11 = .ok (.goto 4, 3) := by decide +kernel
theorem dX4_isIn_14 : decode cX4_isIn 14 = .ok (.iconst 0, 1) := by decide +kernel
theorem dX4_isIn_15 : decode cX4_isIn 15 = .ok (.ireturn, 1) := by decide +kernel
set_option maxRecDepth 20000 in
theorem ggX4_isWeaver_X4_isIn : GoodIn wsX4_isWeaver wsX4_isIn := goodIn_r _ [4] (by decide +kernel) (by decide +kernel)
set_option maxRecDepth 20000 in
theorem gX4_isWeaver_X4_isIn : GoodIn wsX4_isWeaver (va_wsS RX4 32 yX4_isIn wsX4_isIn) := goodIn_app (goodIn_of _ (by decide +kernel)) ggX4_isWeaver_X4_isIn
theorem dX4_isWeaver_0 : decode cX4_isWeaver 0 = .ok (.iload_n 0, 1) := by decide +kernel
theorem dX4_isWeaver_1 : decode cX4_isWeaver 1 = .ok (.iconst 0, 1) := by decide +kernel
theorem dX4_isWeaver_2 : decode cX4_isWeaver 2 = .ok (.iconst 1, 1) := by decide +kernel
theorem dX4_isWeaver_3 : decode cX4_isWeaver 3 = .ok (.invokestatic 32, 3) := by decide +kernel
theorem dX4_isWeaver_6 : decode cX4_isWeaver 6 = .ok (.ireturn, 1) := by decide +kernel
set_option maxRecDepth 20000 in
theorem ggX4_isCell_X4_isIn : GoodIn wsX4_isCell wsX4_isIn := goodIn_r _ [4] (by decide +kernel) (by decide +kernel)
set_option maxRecDepth 20000 in
theorem gX4_isCell_X4_isIn : GoodIn wsX4_isCell (va_wsS RX4 32 yX4_isIn wsX4_isIn) := goodIn_app (goodIn_of _ (by decide +kernel)) ggX4_isCell_X4_isIn
theorem dX4_isCell_0 : decode cX4_isCell 0 = .ok (.iload_n 0, 1) := by decide +kernel
theorem dX4_isCell_1 : decode cX4_isCell 1 = .ok (.iconst 0, 1) := by decide +kernel
theorem dX4_isCell_2 : decode cX4_isCell 2 = .ok (.bipush 11, 2) := by decide +kernel
theorem dX4_isCell_4 : decode cX4_isCell 4 = .ok (.invokestatic 32, 3) := by decide +kernel
theorem dX4_isCell_7 : decode cX4_isCell 7 = .ok (.ifCond .eq 17, 3) := by decide +kernel
theorem dX4_isCell_10 : decode cX4_isCell 10 = .ok (.iload_n 1, 1) := by decide +kernel
theorem dX4_isCell_11 : decode cX4_isCell 11 = .ok (.iconst 0, 1) := by decide +kernel
theorem dX4_isCell_12 : decode cX4_isCell 12 = .ok (.bipush 9, 2) := by decide +kernel
theorem dX4_isCell_14 : decode cX4_isCell 14 = .ok (.invokestatic 32, 3) := by decide +kernel
theorem dX4_isCell_17 : decode cX4_isCell 17 = .ok (.ifCond .eq 7, 3) := by decide +kernel
theorem dX4_isCell_20 : decode cX4_isCell 20 = .ok (.iconst 1, 1) := by decide +kernel
theorem dX4_isCell_21 : decode cX4_isCell 21 = .ok (.goto 4, 3) := by decide +kernel
theorem dX4_isCell_24 : decode cX4_isCell 24 = .ok (.iconst 0, 1) := by decide +kernel
theorem dX4_isCell_25 : decode cX4_isCell 25 = .ok (.ireturn, 1) := by decide +kernel
set_option maxRecDepth 20000 in
theorem ggX4_isColour_X4_isIn : GoodIn wsX4_isColour wsX4_isIn := goodIn_r _ [4] (by decide +kernel) (by decide +kernel)
set_option maxRecDepth 20000 in
theorem gX4_isColour_X4_isIn : GoodIn wsX4_isColour (va_wsS RX4 32 yX4_isIn wsX4_isIn) := goodIn_app (goodIn_of _ (by decide +kernel)) ggX4_isColour_X4_isIn
theorem dX4_isColour_0 : decode cX4_isColour 0 = .ok (.iload_n 0, 1) := by decide +kernel
theorem dX4_isColour_1 : decode cX4_isColour 1 = .ok (.iconst 0, 1) := by decide +kernel
theorem dX4_isColour_2 : decode cX4_isColour 2 = .ok (.bipush 7, 2) := by decide +kernel
theorem dX4_isColour_4 : decode cX4_isColour 4 = .ok (.invokestatic 32, 3) := by decide +kernel
theorem dX4_isColour_7 : decode cX4_isColour 7 = .ok (.ireturn, 1) := by decide +kernel
theorem dX4_pe_0 : decode cX4_pe 0 = .ok (.aload_n 0, 1) := by decide +kernel
theorem dX4_pe_1 : decode cX4_pe 1 = .ok (.getfield 7, 3) := by decide +kernel
theorem dX4_pe_4 : decode cX4_pe 4 = .ok (.iconst 4, 1) := by decide +kernel
theorem dX4_pe_5 : decode cX4_pe 5 = .ok (.iload_n 1, 1) := by decide +kernel
theorem dX4_pe_6 : decode cX4_pe 6 = .ok (.imul, 1) := by decide +kernel
theorem dX4_pe_7 : decode cX4_pe 7 = .ok (.iload_n 2, 1) := by decide +kernel
theorem dX4_pe_8 : decode cX4_pe 8 = .ok (.iadd, 1) := by decide +kernel
theorem dX4_pe_9 : decode cX4_pe 9 = .ok (.iaload, 1) := by decide +kernel
theorem dX4_pe_10 : decode cX4_pe 10 = .ok (.ireturn, 1) := by decide +kernel
theorem dX4_put_0 : decode cX4_put 0 = .ok (.aload_n 0, 1) := by decide +kernel
theorem dX4_put_1 : decode cX4_put 1 = .ok (.getfield 7, 3) := by decide +kernel
theorem dX4_put_4 : decode cX4_put 4 = .ok (.iconst 4, 1) := by decide +kernel
theorem dX4_put_5 : decode cX4_put 5 = .ok (.iload_n 1, 1) := by decide +kernel
theorem dX4_put_6 : decode cX4_put 6 = .ok (.imul, 1) := by decide +kernel
theorem dX4_put_7 : decode cX4_put 7 = .ok (.iload_n 2, 1) := by decide +kernel
theorem dX4_put_8 : decode cX4_put 8 = .ok (.iadd, 1) := by decide +kernel
theorem dX4_put_9 : decode cX4_put 9 = .ok (.iload_n 3, 1) := by decide +kernel
theorem dX4_put_10 : decode cX4_put 10 = .ok (.iastore, 1) := by decide +kernel
theorem dX4_put_11 : decode cX4_put 11 = .ok (.return_, 1) := by decide +kernel
theorem dX4_at_0 : decode cX4_at 0 = .ok (.iload_n 0, 1) := by decide +kernel
theorem dX4_at_1 : decode cX4_at 1 = .ok (.bipush 6, 2) := by decide +kernel
theorem dX4_at_3 : decode cX4_at 3 = .ok (.if_icmp .ge 12, 3) := by decide +kernel
theorem dX4_at_6 : decode cX4_at 6 = .ok (.bipush 6, 2) := by decide +kernel
theorem dX4_at_8 : decode cX4_at 8 = .ok (.iload_n 1, 1) := by decide +kernel
theorem dX4_at_9 : decode cX4_at 9 = .ok (.imul, 1) := by decide +kernel
theorem dX4_at_10 : decode cX4_at 10 = .ok (.iload_n 0, 1) := by decide +kernel
theorem dX4_at_11 : decode cX4_at 11 = .ok (.iadd, 1) := by decide +kernel
theorem dX4_at_12 : decode cX4_at 12 = .ok (.goto 17, 3) := by decide +kernel
theorem dX4_at_15 : decode cX4_at 15 = .ok (.bipush 60, 2) := by decide +kernel
theorem dX4_at_17 : decode cX4_at 17 = .ok (.bipush 6, 2) := by decide +kernel
theorem dX4_at_19 : decode cX4_at 19 = .ok (.iload_n 1, 1) := by decide +kernel
theorem dX4_at_20 : decode cX4_at 20 = .ok (.imul, 1) := by decide +kernel
theorem dX4_at_21 : decode cX4_at 21 = .ok (.iadd, 1) := by decide +kernel
theorem dX4_at_22 : decode cX4_at 22 = .ok (.bipush 12, 2) := by decide +kernel
theorem dX4_at_24 : decode cX4_at 24 = .ok (.iadd, 1) := by decide +kernel
theorem dX4_at_25 : decode cX4_at 25 = .ok (.iconst 1, 1) := by decide +kernel
theorem dX4_at_26 : decode cX4_at 26 = .ok (.isub, 1) := by decide +kernel
theorem dX4_at_27 : decode cX4_at 27 = .ok (.iload_n 0, 1) := by decide +kernel
theorem dX4_at_28 : decode cX4_at 28 = .ok (.isub, 1) := by decide +kernel
theorem dX4_at_29 : decode cX4_at 29 = .ok (.ireturn, 1) := by decide +kernel
theorem dX4_xOf_0 : decode cX4_xOf 0 = .ok (.iload_n 0, 1) := by decide +kernel
theorem dX4_xOf_1 : decode cX4_xOf 1 = .ok (.ifCond .ne 10, 3) := by decide +kernel
theorem dX4_xOf_4 : decode cX4_xOf 4 = .ok (.iload_n 1, 1) := by decide +kernel
theorem dX4_xOf_5 : decode cX4_xOf 5 = .ok (.bipush 6, 2) := by decide +kernel
theorem dX4_xOf_7 : decode cX4_xOf 7 = .ok (.irem, 1) := by decide +kernel
theorem dX4_xOf_8 : decode cX4_xOf 8 = .ok (.goto 10, 3) := by decide +kernel
theorem dX4_xOf_11 : decode cX4_xOf 11 = .ok (.bipush 11, 2) := by decide +kernel
theorem dX4_xOf_13 : decode cX4_xOf 13 = .ok (.iload_n 1, 1) := by decide +kernel
theorem dX4_xOf_14 : decode cX4_xOf 14 = .ok (.bipush 6, 2) := by decide +kernel
theorem dX4_xOf_16 : decode cX4_xOf 16 = .ok (.irem, 1) := by decide +kernel
theorem dX4_xOf_17 : decode cX4_xOf 17 = .ok (.isub, 1) := by decide +kernel
theorem dX4_xOf_18 : decode cX4_xOf 18 = .ok (.ireturn, 1) := by decide +kernel
set_option maxRecDepth 20000 in
theorem ggX4_colour_X4_at : GoodIn wsX4_colour wsX4_at := goodIn_r _ [5] (by decide +kernel) (by decide +kernel)
set_option maxRecDepth 20000 in
theorem gX4_colour_X4_at : GoodIn wsX4_colour (va_wsS RX4 36 yX4_at wsX4_at) := goodIn_app (goodIn_of _ (by decide +kernel)) ggX4_colour_X4_at
set_option maxRecDepth 20000 in
theorem ggX4_colour_X4_pe : GoodIn wsX4_colour wsX4_pe := goodIn_r _ [9, 10, 11, 12, 13, 14, 15, 16, 17] (by decide +kernel) (by decide +kernel)
set_option maxRecDepth 20000 in
theorem gX4_colour_X4_pe : GoodIn wsX4_colour (wsV RX4 40 RX4 yX4_pe wsX4_pe) := goodIn_app (goodIn_of _ (by decide +kernel)) ggX4_colour_X4_pe
theorem dX4_colour_0 : decode cX4_colour 0 = .ok (.iload_n 1, 1) := by decide +kernel
theorem dX4_colour_1 : decode cX4_colour 1 = .ok (.bipush 6, 2) := by decide +kernel
theorem dX4_colour_3 : decode cX4_colour 3 = .ok (.idiv, 1) := by decide +kernel
theorem dX4_colour_4 : decode cX4_colour 4 = .ok (.istore_n 3, 1) := by decide +kernel
theorem dX4_colour_5 : decode cX4_colour 5 = .ok (.iload_n 1, 1) := by decide +kernel
theorem dX4_colour_6 : decode cX4_colour 6 = .ok (.iload_n 2, 1) := by decide +kernel
theorem dX4_colour_7 : decode cX4_colour 7 = .ok (.invokestatic 36, 3) := by decide +kernel
theorem dX4_colour_10 : decode cX4_colour 10 = .ok (.bipush 60, 2) := by decide +kernel
theorem dX4_colour_12 : decode cX4_colour 12 = .ok (.iload_n 3, 1) := by decide +kernel
theorem dX4_colour_13 : decode cX4_colour 13 = .ok (.imul, 1) := by decide +kernel
theorem dX4_colour_14 : decode cX4_colour 14 = .ok (.isub, 1) := by decide +kernel
theorem dX4_colour_15 : decode cX4_colour 15 = .ok (.aload_n 0, 1) := by decide +kernel
theorem dX4_colour_16 : decode cX4_colour 16 = .ok (.iload_n 3, 1) := by decide +kernel
theorem dX4_colour_17 : decode cX4_colour 17 = .ok (.iconst 1, 1) := by decide +kernel
theorem dX4_colour_18 : decode cX4_colour 18 = .ok (.invokevirtual 40, 3) := by decide +kernel
theorem dX4_colour_21 : decode cX4_colour 21 = .ok (.if_icmp .ge 16, 3) := by decide +kernel
theorem dX4_colour_24 : decode cX4_colour 24 = .ok (.aload_n 0, 1) := by decide +kernel
theorem dX4_colour_25 : decode cX4_colour 25 = .ok (.getfield 13, 3) := by decide +kernel
theorem dX4_colour_28 : decode cX4_colour 28 = .ok (.iload_n 1, 1) := by decide +kernel
theorem dX4_colour_29 : decode cX4_colour 29 = .ok (.iload_n 2, 1) := by decide +kernel
theorem dX4_colour_30 : decode cX4_colour 30 = .ok (.invokestatic 36, 3) := by decide +kernel
theorem dX4_colour_33 : decode cX4_colour 33 = .ok (.iaload, 1) := by decide +kernel
theorem dX4_colour_34 : decode cX4_colour 34 = .ok (.goto 4, 3) := by decide +kernel
theorem dX4_colour_37 : decode cX4_colour 37 = .ok (.iconst (-1), 1) := by decide +kernel
theorem dX4_colour_38 : decode cX4_colour 38 = .ok (.ireturn, 1) := by decide +kernel
set_option maxRecDepth 20000 in
theorem ggX4_plan_X4_isCell : GoodIn wsX4_plan wsX4_isCell := goodIn_r _ [6, 7, 8, 5, 9] (by decide +kernel) (by decide +kernel)
set_option maxRecDepth 20000 in
theorem gX4_plan_X4_isCell : GoodIn wsX4_plan (va_wsS RX4 43 yX4_isCell wsX4_isCell) := goodIn_app (goodIn_of _ (by decide +kernel)) ggX4_plan_X4_isCell
set_option maxRecDepth 20000 in
theorem ggX4_plan_X4_fail : GoodIn wsX4_plan wsX4_fail := goodIn_r _ [13, 1, 20, 21, 22, 23, 24, 25, 26] (by decide +kernel) (by decide +kernel)
set_option maxRecDepth 20000 in
theorem gX4_plan_X4_fail : GoodIn wsX4_plan (wsV RX4 47 RX4 yX4_fail wsX4_fail) := goodIn_app (goodIn_of _ (by decide +kernel)) ggX4_plan_X4_fail
set_option maxRecDepth 20000 in
theorem ggX4_plan_X4_isIn : GoodIn wsX4_plan wsX4_isIn := goodIn_r _ [9] (by decide +kernel) (by decide +kernel)
set_option maxRecDepth 20000 in
theorem gX4_plan_X4_isIn : GoodIn wsX4_plan (va_wsS RX4 32 yX4_isIn wsX4_isIn) := goodIn_app (goodIn_of _ (by decide +kernel)) ggX4_plan_X4_isIn
set_option maxRecDepth 20000 in
theorem ggX4_plan_X4_isColour : GoodIn wsX4_plan wsX4_isColour := goodIn_r _ [16, 7, 8, 5, 9] (by decide +kernel) (by decide +kernel)
set_option maxRecDepth 20000 in
theorem gX4_plan_X4_isColour : GoodIn wsX4_plan (va_wsS RX4 51 yX4_isColour wsX4_isColour) := goodIn_app (goodIn_of _ (by decide +kernel)) ggX4_plan_X4_isColour
set_option maxRecDepth 20000 in
theorem ggX4_plan_X4_at : GoodIn wsX4_plan wsX4_at := goodIn_r _ [19] (by decide +kernel) (by decide +kernel)
set_option maxRecDepth 20000 in
theorem gX4_plan_X4_at : GoodIn wsX4_plan (va_wsS RX4 36 yX4_at wsX4_at) := goodIn_app (goodIn_of _ (by decide +kernel)) ggX4_plan_X4_at
theorem dX4_plan_0 : decode cX4_plan 0 = .ok (.aload_n 0, 1) := by decide +kernel
theorem dX4_plan_1 : decode cX4_plan 1 = .ok (.iconst 0, 1) := by decide +kernel
theorem dX4_plan_2 : decode cX4_plan 2 = .ok (.putfield 28, 3) := by decide +kernel
theorem dX4_plan_5 : decode cX4_plan 5 = .ok (.iload_n 1, 1) := by decide +kernel
theorem dX4_plan_6 : decode cX4_plan 6 = .ok (.iload_n 2, 1) := by decide +kernel
theorem dX4_plan_7 : decode cX4_plan 7 = .ok (.invokestatic 43, 3) := by decide +kernel
theorem dX4_plan_10 : decode cX4_plan 10 = .ok (.ifCond .ne 9, 3) := by decide +kernel
theorem dX4_plan_13 : decode cX4_plan 13 = .ok (.aload_n 0, 1) := by decide +kernel
theorem dX4_plan_14 : decode cX4_plan 14 = .ok (.iconst 1, 1) := by decide +kernel
theorem dX4_plan_15 : decode cX4_plan 15 = .ok (.invokevirtual 47, 3) := by decide +kernel
theorem dX4_plan_18 : decode cX4_plan 18 = .ok (.ireturn, 1) := by decide +kernel
theorem dX4_plan_19 : decode cX4_plan 19 = .ok (.iload_n 3, 1) := by decide +kernel
theorem dX4_plan_20 : decode cX4_plan 20 = .ok (.iconst 1, 1) := by decide +kernel
theorem dX4_plan_21 : decode cX4_plan 21 = .ok (.bipush 12, 2) := by decide +kernel
theorem dX4_plan_23 : decode cX4_plan 23 = .ok (.iload_n 1, 1) := by decide +kernel
theorem dX4_plan_24 : decode cX4_plan 24 = .ok (.isub, 1) := by decide +kernel
theorem dX4_plan_25 : decode cX4_plan 25 = .ok (.invokestatic 32, 3) := by decide +kernel
theorem dX4_plan_28 : decode cX4_plan 28 = .ok (.ifCond .eq 24, 3) := by decide +kernel
theorem dX4_plan_31 : decode cX4_plan 31 = .ok (.iload 4, 2) := by decide +kernel
theorem dX4_plan_33 : decode cX4_plan 33 = .ok (.iconst 1, 1) := by decide +kernel
theorem dX4_plan_34 : decode cX4_plan 34 = .ok (.bipush 10, 2) := by decide +kernel
theorem dX4_plan_36 : decode cX4_plan 36 = .ok (.iload_n 2, 1) := by decide +kernel
theorem dX4_plan_37 : decode cX4_plan 37 = .ok (.isub, 1) := by decide +kernel
theorem dX4_plan_38 : decode cX4_plan 38 = .ok (.invokestatic 32, 3) := by decide +kernel
theorem dX4_plan_41 : decode cX4_plan 41 = .ok (.ifCond .eq 11, 3) := by decide +kernel
theorem dX4_plan_44 : decode cX4_plan 44 = .ok (.iload 5, 2) := by decide +kernel
theorem dX4_plan_46 : decode cX4_plan 46 = .ok (.invokestatic 51, 3) := by decide +kernel
theorem dX4_plan_49 : decode cX4_plan 49 = .ok (.ifCond .ne 9, 3) := by decide +kernel
theorem dX4_plan_52 : decode cX4_plan 52 = .ok (.aload_n 0, 1) := by decide +kernel
theorem dX4_plan_53 : decode cX4_plan 53 = .ok (.iconst 2, 1) := by decide +kernel
theorem dX4_plan_54 : decode cX4_plan 54 = .ok (.invokevirtual 47, 3) := by decide +kernel
theorem dX4_plan_57 : decode cX4_plan 57 = .ok (.ireturn, 1) := by decide +kernel
theorem dX4_plan_58 : decode cX4_plan 58 = .ok (.iconst 0, 1) := by decide +kernel
theorem dX4_plan_59 : decode cX4_plan 59 = .ok (.istore 6, 2) := by decide +kernel
theorem dX4_plan_61 : decode cX4_plan 61 = .ok (.iload_n 1, 1) := by decide +kernel
theorem dX4_plan_62 : decode cX4_plan 62 = .ok (.istore 7, 2) := by decide +kernel
theorem dX4_plan_64 : decode cX4_plan 64 = .ok (.iload 7, 2) := by decide +kernel
theorem dX4_plan_66 : decode cX4_plan 66 = .ok (.iload_n 1, 1) := by decide +kernel
theorem dX4_plan_67 : decode cX4_plan 67 = .ok (.iload_n 3, 1) := by decide +kernel
theorem dX4_plan_68 : decode cX4_plan 68 = .ok (.iadd, 1) := by decide +kernel
theorem dX4_plan_69 : decode cX4_plan 69 = .ok (.if_icmp .ge 68, 3) := by decide +kernel
theorem dX4_plan_72 : decode cX4_plan 72 = .ok (.iload_n 2, 1) := by decide +kernel
theorem dX4_plan_73 : decode cX4_plan 73 = .ok (.istore 8, 2) := by decide +kernel
theorem dX4_plan_75 : decode cX4_plan 75 = .ok (.iload 8, 2) := by decide +kernel
theorem dX4_plan_77 : decode cX4_plan 77 = .ok (.iload_n 2, 1) := by decide +kernel
theorem dX4_plan_78 : decode cX4_plan 78 = .ok (.iload 4, 2) := by decide +kernel
theorem dX4_plan_80 : decode cX4_plan 80 = .ok (.iadd, 1) := by decide +kernel
theorem dX4_plan_81 : decode cX4_plan 81 = .ok (.if_icmp .ge 50, 3) := by decide +kernel
theorem dX4_plan_84 : decode cX4_plan 84 = .ok (.iload 6, 2) := by decide +kernel
theorem dX4_plan_86 : decode cX4_plan 86 = .ok (.aload_n 0, 1) := by decide +kernel
theorem dX4_plan_87 : decode cX4_plan 87 = .ok (.getfield 16, 3) := by decide +kernel
theorem dX4_plan_90 : decode cX4_plan 90 = .ok (.iload 7, 2) := by decide +kernel
theorem dX4_plan_92 : decode cX4_plan 92 = .ok (.iload 8, 2) := by decide +kernel
theorem dX4_plan_94 : decode cX4_plan 94 = .ok (.invokestatic 36, 3) := by decide +kernel
theorem dX4_plan_97 : decode cX4_plan 97 = .ok (.iaload, 1) := by decide +kernel
theorem dX4_plan_98 : decode cX4_plan 98 = .ok (.iload 5, 2) := by decide +kernel
theorem dX4_plan_100 : decode cX4_plan 100 = .ok (.if_icmp .ne 7, 3) := by decide +kernel
theorem dX4_plan_103 : decode cX4_plan 103 = .ok (.iconst 0, 1) := by decide +kernel
theorem dX4_plan_104 : decode cX4_plan 104 = .ok (.goto 4, 3) := by decide +kernel
theorem dX4_plan_107 : decode cX4_plan 107 = .ok (.iconst 1, 1) := by decide +kernel
theorem dX4_plan_108 : decode cX4_plan 108 = .ok (.iadd, 1) := by decide +kernel
theorem dX4_plan_109 : decode cX4_plan 109 = .ok (.istore 6, 2) := by decide +kernel
theorem dX4_plan_111 : decode cX4_plan 111 = .ok (.aload_n 0, 1) := by decide +kernel
theorem dX4_plan_112 : decode cX4_plan 112 = .ok (.getfield 16, 3) := by decide +kernel
theorem dX4_plan_115 : decode cX4_plan 115 = .ok (.iload 7, 2) := by decide +kernel
theorem dX4_plan_117 : decode cX4_plan 117 = .ok (.iload 8, 2) := by decide +kernel
theorem dX4_plan_119 : decode cX4_plan 119 = .ok (.invokestatic 36, 3) := by decide +kernel
theorem dX4_plan_122 : decode cX4_plan 122 = .ok (.iload 5, 2) := by decide +kernel
theorem dX4_plan_124 : decode cX4_plan 124 = .ok (.iastore, 1) := by decide +kernel
theorem dX4_plan_125 : decode cX4_plan 125 = .ok (.iinc 8 1, 3) := by decide +kernel
theorem dX4_plan_128 : decode cX4_plan 128 = .ok (.goto (-53), 3) := by decide +kernel
theorem dX4_plan_131 : decode cX4_plan 131 = .ok (.iinc 7 1, 3) := by decide +kernel
theorem dX4_plan_134 : decode cX4_plan 134 = .ok (.goto (-70), 3) := by decide +kernel
theorem dX4_plan_137 : decode cX4_plan 137 = .ok (.iload 6, 2) := by decide +kernel
theorem dX4_plan_139 : decode cX4_plan 139 = .ok (.ireturn, 1) := by decide +kernel
set_option maxRecDepth 20000 in
theorem ggX4_bring_X4_isColour : GoodIn wsX4_bring wsX4_isColour := goodIn_r _ [10, 11, 12, 9, 13] (by decide +kernel) (by decide +kernel)
set_option maxRecDepth 20000 in
theorem gX4_bring_X4_isColour : GoodIn wsX4_bring (va_wsS RX4 51 yX4_isColour wsX4_isColour) := goodIn_app (goodIn_of _ (by decide +kernel)) ggX4_bring_X4_isColour
set_option maxRecDepth 20000 in
theorem ggX4_bring_X4_isIn : GoodIn wsX4_bring wsX4_isIn := goodIn_r _ [13] (by decide +kernel) (by decide +kernel)
set_option maxRecDepth 20000 in
theorem gX4_bring_X4_isIn : GoodIn wsX4_bring (va_wsS RX4 32 yX4_isIn wsX4_isIn) := goodIn_app (goodIn_of _ (by decide +kernel)) ggX4_bring_X4_isIn
set_option maxRecDepth 20000 in
theorem ggX4_bring_X4_fail : GoodIn wsX4_bring wsX4_fail := goodIn_r _ [17, 1, 18, 19, 20, 21, 22, 23, 24] (by decide +kernel) (by decide +kernel)
set_option maxRecDepth 20000 in
theorem gX4_bring_X4_fail : GoodIn wsX4_bring (wsV RX4 47 RX4 yX4_fail wsX4_fail) := goodIn_app (goodIn_of _ (by decide +kernel)) ggX4_bring_X4_fail
theorem dX4_bring_0 : decode cX4_bring 0 = .ok (.aload_n 0, 1) := by decide +kernel
theorem dX4_bring_1 : decode cX4_bring 1 = .ok (.iconst 0, 1) := by decide +kernel
theorem dX4_bring_2 : decode cX4_bring 2 = .ok (.putfield 28, 3) := by decide +kernel
theorem dX4_bring_5 : decode cX4_bring 5 = .ok (.iload_n 1, 1) := by decide +kernel
theorem dX4_bring_6 : decode cX4_bring 6 = .ok (.invokestatic 51, 3) := by decide +kernel
theorem dX4_bring_9 : decode cX4_bring 9 = .ok (.ifCond .eq 14, 3) := by decide +kernel
theorem dX4_bring_12 : decode cX4_bring 12 = .ok (.iload_n 2, 1) := by decide +kernel
theorem dX4_bring_13 : decode cX4_bring 13 = .ok (.iconst 1, 1) := by decide +kernel
theorem dX4_bring_14 : decode cX4_bring 14 = .ok (.sipush 200, 3) := by decide +kernel
theorem dX4_bring_17 : decode cX4_bring 17 = .ok (.invokestatic 32, 3) := by decide +kernel
theorem dX4_bring_20 : decode cX4_bring 20 = .ok (.ifCond .ne 9, 3) := by decide +kernel
theorem dX4_bring_23 : decode cX4_bring 23 = .ok (.aload_n 0, 1) := by decide +kernel
theorem dX4_bring_24 : decode cX4_bring 24 = .ok (.iconst 1, 1) := by decide +kernel
theorem dX4_bring_25 : decode cX4_bring 25 = .ok (.invokevirtual 47, 3) := by decide +kernel
theorem dX4_bring_28 : decode cX4_bring 28 = .ok (.ireturn, 1) := by decide +kernel
theorem dX4_bring_29 : decode cX4_bring 29 = .ok (.aload_n 0, 1) := by decide +kernel
theorem dX4_bring_30 : decode cX4_bring 30 = .ok (.getfield 22, 3) := by decide +kernel
theorem dX4_bring_33 : decode cX4_bring 33 = .ok (.iload_n 1, 1) := by decide +kernel
theorem dX4_bring_34 : decode cX4_bring 34 = .ok (.sipush 200, 3) := by decide +kernel
theorem dX4_bring_37 : decode cX4_bring 37 = .ok (.aload_n 0, 1) := by decide +kernel
theorem dX4_bring_38 : decode cX4_bring 38 = .ok (.getfield 22, 3) := by decide +kernel
theorem dX4_bring_41 : decode cX4_bring 41 = .ok (.iload_n 1, 1) := by decide +kernel
theorem dX4_bring_42 : decode cX4_bring 42 = .ok (.iaload, 1) := by decide +kernel
theorem dX4_bring_43 : decode cX4_bring 43 = .ok (.iload_n 2, 1) := by decide +kernel
theorem dX4_bring_44 : decode cX4_bring 44 = .ok (.iadd, 1) := by decide +kernel
theorem dX4_bring_45 : decode cX4_bring 45 = .ok (.invokestatic 55, 3) := by decide +kernel
theorem dX4_bring_48 : decode cX4_bring 48 = .ok (.iastore, 1) := by decide +kernel
theorem dX4_bring_49 : decode cX4_bring 49 = .ok (.aload_n 0, 1) := by decide +kernel
theorem dX4_bring_50 : decode cX4_bring 50 = .ok (.getfield 22, 3) := by decide +kernel
theorem dX4_bring_53 : decode cX4_bring 53 = .ok (.iload_n 1, 1) := by decide +kernel
theorem dX4_bring_54 : decode cX4_bring 54 = .ok (.iaload, 1) := by decide +kernel
theorem dX4_bring_55 : decode cX4_bring 55 = .ok (.ireturn, 1) := by decide +kernel
set_option maxRecDepth 20000 in
theorem ggX4_setSpeed_X4_isWeaver : GoodIn wsX4_setSpeed wsX4_isWeaver := goodIn_r _ [5, 6, 7, 4, 8] (by decide +kernel) (by decide +kernel)
set_option maxRecDepth 20000 in
theorem gX4_setSpeed_X4_isWeaver : GoodIn wsX4_setSpeed (va_wsS RX4 60 yX4_isWeaver wsX4_isWeaver) := goodIn_app (goodIn_of _ (by decide +kernel)) ggX4_setSpeed_X4_isWeaver
set_option maxRecDepth 20000 in
theorem ggX4_setSpeed_X4_fail : GoodIn wsX4_setSpeed wsX4_fail := goodIn_r _ [12, 1, 22, 23, 24, 25, 26, 27, 28] (by decide +kernel) (by decide +kernel)
set_option maxRecDepth 20000 in
theorem gX4_setSpeed_X4_fail : GoodIn wsX4_setSpeed (wsV RX4 47 RX4 yX4_fail wsX4_fail) := goodIn_app (goodIn_of _ (by decide +kernel)) ggX4_setSpeed_X4_fail
set_option maxRecDepth 20000 in
theorem ggX4_setSpeed_X4_isIn : GoodIn wsX4_setSpeed wsX4_isIn := goodIn_r _ [8] (by decide +kernel) (by decide +kernel)
set_option maxRecDepth 20000 in
theorem gX4_setSpeed_X4_isIn : GoodIn wsX4_setSpeed (va_wsS RX4 32 yX4_isIn wsX4_isIn) := goodIn_app (goodIn_of _ (by decide +kernel)) ggX4_setSpeed_X4_isIn
set_option maxRecDepth 20000 in
theorem ggX4_setSpeed_X4_pe : GoodIn wsX4_setSpeed wsX4_pe := goodIn_r _ [16, 17, 22, 23, 24, 25, 26, 27, 28] (by decide +kernel) (by decide +kernel)
set_option maxRecDepth 20000 in
theorem gX4_setSpeed_X4_pe : GoodIn wsX4_setSpeed (wsV RX4 40 RX4 yX4_pe wsX4_pe) := goodIn_app (goodIn_of _ (by decide +kernel)) ggX4_setSpeed_X4_pe
set_option maxRecDepth 20000 in
theorem ggX4_setSpeed_X4_put : GoodIn wsX4_setSpeed wsX4_put := goodIn_r _ [21, 17, 22, 23, 24, 25, 26, 27, 28] (by decide +kernel) (by decide +kernel)
set_option maxRecDepth 20000 in
theorem gX4_setSpeed_X4_put : GoodIn wsX4_setSpeed (wsV RX4 63 RX4 yX4_put wsX4_put) := goodIn_app (goodIn_of _ (by decide +kernel)) ggX4_setSpeed_X4_put
theorem dX4_setSpeed_0 : decode cX4_setSpeed 0 = .ok (.aload_n 0, 1) := by decide +kernel
theorem dX4_setSpeed_1 : decode cX4_setSpeed 1 = .ok (.iconst 0, 1) := by decide +kernel
theorem dX4_setSpeed_2 : decode cX4_setSpeed 2 = .ok (.putfield 28, 3) := by decide +kernel
theorem dX4_setSpeed_5 : decode cX4_setSpeed 5 = .ok (.iload_n 1, 1) := by decide +kernel
theorem dX4_setSpeed_6 : decode cX4_setSpeed 6 = .ok (.invokestatic 60, 3) := by decide +kernel
theorem dX4_setSpeed_9 : decode cX4_setSpeed 9 = .ok (.ifCond .ne 9, 3) := by decide +kernel
theorem dX4_setSpeed_12 : decode cX4_setSpeed 12 = .ok (.aload_n 0, 1) := by decide +kernel
theorem dX4_setSpeed_13 : decode cX4_setSpeed 13 = .ok (.iconst 1, 1) := by decide +kernel
theorem dX4_setSpeed_14 : decode cX4_setSpeed 14 = .ok (.invokevirtual 47, 3) := by decide +kernel
theorem dX4_setSpeed_17 : decode cX4_setSpeed 17 = .ok (.ireturn, 1) := by decide +kernel
theorem dX4_setSpeed_18 : decode cX4_setSpeed 18 = .ok (.iload_n 2, 1) := by decide +kernel
theorem dX4_setSpeed_19 : decode cX4_setSpeed 19 = .ok (.iconst 1, 1) := by decide +kernel
theorem dX4_setSpeed_20 : decode cX4_setSpeed 20 = .ok (.bipush 6, 2) := by decide +kernel
theorem dX4_setSpeed_22 : decode cX4_setSpeed 22 = .ok (.invokestatic 32, 3) := by decide +kernel
theorem dX4_setSpeed_25 : decode cX4_setSpeed 25 = .ok (.ifCond .ne 9, 3) := by decide +kernel
theorem dX4_setSpeed_28 : decode cX4_setSpeed 28 = .ok (.aload_n 0, 1) := by decide +kernel
theorem dX4_setSpeed_29 : decode cX4_setSpeed 29 = .ok (.iconst 2, 1) := by decide +kernel
theorem dX4_setSpeed_30 : decode cX4_setSpeed 30 = .ok (.invokevirtual 47, 3) := by decide +kernel
theorem dX4_setSpeed_33 : decode cX4_setSpeed 33 = .ok (.ireturn, 1) := by decide +kernel
theorem dX4_setSpeed_34 : decode cX4_setSpeed 34 = .ok (.aload_n 0, 1) := by decide +kernel
theorem dX4_setSpeed_35 : decode cX4_setSpeed 35 = .ok (.iload_n 1, 1) := by decide +kernel
theorem dX4_setSpeed_36 : decode cX4_setSpeed 36 = .ok (.iconst 0, 1) := by decide +kernel
theorem dX4_setSpeed_37 : decode cX4_setSpeed 37 = .ok (.invokevirtual 40, 3) := by decide +kernel
theorem dX4_setSpeed_40 : decode cX4_setSpeed 40 = .ok (.istore_n 3, 1) := by decide +kernel
theorem dX4_setSpeed_41 : decode cX4_setSpeed 41 = .ok (.aload_n 0, 1) := by decide +kernel
theorem dX4_setSpeed_42 : decode cX4_setSpeed 42 = .ok (.iload_n 1, 1) := by decide +kernel
theorem dX4_setSpeed_43 : decode cX4_setSpeed 43 = .ok (.iconst 0, 1) := by decide +kernel
theorem dX4_setSpeed_44 : decode cX4_setSpeed 44 = .ok (.iload_n 2, 1) := by decide +kernel
theorem dX4_setSpeed_45 : decode cX4_setSpeed 45 = .ok (.invokevirtual 63, 3) := by decide +kernel
theorem dX4_setSpeed_48 : decode cX4_setSpeed 48 = .ok (.iload_n 3, 1) := by decide +kernel
theorem dX4_setSpeed_49 : decode cX4_setSpeed 49 = .ok (.ireturn, 1) := by decide +kernel
theorem dX4_runAt_0 : decode cX4_runAt 0 = .ok (.iconst 2, 1) := by decide +kernel
theorem dX4_runAt_1 : decode cX4_runAt 1 = .ok (.bipush 20, 2) := by decide +kernel
theorem dX4_runAt_3 : decode cX4_runAt 3 = .ok (.iload_n 1, 1) := by decide +kernel
theorem dX4_runAt_4 : decode cX4_runAt 4 = .ok (.imul, 1) := by decide +kernel
theorem dX4_runAt_5 : decode cX4_runAt 5 = .ok (.iload_n 2, 1) := by decide +kernel
theorem dX4_runAt_6 : decode cX4_runAt 6 = .ok (.iadd, 1) := by decide +kernel
theorem dX4_runAt_7 : decode cX4_runAt 7 = .ok (.imul, 1) := by decide +kernel
theorem dX4_runAt_8 : decode cX4_runAt 8 = .ok (.ireturn, 1) := by decide +kernel
set_option maxRecDepth 20000 in
theorem ggX4_tell_X4_isWeaver : GoodIn wsX4_tell wsX4_isWeaver := goodIn_r _ [6, 7, 8, 5, 9] (by decide +kernel) (by decide +kernel)
set_option maxRecDepth 20000 in
theorem gX4_tell_X4_isWeaver : GoodIn wsX4_tell (va_wsS RX4 60 yX4_isWeaver wsX4_isWeaver) := goodIn_app (goodIn_of _ (by decide +kernel)) ggX4_tell_X4_isWeaver
set_option maxRecDepth 20000 in
theorem ggX4_tell_X4_fail : GoodIn wsX4_tell wsX4_fail := goodIn_r _ [13, 1, 30, 31, 32, 33, 34, 35, 36] (by decide +kernel) (by decide +kernel)
set_option maxRecDepth 20000 in
theorem gX4_tell_X4_fail : GoodIn wsX4_tell (wsV RX4 47 RX4 yX4_fail wsX4_fail) := goodIn_app (goodIn_of _ (by decide +kernel)) ggX4_tell_X4_fail
set_option maxRecDepth 20000 in
theorem ggX4_tell_X4_isColour : GoodIn wsX4_tell wsX4_isColour := goodIn_r _ [16, 7, 8, 5, 9] (by decide +kernel) (by decide +kernel)
set_option maxRecDepth 20000 in
theorem gX4_tell_X4_isColour : GoodIn wsX4_tell (va_wsS RX4 51 yX4_isColour wsX4_isColour) := goodIn_app (goodIn_of _ (by decide +kernel)) ggX4_tell_X4_isColour
set_option maxRecDepth 20000 in
theorem ggX4_tell_X4_isIn : GoodIn wsX4_tell wsX4_isIn := goodIn_r _ [9] (by decide +kernel) (by decide +kernel)
set_option maxRecDepth 20000 in
theorem gX4_tell_X4_isIn : GoodIn wsX4_tell (va_wsS RX4 32 yX4_isIn wsX4_isIn) := goodIn_app (goodIn_of _ (by decide +kernel)) ggX4_tell_X4_isIn
set_option maxRecDepth 20000 in
theorem ggX4_tell_X4_pe : GoodIn wsX4_tell wsX4_pe := goodIn_r _ [20, 21, 30, 31, 32, 33, 34, 35, 36] (by decide +kernel) (by decide +kernel)
set_option maxRecDepth 20000 in
theorem gX4_tell_X4_pe : GoodIn wsX4_tell (wsV RX4 40 RX4 yX4_pe wsX4_pe) := goodIn_app (goodIn_of _ (by decide +kernel)) ggX4_tell_X4_pe
set_option maxRecDepth 20000 in
theorem ggX4_tell_X4_runAt : GoodIn wsX4_tell wsX4_runAt := goodIn_r _ [25] (by decide +kernel) (by decide +kernel)
set_option maxRecDepth 20000 in
theorem gX4_tell_X4_runAt : GoodIn wsX4_tell (wsV RX4 67 RX4 yX4_runAt wsX4_runAt) := goodIn_app (goodIn_of _ (by decide +kernel)) ggX4_tell_X4_runAt
set_option maxRecDepth 20000 in
theorem ggX4_tell_X4_put : GoodIn wsX4_tell wsX4_put := goodIn_r _ [29, 21, 30, 31, 32, 33, 34, 35, 36] (by decide +kernel) (by decide +kernel)
set_option maxRecDepth 20000 in
theorem gX4_tell_X4_put : GoodIn wsX4_tell (wsV RX4 63 RX4 yX4_put wsX4_put) := goodIn_app (goodIn_of _ (by decide +kernel)) ggX4_tell_X4_put
theorem dX4_tell_0 : decode cX4_tell 0 = .ok (.aload_n 0, 1) := by decide +kernel
theorem dX4_tell_1 : decode cX4_tell 1 = .ok (.iconst 0, 1) := by decide +kernel
theorem dX4_tell_2 : decode cX4_tell 2 = .ok (.putfield 28, 3) := by decide +kernel
theorem dX4_tell_5 : decode cX4_tell 5 = .ok (.iload_n 1, 1) := by decide +kernel
theorem dX4_tell_6 : decode cX4_tell 6 = .ok (.invokestatic 60, 3) := by decide +kernel
theorem dX4_tell_9 : decode cX4_tell 9 = .ok (.ifCond .ne 9, 3) := by decide +kernel
theorem dX4_tell_12 : decode cX4_tell 12 = .ok (.aload_n 0, 1) := by decide +kernel
theorem dX4_tell_13 : decode cX4_tell 13 = .ok (.iconst 1, 1) := by decide +kernel
theorem dX4_tell_14 : decode cX4_tell 14 = .ok (.invokevirtual 47, 3) := by decide +kernel
theorem dX4_tell_17 : decode cX4_tell 17 = .ok (.ireturn, 1) := by decide +kernel
theorem dX4_tell_18 : decode cX4_tell 18 = .ok (.iload_n 2, 1) := by decide +kernel
theorem dX4_tell_19 : decode cX4_tell 19 = .ok (.invokestatic 51, 3) := by decide +kernel
theorem dX4_tell_22 : decode cX4_tell 22 = .ok (.ifCond .eq 13, 3) := by decide +kernel
theorem dX4_tell_25 : decode cX4_tell 25 = .ok (.iload_n 3, 1) := by decide +kernel
theorem dX4_tell_26 : decode cX4_tell 26 = .ok (.iconst 1, 1) := by decide +kernel
theorem dX4_tell_27 : decode cX4_tell 27 = .ok (.bipush 60, 2) := by decide +kernel
theorem dX4_tell_29 : decode cX4_tell 29 = .ok (.invokestatic 32, 3) := by decide +kernel
theorem dX4_tell_32 : decode cX4_tell 32 = .ok (.ifCond .ne 9, 3) := by decide +kernel
theorem dX4_tell_35 : decode cX4_tell 35 = .ok (.aload_n 0, 1) := by decide +kernel
theorem dX4_tell_36 : decode cX4_tell 36 = .ok (.iconst 2, 1) := by decide +kernel
theorem dX4_tell_37 : decode cX4_tell 37 = .ok (.invokevirtual 47, 3) := by decide +kernel
theorem dX4_tell_40 : decode cX4_tell 40 = .ok (.ireturn, 1) := by decide +kernel
theorem dX4_tell_41 : decode cX4_tell 41 = .ok (.aload_n 0, 1) := by decide +kernel
theorem dX4_tell_42 : decode cX4_tell 42 = .ok (.iload_n 1, 1) := by decide +kernel
theorem dX4_tell_43 : decode cX4_tell 43 = .ok (.iconst 2, 1) := by decide +kernel
theorem dX4_tell_44 : decode cX4_tell 44 = .ok (.invokevirtual 40, 3) := by decide +kernel
theorem dX4_tell_47 : decode cX4_tell 47 = .ok (.istore 4, 2) := by decide +kernel
theorem dX4_tell_49 : decode cX4_tell 49 = .ok (.iload 4, 2) := by decide +kernel
theorem dX4_tell_51 : decode cX4_tell 51 = .ok (.bipush 20, 2) := by decide +kernel
theorem dX4_tell_53 : decode cX4_tell 53 = .ok (.if_icmp .ne 9, 3) := by decide +kernel
theorem dX4_tell_56 : decode cX4_tell 56 = .ok (.aload_n 0, 1) := by decide +kernel
theorem dX4_tell_57 : decode cX4_tell 57 = .ok (.iconst 3, 1) := by decide +kernel
theorem dX4_tell_58 : decode cX4_tell 58 = .ok (.invokevirtual 47, 3) := by decide +kernel
theorem dX4_tell_61 : decode cX4_tell 61 = .ok (.ireturn, 1) := by decide +kernel
theorem dX4_tell_62 : decode cX4_tell 62 = .ok (.aload_n 0, 1) := by decide +kernel
theorem dX4_tell_63 : decode cX4_tell 63 = .ok (.getfield 19, 3) := by decide +kernel
theorem dX4_tell_66 : decode cX4_tell 66 = .ok (.aload_n 0, 1) := by decide +kernel
theorem dX4_tell_67 : decode cX4_tell 67 = .ok (.iload_n 1, 1) := by decide +kernel
theorem dX4_tell_68 : decode cX4_tell 68 = .ok (.iload 4, 2) := by decide +kernel
theorem dX4_tell_70 : decode cX4_tell 70 = .ok (.invokevirtual 67, 3) := by decide +kernel
theorem dX4_tell_73 : decode cX4_tell 73 = .ok (.iload_n 2, 1) := by decide +kernel
theorem dX4_tell_74 : decode cX4_tell 74 = .ok (.iastore, 1) := by decide +kernel
theorem dX4_tell_75 : decode cX4_tell 75 = .ok (.aload_n 0, 1) := by decide +kernel
theorem dX4_tell_76 : decode cX4_tell 76 = .ok (.getfield 19, 3) := by decide +kernel
theorem dX4_tell_79 : decode cX4_tell 79 = .ok (.aload_n 0, 1) := by decide +kernel
theorem dX4_tell_80 : decode cX4_tell 80 = .ok (.iload_n 1, 1) := by decide +kernel
theorem dX4_tell_81 : decode cX4_tell 81 = .ok (.iload 4, 2) := by decide +kernel
theorem dX4_tell_83 : decode cX4_tell 83 = .ok (.invokevirtual 67, 3) := by decide +kernel
theorem dX4_tell_86 : decode cX4_tell 86 = .ok (.iconst 1, 1) := by decide +kernel
theorem dX4_tell_87 : decode cX4_tell 87 = .ok (.iadd, 1) := by decide +kernel
theorem dX4_tell_88 : decode cX4_tell 88 = .ok (.iload_n 3, 1) := by decide +kernel
theorem dX4_tell_89 : decode cX4_tell 89 = .ok (.iastore, 1) := by decide +kernel
theorem dX4_tell_90 : decode cX4_tell 90 = .ok (.aload_n 0, 1) := by decide +kernel
theorem dX4_tell_91 : decode cX4_tell 91 = .ok (.iload_n 1, 1) := by decide +kernel
theorem dX4_tell_92 : decode cX4_tell 92 = .ok (.iconst 2, 1) := by decide +kernel
theorem dX4_tell_93 : decode cX4_tell 93 = .ok (.iload 4, 2) := by decide +kernel
theorem dX4_tell_95 : decode cX4_tell 95 = .ok (.iconst 1, 1) := by decide +kernel
theorem dX4_tell_96 : decode cX4_tell 96 = .ok (.iadd, 1) := by decide +kernel
theorem dX4_tell_97 : decode cX4_tell 97 = .ok (.invokevirtual 63, 3) := by decide +kernel
theorem dX4_tell_100 : decode cX4_tell 100 = .ok (.iload 4, 2) := by decide +kernel
theorem dX4_tell_102 : decode cX4_tell 102 = .ok (.iconst 1, 1) := by decide +kernel
theorem dX4_tell_103 : decode cX4_tell 103 = .ok (.iadd, 1) := by decide +kernel
theorem dX4_tell_104 : decode cX4_tell 104 = .ok (.ireturn, 1) := by decide +kernel
set_option maxRecDepth 20000 in
theorem ggX4_told_X4_pe : GoodIn wsX4_told wsX4_pe := goodIn_r _ [6, 7, 12, 13, 14, 15, 16, 17, 18] (by decide +kernel) (by decide +kernel)
set_option maxRecDepth 20000 in
theorem gX4_told_X4_pe : GoodIn wsX4_told (wsV RX4 40 RX4 yX4_pe wsX4_pe) := goodIn_app (goodIn_of _ (by decide +kernel)) ggX4_told_X4_pe
set_option maxRecDepth 20000 in
theorem ggX4_told_X4_runAt : GoodIn wsX4_told wsX4_runAt := goodIn_r _ [11] (by decide +kernel) (by decide +kernel)
set_option maxRecDepth 20000 in
theorem gX4_told_X4_runAt : GoodIn wsX4_told (wsV RX4 67 RX4 yX4_runAt wsX4_runAt) := goodIn_app (goodIn_of _ (by decide +kernel)) ggX4_told_X4_runAt
theorem dX4_told_0 : decode cX4_told 0 = .ok (.iconst 0, 1) := by decide +kernel
theorem dX4_told_1 : decode cX4_told 1 = .ok (.istore_n 2, 1) := by decide +kernel
theorem dX4_told_2 : decode cX4_told 2 = .ok (.iconst 0, 1) := by decide +kernel
theorem dX4_told_3 : decode cX4_told 3 = .ok (.istore_n 3, 1) := by decide +kernel
theorem dX4_told_4 : decode cX4_told 4 = .ok (.iload_n 3, 1) := by decide +kernel
theorem dX4_told_5 : decode cX4_told 5 = .ok (.aload_n 0, 1) := by decide +kernel
theorem dX4_told_6 : decode cX4_told 6 = .ok (.iload_n 1, 1) := by decide +kernel
theorem dX4_told_7 : decode cX4_told 7 = .ok (.iconst 2, 1) := by decide +kernel
theorem dX4_told_8 : decode cX4_told 8 = .ok (.invokevirtual 40, 3) := by decide +kernel
theorem dX4_told_11 : decode cX4_told 11 = .ok (.if_icmp .ge 25, 3) := by decide +kernel
theorem dX4_told_14 : decode cX4_told 14 = .ok (.iload_n 2, 1) := by decide +kernel
theorem dX4_told_15 : decode cX4_told 15 = .ok (.aload_n 0, 1) := by decide +kernel
theorem dX4_told_16 : decode cX4_told 16 = .ok (.getfield 19, 3) := by decide +kernel
theorem dX4_told_19 : decode cX4_told 19 = .ok (.aload_n 0, 1) := by decide +kernel
theorem dX4_told_20 : decode cX4_told 20 = .ok (.iload_n 1, 1) := by decide +kernel
theorem dX4_told_21 : decode cX4_told 21 = .ok (.iload_n 3, 1) := by decide +kernel
theorem dX4_told_22 : decode cX4_told 22 = .ok (.invokevirtual 67, 3) := by decide +kernel
theorem dX4_told_25 : decode cX4_told 25 = .ok (.iconst 1, 1) := by decide +kernel
theorem dX4_told_26 : decode cX4_told 26 = .ok (.iadd, 1) := by decide +kernel
theorem dX4_told_27 : decode cX4_told 27 = .ok (.iaload, 1) := by decide +kernel
theorem dX4_told_28 : decode cX4_told 28 = .ok (.iadd, 1) := by decide +kernel
theorem dX4_told_29 : decode cX4_told 29 = .ok (.istore_n 2, 1) := by decide +kernel
theorem dX4_told_30 : decode cX4_told 30 = .ok (.iinc 3 1, 3) := by decide +kernel
theorem dX4_told_33 : decode cX4_told 33 = .ok (.goto (-29), 3) := by decide +kernel
theorem dX4_told_36 : decode cX4_told 36 = .ok (.iload_n 2, 1) := by decide +kernel
theorem dX4_told_37 : decode cX4_told 37 = .ok (.ireturn, 1) := by decide +kernel
set_option maxRecDepth 20000 in
theorem ggX4_hush_X4_isWeaver : GoodIn wsX4_hush wsX4_isWeaver := goodIn_r _ [5, 6, 7, 4, 8] (by decide +kernel) (by decide +kernel)
set_option maxRecDepth 20000 in
theorem gX4_hush_X4_isWeaver : GoodIn wsX4_hush (va_wsS RX4 60 yX4_isWeaver wsX4_isWeaver) := goodIn_app (goodIn_of _ (by decide +kernel)) ggX4_hush_X4_isWeaver
set_option maxRecDepth 20000 in
theorem ggX4_hush_X4_fail : GoodIn wsX4_hush wsX4_fail := goodIn_r _ [12, 1, 31, 32, 33, 34, 35, 36, 37] (by decide +kernel) (by decide +kernel)
set_option maxRecDepth 20000 in
theorem gX4_hush_X4_fail : GoodIn wsX4_hush (wsV RX4 47 RX4 yX4_fail wsX4_fail) := goodIn_app (goodIn_of _ (by decide +kernel)) ggX4_hush_X4_fail
set_option maxRecDepth 20000 in
theorem ggX4_hush_X4_told : GoodIn wsX4_hush wsX4_told := goodIn_r _ [16, 17, 18, 19, 20, 4, 21, 22, 23, 24, 25, 26, 31, 32, 33, 34, 35, 36, 37] (by decide +kernel) (by decide +kernel)
set_option maxRecDepth 20000 in
theorem gX4_hush_X4_told : GoodIn wsX4_hush (wsV RX4 70 RX4 yX4_told wsX4_told) := goodIn_app (goodIn_of _ (by decide +kernel)) ggX4_hush_X4_told
set_option maxRecDepth 20000 in
theorem ggX4_hush_X4_put : GoodIn wsX4_hush wsX4_put := goodIn_r _ [30, 22, 31, 32, 33, 34, 35, 36, 37] (by decide +kernel) (by decide +kernel)
set_option maxRecDepth 20000 in
theorem gX4_hush_X4_put : GoodIn wsX4_hush (wsV RX4 63 RX4 yX4_put wsX4_put) := goodIn_app (goodIn_of _ (by decide +kernel)) ggX4_hush_X4_put
theorem dX4_hush_0 : decode cX4_hush 0 = .ok (.aload_n 0, 1) := by decide +kernel
theorem dX4_hush_1 : decode cX4_hush 1 = .ok (.iconst 0, 1) := by decide +kernel
theorem dX4_hush_2 : decode cX4_hush 2 = .ok (.putfield 28, 3) := by decide +kernel
theorem dX4_hush_5 : decode cX4_hush 5 = .ok (.iload_n 1, 1) := by decide +kernel
theorem dX4_hush_6 : decode cX4_hush 6 = .ok (.invokestatic 60, 3) := by decide +kernel
theorem dX4_hush_9 : decode cX4_hush 9 = .ok (.ifCond .ne 9, 3) := by decide +kernel
theorem dX4_hush_12 : decode cX4_hush 12 = .ok (.aload_n 0, 1) := by decide +kernel
theorem dX4_hush_13 : decode cX4_hush 13 = .ok (.iconst 1, 1) := by decide +kernel
theorem dX4_hush_14 : decode cX4_hush 14 = .ok (.invokevirtual 47, 3) := by decide +kernel
theorem dX4_hush_17 : decode cX4_hush 17 = .ok (.ireturn, 1) := by decide +kernel
theorem dX4_hush_18 : decode cX4_hush 18 = .ok (.aload_n 0, 1) := by decide +kernel
theorem dX4_hush_19 : decode cX4_hush 19 = .ok (.iload_n 1, 1) := by decide +kernel
theorem dX4_hush_20 : decode cX4_hush 20 = .ok (.invokevirtual 70, 3) := by decide +kernel
theorem dX4_hush_23 : decode cX4_hush 23 = .ok (.istore_n 2, 1) := by decide +kernel
theorem dX4_hush_24 : decode cX4_hush 24 = .ok (.aload_n 0, 1) := by decide +kernel
theorem dX4_hush_25 : decode cX4_hush 25 = .ok (.iload_n 1, 1) := by decide +kernel
theorem dX4_hush_26 : decode cX4_hush 26 = .ok (.iconst 2, 1) := by decide +kernel
theorem dX4_hush_27 : decode cX4_hush 27 = .ok (.iconst 0, 1) := by decide +kernel
theorem dX4_hush_28 : decode cX4_hush 28 = .ok (.invokevirtual 63, 3) := by decide +kernel
theorem dX4_hush_31 : decode cX4_hush 31 = .ok (.iload_n 2, 1) := by decide +kernel
theorem dX4_hush_32 : decode cX4_hush 32 = .ok (.ireturn, 1) := by decide +kernel
set_option maxRecDepth 20000 in
theorem ggX4_unpick_X4_isWeaver : GoodIn wsX4_unpick wsX4_isWeaver := goodIn_r _ [12, 13, 14, 11, 15] (by decide +kernel) (by decide +kernel)
set_option maxRecDepth 20000 in
theorem gX4_unpick_X4_isWeaver : GoodIn wsX4_unpick (va_wsS RX4 60 yX4_isWeaver wsX4_isWeaver) := goodIn_app (goodIn_of _ (by decide +kernel)) ggX4_unpick_X4_isWeaver
set_option maxRecDepth 20000 in
theorem ggX4_unpick_X4_fail : GoodIn wsX4_unpick wsX4_fail := goodIn_r _ [19, 1, 29, 30, 31, 32, 33, 34, 35] (by decide +kernel) (by decide +kernel)
set_option maxRecDepth 20000 in
theorem gX4_unpick_X4_fail : GoodIn wsX4_unpick (wsV RX4 47 RX4 yX4_fail wsX4_fail) := goodIn_app (goodIn_of _ (by decide +kernel)) ggX4_unpick_X4_fail
set_option maxRecDepth 20000 in
theorem ggX4_unpick_X4_isIn : GoodIn wsX4_unpick wsX4_isIn := goodIn_r _ [15] (by decide +kernel) (by decide +kernel)
set_option maxRecDepth 20000 in
theorem gX4_unpick_X4_isIn : GoodIn wsX4_unpick (va_wsS RX4 32 yX4_isIn wsX4_isIn) := goodIn_app (goodIn_of _ (by decide +kernel)) ggX4_unpick_X4_isIn
set_option maxRecDepth 20000 in
theorem ggX4_unpick_X4_pe : GoodIn wsX4_unpick wsX4_pe := goodIn_r _ [23, 24, 29, 30, 31, 32, 33, 34, 35] (by decide +kernel) (by decide +kernel)
set_option maxRecDepth 20000 in
theorem gX4_unpick_X4_pe : GoodIn wsX4_unpick (wsV RX4 40 RX4 yX4_pe wsX4_pe) := goodIn_app (goodIn_of _ (by decide +kernel)) ggX4_unpick_X4_pe
set_option maxRecDepth 20000 in
theorem ggX4_unpick_X4_put : GoodIn wsX4_unpick wsX4_put := goodIn_r _ [28, 24, 29, 30, 31, 32, 33, 34, 35] (by decide +kernel) (by decide +kernel)
set_option maxRecDepth 20000 in
theorem gX4_unpick_X4_put : GoodIn wsX4_unpick (wsV RX4 63 RX4 yX4_put wsX4_put) := goodIn_app (goodIn_of _ (by decide +kernel)) ggX4_unpick_X4_put
theorem dX4_unpick_0 : decode cX4_unpick 0 = .ok (.aload_n 0, 1) := by decide +kernel
theorem dX4_unpick_1 : decode cX4_unpick 1 = .ok (.iconst 0, 1) := by decide +kernel
theorem dX4_unpick_2 : decode cX4_unpick 2 = .ok (.putfield 28, 3) := by decide +kernel
theorem dX4_unpick_5 : decode cX4_unpick 5 = .ok (.iload_n 1, 1) := by decide +kernel
theorem dX4_unpick_6 : decode cX4_unpick 6 = .ok (.invokestatic 60, 3) := by decide +kernel
theorem dX4_unpick_9 : decode cX4_unpick 9 = .ok (.ifCond .ne 9, 3) := by decide +kernel
theorem dX4_unpick_12 : decode cX4_unpick 12 = .ok (.aload_n 0, 1) := by decide +kernel
theorem dX4_unpick_13 : decode cX4_unpick 13 = .ok (.iconst 1, 1) := by decide +kernel
theorem dX4_unpick_14 : decode cX4_unpick 14 = .ok (.invokevirtual 47, 3) := by decide +kernel
theorem dX4_unpick_17 : decode cX4_unpick 17 = .ok (.ireturn, 1) := by decide +kernel
theorem dX4_unpick_18 : decode cX4_unpick 18 = .ok (.iload_n 2, 1) := by decide +kernel
theorem dX4_unpick_19 : decode cX4_unpick 19 = .ok (.iconst 1, 1) := by decide +kernel
theorem dX4_unpick_20 : decode cX4_unpick 20 = .ok (.bipush 60, 2) := by decide +kernel
theorem dX4_unpick_22 : decode cX4_unpick 22 = .ok (.invokestatic 32, 3) := by decide +kernel
theorem dX4_unpick_25 : decode cX4_unpick 25 = .ok (.ifCond .ne 9, 3) := by decide +kernel
theorem dX4_unpick_28 : decode cX4_unpick 28 = .ok (.aload_n 0, 1) := by decide +kernel
theorem dX4_unpick_29 : decode cX4_unpick 29 = .ok (.iconst 2, 1) := by decide +kernel
theorem dX4_unpick_30 : decode cX4_unpick 30 = .ok (.invokevirtual 47, 3) := by decide +kernel
theorem dX4_unpick_33 : decode cX4_unpick 33 = .ok (.ireturn, 1) := by decide +kernel
theorem dX4_unpick_34 : decode cX4_unpick 34 = .ok (.aload_n 0, 1) := by decide +kernel
theorem dX4_unpick_35 : decode cX4_unpick 35 = .ok (.iload_n 1, 1) := by decide +kernel
theorem dX4_unpick_36 : decode cX4_unpick 36 = .ok (.iconst 1, 1) := by decide +kernel
theorem dX4_unpick_37 : decode cX4_unpick 37 = .ok (.invokevirtual 40, 3) := by decide +kernel
theorem dX4_unpick_40 : decode cX4_unpick 40 = .ok (.istore_n 3, 1) := by decide +kernel
theorem dX4_unpick_41 : decode cX4_unpick 41 = .ok (.iload_n 2, 1) := by decide +kernel
theorem dX4_unpick_42 : decode cX4_unpick 42 = .ok (.iload_n 3, 1) := by decide +kernel
theorem dX4_unpick_43 : decode cX4_unpick 43 = .ok (.if_icmp .le 9, 3) := by decide +kernel
theorem dX4_unpick_46 : decode cX4_unpick 46 = .ok (.aload_n 0, 1) := by decide +kernel
theorem dX4_unpick_47 : decode cX4_unpick 47 = .ok (.iconst 3, 1) := by decide +kernel
theorem dX4_unpick_48 : decode cX4_unpick 48 = .ok (.invokevirtual 47, 3) := by decide +kernel
theorem dX4_unpick_51 : decode cX4_unpick 51 = .ok (.ireturn, 1) := by decide +kernel
theorem dX4_unpick_52 : decode cX4_unpick 52 = .ok (.iload_n 3, 1) := by decide +kernel
theorem dX4_unpick_53 : decode cX4_unpick 53 = .ok (.iload_n 2, 1) := by decide +kernel
theorem dX4_unpick_54 : decode cX4_unpick 54 = .ok (.isub, 1) := by decide +kernel
theorem dX4_unpick_55 : decode cX4_unpick 55 = .ok (.istore 4, 2) := by decide +kernel
theorem dX4_unpick_57 : decode cX4_unpick 57 = .ok (.iload 4, 2) := by decide +kernel
theorem dX4_unpick_59 : decode cX4_unpick 59 = .ok (.iload_n 3, 1) := by decide +kernel
theorem dX4_unpick_60 : decode cX4_unpick 60 = .ok (.if_icmp .ge 45, 3) := by decide +kernel
theorem dX4_unpick_63 : decode cX4_unpick 63 = .ok (.aload_n 0, 1) := by decide +kernel
theorem dX4_unpick_64 : decode cX4_unpick 64 = .ok (.getfield 13, 3) := by decide +kernel
theorem dX4_unpick_67 : decode cX4_unpick 67 = .ok (.bipush 60, 2) := by decide +kernel
theorem dX4_unpick_69 : decode cX4_unpick 69 = .ok (.iload_n 1, 1) := by decide +kernel
theorem dX4_unpick_70 : decode cX4_unpick 70 = .ok (.imul, 1) := by decide +kernel
theorem dX4_unpick_71 : decode cX4_unpick 71 = .ok (.iload 4, 2) := by decide +kernel
theorem dX4_unpick_73 : decode cX4_unpick 73 = .ok (.iadd, 1) := by decide +kernel
theorem dX4_unpick_74 : decode cX4_unpick 74 = .ok (.iaload, 1) := by decide +kernel
theorem dX4_unpick_75 : decode cX4_unpick 75 = .ok (.istore 5, 2) := by decide +kernel
theorem dX4_unpick_77 : decode cX4_unpick 77 = .ok (.aload_n 0, 1) := by decide +kernel
theorem dX4_unpick_78 : decode cX4_unpick 78 = .ok (.getfield 22, 3) := by decide +kernel
theorem dX4_unpick_81 : decode cX4_unpick 81 = .ok (.iload 5, 2) := by decide +kernel
theorem dX4_unpick_83 : decode cX4_unpick 83 = .ok (.sipush 200, 3) := by decide +kernel
theorem dX4_unpick_86 : decode cX4_unpick 86 = .ok (.aload_n 0, 1) := by decide +kernel
theorem dX4_unpick_87 : decode cX4_unpick 87 = .ok (.getfield 22, 3) := by decide +kernel
theorem dX4_unpick_90 : decode cX4_unpick 90 = .ok (.iload 5, 2) := by decide +kernel
theorem dX4_unpick_92 : decode cX4_unpick 92 = .ok (.iaload, 1) := by decide +kernel
theorem dX4_unpick_93 : decode cX4_unpick 93 = .ok (.iconst 1, 1) := by decide +kernel
theorem dX4_unpick_94 : decode cX4_unpick 94 = .ok (.iadd, 1) := by decide +kernel
theorem dX4_unpick_95 : decode cX4_unpick 95 = .ok (.invokestatic 55, 3) := by decide +kernel
theorem dX4_unpick_98 : decode cX4_unpick 98 = .ok (.iastore, 1) := by decide +kernel
theorem dX4_unpick_99 : decode cX4_unpick 99 = .ok (.iinc 4 1, 3) := by decide +kernel
theorem dX4_unpick_102 : decode cX4_unpick 102 = .ok (.goto (-45), 3) := by decide +kernel
theorem dX4_unpick_105 : decode cX4_unpick 105 = .ok (.aload_n 0, 1) := by decide +kernel
theorem dX4_unpick_106 : decode cX4_unpick 106 = .ok (.iload_n 1, 1) := by decide +kernel
theorem dX4_unpick_107 : decode cX4_unpick 107 = .ok (.iconst 1, 1) := by decide +kernel
theorem dX4_unpick_108 : decode cX4_unpick 108 = .ok (.iload_n 3, 1) := by decide +kernel
theorem dX4_unpick_109 : decode cX4_unpick 109 = .ok (.iload_n 2, 1) := by decide +kernel
theorem dX4_unpick_110 : decode cX4_unpick 110 = .ok (.isub, 1) := by decide +kernel
theorem dX4_unpick_111 : decode cX4_unpick 111 = .ok (.invokevirtual 63, 3) := by decide +kernel
theorem dX4_unpick_114 : decode cX4_unpick 114 = .ok (.aload_n 0, 1) := by decide +kernel
theorem dX4_unpick_115 : decode cX4_unpick 115 = .ok (.getfield 25, 3) := by decide +kernel
theorem dX4_unpick_118 : decode cX4_unpick 118 = .ok (.iconst 1, 1) := by decide +kernel
theorem dX4_unpick_119 : decode cX4_unpick 119 = .ok (.dup2, 1) := by decide +kernel
theorem dX4_unpick_120 : decode cX4_unpick 120 = .ok (.iaload, 1) := by decide +kernel
theorem dX4_unpick_121 : decode cX4_unpick 121 = .ok (.iload_n 2, 1) := by decide +kernel
theorem dX4_unpick_122 : decode cX4_unpick 122 = .ok (.iadd, 1) := by decide +kernel
theorem dX4_unpick_123 : decode cX4_unpick 123 = .ok (.iastore, 1) := by decide +kernel
theorem dX4_unpick_124 : decode cX4_unpick 124 = .ok (.iload_n 3, 1) := by decide +kernel
theorem dX4_unpick_125 : decode cX4_unpick 125 = .ok (.iload_n 2, 1) := by decide +kernel
theorem dX4_unpick_126 : decode cX4_unpick 126 = .ok (.isub, 1) := by decide +kernel
theorem dX4_unpick_127 : decode cX4_unpick 127 = .ok (.ireturn, 1) := by decide +kernel
set_option maxRecDepth 20000 in
theorem ggX4_cell_X4_isCell : GoodIn wsX4_cell wsX4_isCell := goodIn_r _ [6, 7, 8, 5, 9] (by decide +kernel) (by decide +kernel)
set_option maxRecDepth 20000 in
theorem gX4_cell_X4_isCell : GoodIn wsX4_cell (va_wsS RX4 43 yX4_isCell wsX4_isCell) := goodIn_app (goodIn_of _ (by decide +kernel)) ggX4_cell_X4_isCell
set_option maxRecDepth 20000 in
theorem ggX4_cell_X4_isIn : GoodIn wsX4_cell wsX4_isIn := goodIn_r _ [9] (by decide +kernel) (by decide +kernel)
set_option maxRecDepth 20000 in
theorem gX4_cell_X4_isIn : GoodIn wsX4_cell (va_wsS RX4 32 yX4_isIn wsX4_isIn) := goodIn_app (goodIn_of _ (by decide +kernel)) ggX4_cell_X4_isIn
set_option maxRecDepth 20000 in
theorem ggX4_cell_X4_colour : GoodIn wsX4_cell wsX4_colour := goodIn_r _ [13, 14, 15, 16, 5, 17, 18, 19, 20, 21, 22, 27, 28, 29, 30, 31, 32, 33] (by decide +kernel) (by decide +kernel)
set_option maxRecDepth 20000 in
theorem gX4_cell_X4_colour : GoodIn wsX4_cell (wsV RX4 73 RX4 yX4_colour wsX4_colour) := goodIn_app (goodIn_of _ (by decide +kernel)) ggX4_cell_X4_colour
set_option maxRecDepth 20000 in
theorem ggX4_cell_X4_at : GoodIn wsX4_cell wsX4_at := goodIn_r _ [17] (by decide +kernel) (by decide +kernel)
set_option maxRecDepth 20000 in
theorem gX4_cell_X4_at : GoodIn wsX4_cell (va_wsS RX4 36 yX4_at wsX4_at) := goodIn_app (goodIn_of _ (by decide +kernel)) ggX4_cell_X4_at
set_option maxRecDepth 20000 in
theorem ggX4_cell_X4_fail : GoodIn wsX4_cell wsX4_fail := goodIn_r _ [26, 1, 27, 28, 29, 30, 31, 32, 33] (by decide +kernel) (by decide +kernel)
set_option maxRecDepth 20000 in
theorem gX4_cell_X4_fail : GoodIn wsX4_cell (wsV RX4 47 RX4 yX4_fail wsX4_fail) := goodIn_app (goodIn_of _ (by decide +kernel)) ggX4_cell_X4_fail
theorem dX4_cell_0 : decode cX4_cell 0 = .ok (.aload_n 0, 1) := by decide +kernel
theorem dX4_cell_1 : decode cX4_cell 1 = .ok (.iconst 0, 1) := by decide +kernel
theorem dX4_cell_2 : decode cX4_cell 2 = .ok (.putfield 28, 3) := by decide +kernel
theorem dX4_cell_5 : decode cX4_cell 5 = .ok (.iload_n 1, 1) := by decide +kernel
theorem dX4_cell_6 : decode cX4_cell 6 = .ok (.iload_n 2, 1) := by decide +kernel
theorem dX4_cell_7 : decode cX4_cell 7 = .ok (.invokestatic 43, 3) := by decide +kernel
theorem dX4_cell_10 : decode cX4_cell 10 = .ok (.ifCond .eq 38, 3) := by decide +kernel
theorem dX4_cell_13 : decode cX4_cell 13 = .ok (.iload_n 3, 1) := by decide +kernel
theorem dX4_cell_14 : decode cX4_cell 14 = .ok (.iconst 0, 1) := by decide +kernel
theorem dX4_cell_15 : decode cX4_cell 15 = .ok (.iconst 1, 1) := by decide +kernel
theorem dX4_cell_16 : decode cX4_cell 16 = .ok (.invokestatic 32, 3) := by decide +kernel
theorem dX4_cell_19 : decode cX4_cell 19 = .ok (.ifCond .eq 29, 3) := by decide +kernel
theorem dX4_cell_22 : decode cX4_cell 22 = .ok (.iload_n 3, 1) := by decide +kernel
theorem dX4_cell_23 : decode cX4_cell 23 = .ok (.ifCond .ne 12, 3) := by decide +kernel
theorem dX4_cell_26 : decode cX4_cell 26 = .ok (.aload_n 0, 1) := by decide +kernel
theorem dX4_cell_27 : decode cX4_cell 27 = .ok (.iload_n 1, 1) := by decide +kernel
theorem dX4_cell_28 : decode cX4_cell 28 = .ok (.iload_n 2, 1) := by decide +kernel
theorem dX4_cell_29 : decode cX4_cell 29 = .ok (.invokevirtual 73, 3) := by decide +kernel
theorem dX4_cell_32 : decode cX4_cell 32 = .ok (.goto 21, 3) := by decide +kernel
theorem dX4_cell_35 : decode cX4_cell 35 = .ok (.aload_n 0, 1) := by decide +kernel
theorem dX4_cell_36 : decode cX4_cell 36 = .ok (.getfield 16, 3) := by decide +kernel
theorem dX4_cell_39 : decode cX4_cell 39 = .ok (.iload_n 1, 1) := by decide +kernel
theorem dX4_cell_40 : decode cX4_cell 40 = .ok (.iload_n 2, 1) := by decide +kernel
theorem dX4_cell_41 : decode cX4_cell 41 = .ok (.invokestatic 36, 3) := by decide +kernel
theorem dX4_cell_44 : decode cX4_cell 44 = .ok (.iaload, 1) := by decide +kernel
theorem dX4_cell_45 : decode cX4_cell 45 = .ok (.goto 8, 3) := by decide +kernel
theorem dX4_cell_48 : decode cX4_cell 48 = .ok (.aload_n 0, 1) := by decide +kernel
theorem dX4_cell_49 : decode cX4_cell 49 = .ok (.iconst 1, 1) := by decide +kernel
theorem dX4_cell_50 : decode cX4_cell 50 = .ok (.invokevirtual 47, 3) := by decide +kernel
theorem dX4_cell_53 : decode cX4_cell 53 = .ok (.ireturn, 1) := by decide +kernel
set_option maxRecDepth 20000 in
theorem ggX4_sees_X4_isWeaver : GoodIn wsX4_sees wsX4_isWeaver := goodIn_r _ [5, 6, 7, 4, 8] (by decide +kernel) (by decide +kernel)
set_option maxRecDepth 20000 in
theorem gX4_sees_X4_isWeaver : GoodIn wsX4_sees (va_wsS RX4 60 yX4_isWeaver wsX4_isWeaver) := goodIn_app (goodIn_of _ (by decide +kernel)) ggX4_sees_X4_isWeaver
set_option maxRecDepth 20000 in
theorem ggX4_sees_X4_isCell : GoodIn wsX4_sees wsX4_isCell := goodIn_r _ [11, 6, 7, 4, 8] (by decide +kernel) (by decide +kernel)
set_option maxRecDepth 20000 in
theorem gX4_sees_X4_isCell : GoodIn wsX4_sees (va_wsS RX4 43 yX4_isCell wsX4_isCell) := goodIn_app (goodIn_of _ (by decide +kernel)) ggX4_sees_X4_isCell
set_option maxRecDepth 20000 in
theorem ggX4_sees_X4_fail : GoodIn wsX4_sees wsX4_fail := goodIn_r _ [15, 1, 29, 30, 31, 32, 33, 34, 35] (by decide +kernel) (by decide +kernel)
set_option maxRecDepth 20000 in
theorem gX4_sees_X4_fail : GoodIn wsX4_sees (wsV RX4 47 RX4 yX4_fail wsX4_fail) := goodIn_app (goodIn_of _ (by decide +kernel)) ggX4_sees_X4_fail
set_option maxRecDepth 20000 in
theorem ggX4_sees_X4_pe : GoodIn wsX4_sees wsX4_pe := goodIn_r _ [19, 20, 29, 30, 31, 32, 33, 34, 35] (by decide +kernel) (by decide +kernel)
set_option maxRecDepth 20000 in
theorem gX4_sees_X4_pe : GoodIn wsX4_sees (wsV RX4 40 RX4 yX4_pe wsX4_pe) := goodIn_app (goodIn_of _ (by decide +kernel)) ggX4_sees_X4_pe
set_option maxRecDepth 20000 in
theorem ggX4_sees_X4_colour : GoodIn wsX4_sees wsX4_colour := goodIn_r _ [24, 25, 26, 27, 4, 28, 16, 17, 18, 19, 20, 29, 30, 31, 32, 33, 34, 35] (by decide +kernel) (by decide +kernel)
set_option maxRecDepth 20000 in
theorem gX4_sees_X4_colour : GoodIn wsX4_sees (wsV RX4 73 RX4 yX4_colour wsX4_colour) := goodIn_app (goodIn_of _ (by decide +kernel)) ggX4_sees_X4_colour
theorem dX4_sees_0 : decode cX4_sees 0 = .ok (.aload_n 0, 1) := by decide +kernel
theorem dX4_sees_1 : decode cX4_sees 1 = .ok (.iconst 0, 1) := by decide +kernel
theorem dX4_sees_2 : decode cX4_sees 2 = .ok (.putfield 28, 3) := by decide +kernel
theorem dX4_sees_5 : decode cX4_sees 5 = .ok (.iload_n 1, 1) := by decide +kernel
theorem dX4_sees_6 : decode cX4_sees 6 = .ok (.invokestatic 60, 3) := by decide +kernel
theorem dX4_sees_9 : decode cX4_sees 9 = .ok (.ifCond .eq 11, 3) := by decide +kernel
theorem dX4_sees_12 : decode cX4_sees 12 = .ok (.iload_n 2, 1) := by decide +kernel
theorem dX4_sees_13 : decode cX4_sees 13 = .ok (.iload_n 3, 1) := by decide +kernel
theorem dX4_sees_14 : decode cX4_sees 14 = .ok (.invokestatic 43, 3) := by decide +kernel
theorem dX4_sees_17 : decode cX4_sees 17 = .ok (.ifCond .ne 9, 3) := by decide +kernel
theorem dX4_sees_20 : decode cX4_sees 20 = .ok (.aload_n 0, 1) := by decide +kernel
theorem dX4_sees_21 : decode cX4_sees 21 = .ok (.iconst 1, 1) := by decide +kernel
theorem dX4_sees_22 : decode cX4_sees 22 = .ok (.invokevirtual 47, 3) := by decide +kernel
theorem dX4_sees_25 : decode cX4_sees 25 = .ok (.ireturn, 1) := by decide +kernel
theorem dX4_sees_26 : decode cX4_sees 26 = .ok (.iload_n 2, 1) := by decide +kernel
theorem dX4_sees_27 : decode cX4_sees 27 = .ok (.bipush 6, 2) := by decide +kernel
theorem dX4_sees_29 : decode cX4_sees 29 = .ok (.idiv, 1) := by decide +kernel
theorem dX4_sees_30 : decode cX4_sees 30 = .ok (.iload_n 1, 1) := by decide +kernel
theorem dX4_sees_31 : decode cX4_sees 31 = .ok (.if_icmp .ne 7, 3) := by decide +kernel
theorem dX4_sees_34 : decode cX4_sees 34 = .ok (.iconst 1, 1) := by decide +kernel
theorem dX4_sees_35 : decode cX4_sees 35 = .ok (.goto 4, 3) := by decide +kernel
theorem dX4_sees_38 : decode cX4_sees 38 = .ok (.iconst 0, 1) := by decide +kernel
theorem dX4_sees_39 : decode cX4_sees 39 = .ok (.istore 4, 2) := by decide +kernel
theorem dX4_sees_41 : decode cX4_sees 41 = .ok (.iload_n 2, 1) := by decide +kernel
theorem dX4_sees_42 : decode cX4_sees 42 = .ok (.iload_n 1, 1) := by decide +kernel
theorem dX4_sees_43 : decode cX4_sees 43 = .ok (.ifCond .ne 8, 3) := by decide +kernel
theorem dX4_sees_46 : decode cX4_sees 46 = .ok (.bipush 6, 2) := by decide +kernel
theorem dX4_sees_48 : decode cX4_sees 48 = .ok (.goto 4, 3) := by decide +kernel
theorem dX4_sees_51 : decode cX4_sees 51 = .ok (.iconst 5, 1) := by decide +kernel
theorem dX4_sees_52 : decode cX4_sees 52 = .ok (.if_icmp .ne 23, 3) := by decide +kernel
theorem dX4_sees_55 : decode cX4_sees 55 = .ok (.aload_n 0, 1) := by decide +kernel
theorem dX4_sees_56 : decode cX4_sees 56 = .ok (.iload_n 1, 1) := by decide +kernel
theorem dX4_sees_57 : decode cX4_sees 57 = .ok (.iconst 1, 1) := by decide +kernel
theorem dX4_sees_58 : decode cX4_sees 58 = .ok (.invokevirtual 40, 3) := by decide +kernel
theorem dX4_sees_61 : decode cX4_sees 61 = .ok (.bipush 6, 2) := by decide +kernel
theorem dX4_sees_63 : decode cX4_sees 63 = .ok (.iload_n 3, 1) := by decide +kernel
theorem dX4_sees_64 : decode cX4_sees 64 = .ok (.imul, 1) := by decide +kernel
theorem dX4_sees_65 : decode cX4_sees 65 = .ok (.bipush 6, 2) := by decide +kernel
theorem dX4_sees_67 : decode cX4_sees 67 = .ok (.iadd, 1) := by decide +kernel
theorem dX4_sees_68 : decode cX4_sees 68 = .ok (.if_icmp .lt 7, 3) := by decide +kernel
theorem dX4_sees_71 : decode cX4_sees 71 = .ok (.iconst 1, 1) := by decide +kernel
theorem dX4_sees_72 : decode cX4_sees 72 = .ok (.goto 4, 3) := by decide +kernel
theorem dX4_sees_75 : decode cX4_sees 75 = .ok (.iconst 0, 1) := by decide +kernel
theorem dX4_sees_76 : decode cX4_sees 76 = .ok (.istore 5, 2) := by decide +kernel
theorem dX4_sees_78 : decode cX4_sees 78 = .ok (.iload 4, 2) := by decide +kernel
theorem dX4_sees_80 : decode cX4_sees 80 = .ok (.ifCond .ne 8, 3) := by decide +kernel
theorem dX4_sees_83 : decode cX4_sees 83 = .ok (.iload 5, 2) := by decide +kernel
theorem dX4_sees_85 : decode cX4_sees 85 = .ok (.ifCond .eq 12, 3) := by decide +kernel
theorem dX4_sees_88 : decode cX4_sees 88 = .ok (.aload_n 0, 1) := by decide +kernel
theorem dX4_sees_89 : decode cX4_sees 89 = .ok (.iload_n 2, 1) := by decide +kernel
theorem dX4_sees_90 : decode cX4_sees 90 = .ok (.iload_n 3, 1) := by decide +kernel
theorem dX4_sees_91 : decode cX4_sees 91 = .ok (.invokevirtual 73, 3) := by decide +kernel
theorem dX4_sees_94 : decode cX4_sees 94 = .ok (.goto 5, 3) := by decide +kernel
theorem dX4_sees_97 : decode cX4_sees 97 = .ok (.bipush (-2), 2) := by decide +kernel
theorem dX4_sees_99 : decode cX4_sees 99 = .ok (.ireturn, 1) := by decide +kernel
set_option maxRecDepth 20000 in
theorem ggX4_weaverTold_X4_pe : GoodIn wsX4_weaverTold wsX4_pe := goodIn_r _ [5, 6, 19, 20, 21, 22, 23, 24, 25] (by decide +kernel) (by decide +kernel)
set_option maxRecDepth 20000 in
theorem gX4_weaverTold_X4_pe : GoodIn wsX4_weaverTold (wsV RX4 40 RX4 yX4_pe wsX4_pe) := goodIn_app (goodIn_of _ (by decide +kernel)) ggX4_weaverTold_X4_pe
set_option maxRecDepth 20000 in
theorem ggX4_weaverTold_X4_told : GoodIn wsX4_weaverTold wsX4_told := goodIn_r _ [10, 11, 1, 2, 3, 4, 5, 6, 12, 13, 14, 15, 19, 20, 21, 22, 23, 24, 25] (by decide +kernel) (by decide +kernel)
set_option maxRecDepth 20000 in
theorem gX4_weaverTold_X4_told : GoodIn wsX4_weaverTold (wsV RX4 70 RX4 yX4_told wsX4_told) := goodIn_app (goodIn_of _ (by decide +kernel)) ggX4_weaverTold_X4_told
set_option maxRecDepth 20000 in
theorem ggX4_weaverTold_X4_xOf : GoodIn wsX4_weaverTold wsX4_xOf := goodIn_r _ [18] (by decide +kernel) (by decide +kernel)
set_option maxRecDepth 20000 in
theorem gX4_weaverTold_X4_xOf : GoodIn wsX4_weaverTold (va_wsS RX4 76 yX4_xOf wsX4_xOf) := goodIn_app (goodIn_of _ (by decide +kernel)) ggX4_weaverTold_X4_xOf
theorem dX4_weaverTold_0 : decode cX4_weaverTold 0 = .ok (.aload_n 0, 1) := by decide +kernel
theorem dX4_weaverTold_1 : decode cX4_weaverTold 1 = .ok (.iload_n 1, 1) := by decide +kernel
theorem dX4_weaverTold_2 : decode cX4_weaverTold 2 = .ok (.iconst 1, 1) := by decide +kernel
theorem dX4_weaverTold_3 : decode cX4_weaverTold 3 = .ok (.invokevirtual 40, 3) := by decide +kernel
theorem dX4_weaverTold_6 : decode cX4_weaverTold 6 = .ok (.istore_n 3, 1) := by decide +kernel
theorem dX4_weaverTold_7 : decode cX4_weaverTold 7 = .ok (.iload_n 2, 1) := by decide +kernel
theorem dX4_weaverTold_8 : decode cX4_weaverTold 8 = .ok (.tableswitch 93 0 5 #[40, 47, 54, 60, 62, 78], 40) := by decide +kernel
theorem dX4_weaverTold_48 : decode cX4_weaverTold 48 = .ok (.aload_n 0, 1) := by decide +kernel
theorem dX4_weaverTold_49 : decode cX4_weaverTold 49 = .ok (.iload_n 1, 1) := by decide +kernel
theorem dX4_weaverTold_50 : decode cX4_weaverTold 50 = .ok (.iconst 0, 1) := by decide +kernel
theorem dX4_weaverTold_51 : decode cX4_weaverTold 51 = .ok (.invokevirtual 40, 3) := by decide +kernel
theorem dX4_weaverTold_54 : decode cX4_weaverTold 54 = .ok (.ireturn, 1) := by decide +kernel
theorem dX4_weaverTold_55 : decode cX4_weaverTold 55 = .ok (.aload_n 0, 1) := by decide +kernel
theorem dX4_weaverTold_56 : decode cX4_weaverTold 56 = .ok (.iload_n 1, 1) := by decide +kernel
theorem dX4_weaverTold_57 : decode cX4_weaverTold 57 = .ok (.iconst 2, 1) := by decide +kernel
theorem dX4_weaverTold_58 : decode cX4_weaverTold 58 = .ok (.invokevirtual 40, 3) := by decide +kernel
theorem dX4_weaverTold_61 : decode cX4_weaverTold 61 = .ok (.ireturn, 1) := by decide +kernel
theorem dX4_weaverTold_62 : decode cX4_weaverTold 62 = .ok (.aload_n 0, 1) := by decide +kernel
theorem dX4_weaverTold_63 : decode cX4_weaverTold 63 = .ok (.iload_n 1, 1) := by decide +kernel
theorem dX4_weaverTold_64 : decode cX4_weaverTold 64 = .ok (.invokevirtual 70, 3) := by decide +kernel
theorem dX4_weaverTold_67 : decode cX4_weaverTold 67 = .ok (.ireturn, 1) := by decide +kernel
theorem dX4_weaverTold_68 : decode cX4_weaverTold 68 = .ok (.iload_n 3, 1) := by decide +kernel
theorem dX4_weaverTold_69 : decode cX4_weaverTold 69 = .ok (.ireturn, 1) := by decide +kernel
theorem dX4_weaverTold_70 : decode cX4_weaverTold 70 = .ok (.iload_n 3, 1) := by decide +kernel
theorem dX4_weaverTold_71 : decode cX4_weaverTold 71 = .ok (.bipush 60, 2) := by decide +kernel
theorem dX4_weaverTold_73 : decode cX4_weaverTold 73 = .ok (.if_icmp .ne 7, 3) := by decide +kernel
theorem dX4_weaverTold_76 : decode cX4_weaverTold 76 = .ok (.iconst (-1), 1) := by decide +kernel
theorem dX4_weaverTold_77 : decode cX4_weaverTold 77 = .ok (.goto 8, 3) := by decide +kernel
theorem dX4_weaverTold_80 : decode cX4_weaverTold 80 = .ok (.iload_n 1, 1) := by decide +kernel
theorem dX4_weaverTold_81 : decode cX4_weaverTold 81 = .ok (.iload_n 3, 1) := by decide +kernel
theorem dX4_weaverTold_82 : decode cX4_weaverTold 82 = .ok (.invokestatic 76, 3) := by decide +kernel
theorem dX4_weaverTold_85 : decode cX4_weaverTold 85 = .ok (.ireturn, 1) := by decide +kernel
theorem dX4_weaverTold_86 : decode cX4_weaverTold 86 = .ok (.iload_n 3, 1) := by decide +kernel
theorem dX4_weaverTold_87 : decode cX4_weaverTold 87 = .ok (.bipush 60, 2) := by decide +kernel
theorem dX4_weaverTold_89 : decode cX4_weaverTold 89 = .ok (.if_icmp .ne 7, 3) := by decide +kernel
theorem dX4_weaverTold_92 : decode cX4_weaverTold 92 = .ok (.iconst (-1), 1) := by decide +kernel
theorem dX4_weaverTold_93 : decode cX4_weaverTold 93 = .ok (.goto 7, 3) := by decide +kernel
theorem dX4_weaverTold_96 : decode cX4_weaverTold 96 = .ok (.iload_n 3, 1) := by decide +kernel
theorem dX4_weaverTold_97 : decode cX4_weaverTold 97 = .ok (.bipush 6, 2) := by decide +kernel
theorem dX4_weaverTold_99 : decode cX4_weaverTold 99 = .ok (.idiv, 1) := by decide +kernel
theorem dX4_weaverTold_100 : decode cX4_weaverTold 100 = .ok (.ireturn, 1) := by decide +kernel
theorem dX4_weaverTold_101 : decode cX4_weaverTold 101 = .ok (.aload_n 0, 1) := by decide +kernel
theorem dX4_weaverTold_102 : decode cX4_weaverTold 102 = .ok (.iload_n 1, 1) := by decide +kernel
theorem dX4_weaverTold_103 : decode cX4_weaverTold 103 = .ok (.iconst 3, 1) := by decide +kernel
theorem dX4_weaverTold_104 : decode cX4_weaverTold 104 = .ok (.invokevirtual 40, 3) := by decide +kernel
theorem dX4_weaverTold_107 : decode cX4_weaverTold 107 = .ok (.ireturn, 1) := by decide +kernel
set_option maxRecDepth 20000 in
theorem ggX4_weaver_X4_isWeaver : GoodIn wsX4_weaver wsX4_isWeaver := goodIn_r _ [5, 6, 7, 4, 8] (by decide +kernel) (by decide +kernel)
set_option maxRecDepth 20000 in
theorem gX4_weaver_X4_isWeaver : GoodIn wsX4_weaver (va_wsS RX4 60 yX4_isWeaver wsX4_isWeaver) := goodIn_app (goodIn_of _ (by decide +kernel)) ggX4_weaver_X4_isWeaver
set_option maxRecDepth 20000 in
theorem ggX4_weaver_X4_isIn : GoodIn wsX4_weaver wsX4_isIn := goodIn_r _ [8] (by decide +kernel) (by decide +kernel)
set_option maxRecDepth 20000 in
theorem gX4_weaver_X4_isIn : GoodIn wsX4_weaver (va_wsS RX4 32 yX4_isIn wsX4_isIn) := goodIn_app (goodIn_of _ (by decide +kernel)) ggX4_weaver_X4_isIn
set_option maxRecDepth 20000 in
theorem ggX4_weaver_X4_weaverTold : GoodIn wsX4_weaver wsX4_weaverTold := goodIn_r _ [12, 13, 14, 15, 4, 16, 17, 18, 19, 20, 21, 22, 23, 24, 25, 26, 27, 28, 29, 34, 35, 36, 37, 38, 39, 40] (by decide +kernel) (by decide +kernel)
set_option maxRecDepth 20000 in
theorem gX4_weaver_X4_weaverTold : GoodIn wsX4_weaver (wsV RX4 79 RX4 yX4_weaverTold wsX4_weaverTold) := goodIn_app (goodIn_of _ (by decide +kernel)) ggX4_weaver_X4_weaverTold
set_option maxRecDepth 20000 in
theorem ggX4_weaver_X4_fail : GoodIn wsX4_weaver wsX4_fail := goodIn_r _ [33, 1, 34, 35, 36, 37, 38, 39, 40] (by decide +kernel) (by decide +kernel)
set_option maxRecDepth 20000 in
theorem gX4_weaver_X4_fail : GoodIn wsX4_weaver (wsV RX4 47 RX4 yX4_fail wsX4_fail) := goodIn_app (goodIn_of _ (by decide +kernel)) ggX4_weaver_X4_fail
theorem dX4_weaver_0 : decode cX4_weaver 0 = .ok (.aload_n 0, 1) := by decide +kernel
theorem dX4_weaver_1 : decode cX4_weaver 1 = .ok (.iconst 0, 1) := by decide +kernel
theorem dX4_weaver_2 : decode cX4_weaver 2 = .ok (.putfield 28, 3) := by decide +kernel
theorem dX4_weaver_5 : decode cX4_weaver 5 = .ok (.iload_n 1, 1) := by decide +kernel
theorem dX4_weaver_6 : decode cX4_weaver 6 = .ok (.invokestatic 60, 3) := by decide +kernel
theorem dX4_weaver_9 : decode cX4_weaver 9 = .ok (.ifCond .eq 22, 3) := by decide +kernel
theorem dX4_weaver_12 : decode cX4_weaver 12 = .ok (.iload_n 2, 1) := by decide +kernel
theorem dX4_weaver_13 : decode cX4_weaver 13 = .ok (.iconst 0, 1) := by decide +kernel
theorem dX4_weaver_14 : decode cX4_weaver 14 = .ok (.bipush 6, 2) := by decide +kernel
theorem dX4_weaver_16 : decode cX4_weaver 16 = .ok (.invokestatic 32, 3) := by decide +kernel
theorem dX4_weaver_19 : decode cX4_weaver 19 = .ok (.ifCond .eq 12, 3) := by decide +kernel
theorem dX4_weaver_22 : decode cX4_weaver 22 = .ok (.aload_n 0, 1) := by decide +kernel
theorem dX4_weaver_23 : decode cX4_weaver 23 = .ok (.iload_n 1, 1) := by decide +kernel
theorem dX4_weaver_24 : decode cX4_weaver 24 = .ok (.iload_n 2, 1) := by decide +kernel
theorem dX4_weaver_25 : decode cX4_weaver 25 = .ok (.invokevirtual 79, 3) := by decide +kernel
theorem dX4_weaver_28 : decode cX4_weaver 28 = .ok (.goto 8, 3) := by decide +kernel
theorem dX4_weaver_31 : decode cX4_weaver 31 = .ok (.aload_n 0, 1) := by decide +kernel
theorem dX4_weaver_32 : decode cX4_weaver 32 = .ok (.iconst 1, 1) := by decide +kernel
theorem dX4_weaver_33 : decode cX4_weaver 33 = .ok (.invokevirtual 47, 3) := by decide +kernel
theorem dX4_weaver_36 : decode cX4_weaver 36 = .ok (.ireturn, 1) := by decide +kernel
set_option maxRecDepth 20000 in
theorem ggX4_run_X4_isWeaver : GoodIn wsX4_run wsX4_isWeaver := goodIn_r _ [6, 7, 8, 5, 9] (by decide +kernel) (by decide +kernel)
set_option maxRecDepth 20000 in
theorem gX4_run_X4_isWeaver : GoodIn wsX4_run (va_wsS RX4 60 yX4_isWeaver wsX4_isWeaver) := goodIn_app (goodIn_of _ (by decide +kernel)) ggX4_run_X4_isWeaver
set_option maxRecDepth 20000 in
theorem ggX4_run_X4_pe : GoodIn wsX4_run wsX4_pe := goodIn_r _ [13, 14, 23, 24, 25, 26, 27, 28, 29] (by decide +kernel) (by decide +kernel)
set_option maxRecDepth 20000 in
theorem gX4_run_X4_pe : GoodIn wsX4_run (wsV RX4 40 RX4 yX4_pe wsX4_pe) := goodIn_app (goodIn_of _ (by decide +kernel)) ggX4_run_X4_pe
set_option maxRecDepth 20000 in
theorem ggX4_run_X4_isIn : GoodIn wsX4_run wsX4_isIn := goodIn_r _ [9] (by decide +kernel) (by decide +kernel)
set_option maxRecDepth 20000 in
theorem gX4_run_X4_isIn : GoodIn wsX4_run (va_wsS RX4 32 yX4_isIn wsX4_isIn) := goodIn_app (goodIn_of _ (by decide +kernel)) ggX4_run_X4_isIn
set_option maxRecDepth 20000 in
theorem ggX4_run_X4_runAt : GoodIn wsX4_run wsX4_runAt := goodIn_r _ [18] (by decide +kernel) (by decide +kernel)
set_option maxRecDepth 20000 in
theorem gX4_run_X4_runAt : GoodIn wsX4_run (wsV RX4 67 RX4 yX4_runAt wsX4_runAt) := goodIn_app (goodIn_of _ (by decide +kernel)) ggX4_run_X4_runAt
set_option maxRecDepth 20000 in
theorem ggX4_run_X4_fail : GoodIn wsX4_run wsX4_fail := goodIn_r _ [22, 1, 23, 24, 25, 26, 27, 28, 29] (by decide +kernel) (by decide +kernel)
set_option maxRecDepth 20000 in
theorem gX4_run_X4_fail : GoodIn wsX4_run (wsV RX4 47 RX4 yX4_fail wsX4_fail) := goodIn_app (goodIn_of _ (by decide +kernel)) ggX4_run_X4_fail
theorem dX4_run_0 : decode cX4_run 0 = .ok (.aload_n 0, 1) := by decide +kernel
theorem dX4_run_1 : decode cX4_run 1 = .ok (.iconst 0, 1) := by decide +kernel
theorem dX4_run_2 : decode cX4_run 2 = .ok (.putfield 28, 3) := by decide +kernel
theorem dX4_run_5 : decode cX4_run 5 = .ok (.iload_n 1, 1) := by decide +kernel
theorem dX4_run_6 : decode cX4_run 6 = .ok (.invokestatic 60, 3) := by decide +kernel
theorem dX4_run_9 : decode cX4_run 9 = .ok (.ifCond .eq 44, 3) := by decide +kernel
theorem dX4_run_12 : decode cX4_run 12 = .ok (.iload_n 2, 1) := by decide +kernel
theorem dX4_run_13 : decode cX4_run 13 = .ok (.iconst 0, 1) := by decide +kernel
theorem dX4_run_14 : decode cX4_run 14 = .ok (.aload_n 0, 1) := by decide +kernel
theorem dX4_run_15 : decode cX4_run 15 = .ok (.iload_n 1, 1) := by decide +kernel
theorem dX4_run_16 : decode cX4_run 16 = .ok (.iconst 2, 1) := by decide +kernel
theorem dX4_run_17 : decode cX4_run 17 = .ok (.invokevirtual 40, 3) := by decide +kernel
theorem dX4_run_20 : decode cX4_run 20 = .ok (.iconst 1, 1) := by decide +kernel
theorem dX4_run_21 : decode cX4_run 21 = .ok (.isub, 1) := by decide +kernel
theorem dX4_run_22 : decode cX4_run 22 = .ok (.invokestatic 32, 3) := by decide +kernel
theorem dX4_run_25 : decode cX4_run 25 = .ok (.ifCond .eq 28, 3) := by decide +kernel
theorem dX4_run_28 : decode cX4_run 28 = .ok (.iload_n 3, 1) := by decide +kernel
theorem dX4_run_29 : decode cX4_run 29 = .ok (.iconst 0, 1) := by decide +kernel
theorem dX4_run_30 : decode cX4_run 30 = .ok (.iconst 1, 1) := by decide +kernel
theorem dX4_run_31 : decode cX4_run 31 = .ok (.invokestatic 32, 3) := by decide +kernel
theorem dX4_run_34 : decode cX4_run 34 = .ok (.ifCond .eq 19, 3) := by decide +kernel
theorem dX4_run_37 : decode cX4_run 37 = .ok (.aload_n 0, 1) := by decide +kernel
theorem dX4_run_38 : decode cX4_run 38 = .ok (.getfield 19, 3) := by decide +kernel
theorem dX4_run_41 : decode cX4_run 41 = .ok (.aload_n 0, 1) := by decide +kernel
theorem dX4_run_42 : decode cX4_run 42 = .ok (.iload_n 1, 1) := by decide +kernel
theorem dX4_run_43 : decode cX4_run 43 = .ok (.iload_n 2, 1) := by decide +kernel
theorem dX4_run_44 : decode cX4_run 44 = .ok (.invokevirtual 67, 3) := by decide +kernel
theorem dX4_run_47 : decode cX4_run 47 = .ok (.iload_n 3, 1) := by decide +kernel
theorem dX4_run_48 : decode cX4_run 48 = .ok (.iadd, 1) := by decide +kernel
theorem dX4_run_49 : decode cX4_run 49 = .ok (.iaload, 1) := by decide +kernel
theorem dX4_run_50 : decode cX4_run 50 = .ok (.goto 8, 3) := by decide +kernel
theorem dX4_run_53 : decode cX4_run 53 = .ok (.aload_n 0, 1) := by decide +kernel
theorem dX4_run_54 : decode cX4_run 54 = .ok (.iconst 1, 1) := by decide +kernel
theorem dX4_run_55 : decode cX4_run 55 = .ok (.invokevirtual 47, 3) := by decide +kernel
theorem dX4_run_58 : decode cX4_run 58 = .ok (.ireturn, 1) := by decide +kernel
set_option maxRecDepth 20000 in
theorem ggX4_differ_X4_pe : GoodIn wsX4_differ wsX4_pe := goodIn_r _ [7, 8, 9, 10, 11, 12, 13, 14, 15] (by decide +kernel) (by decide +kernel)
set_option maxRecDepth 20000 in
theorem gX4_differ_X4_pe : GoodIn wsX4_differ (wsV RX4 40 RX4 yX4_pe wsX4_pe) := goodIn_app (goodIn_of _ (by decide +kernel)) ggX4_differ_X4_pe
theorem dX4_differ_0 : decode cX4_differ 0 = .ok (.iconst 0, 1) := by decide +kernel
theorem dX4_differ_1 : decode cX4_differ 1 = .ok (.istore_n 1, 1) := by decide +kernel
theorem dX4_differ_2 : decode cX4_differ 2 = .ok (.iconst 0, 1) := by decide +kernel
theorem dX4_differ_3 : decode cX4_differ 3 = .ok (.istore_n 2, 1) := by decide +kernel
theorem dX4_differ_4 : decode cX4_differ 4 = .ok (.iload_n 2, 1) := by decide +kernel
theorem dX4_differ_5 : decode cX4_differ 5 = .ok (.iconst 2, 1) := by decide +kernel
theorem dX4_differ_6 : decode cX4_differ 6 = .ok (.if_icmp .ge 60, 3) := by decide +kernel
theorem dX4_differ_9 : decode cX4_differ 9 = .ok (.iconst 0, 1) := by decide +kernel
theorem dX4_differ_10 : decode cX4_differ 10 = .ok (.istore_n 3, 1) := by decide +kernel
theorem dX4_differ_11 : decode cX4_differ 11 = .ok (.iload_n 3, 1) := by decide +kernel
theorem dX4_differ_12 : decode cX4_differ 12 = .ok (.aload_n 0, 1) := by decide +kernel
theorem dX4_differ_13 : decode cX4_differ 13 = .ok (.iload_n 2, 1) := by decide +kernel
theorem dX4_differ_14 : decode cX4_differ 14 = .ok (.iconst 1, 1) := by decide +kernel
theorem dX4_differ_15 : decode cX4_differ 15 = .ok (.invokevirtual 40, 3) := by decide +kernel
theorem dX4_differ_18 : decode cX4_differ 18 = .ok (.if_icmp .ge 42, 3) := by decide +kernel
theorem dX4_differ_21 : decode cX4_differ 21 = .ok (.iload_n 1, 1) := by decide +kernel
theorem dX4_differ_22 : decode cX4_differ 22 = .ok (.aload_n 0, 1) := by decide +kernel
theorem dX4_differ_23 : decode cX4_differ 23 = .ok (.getfield 13, 3) := by decide +kernel
theorem dX4_differ_26 : decode cX4_differ 26 = .ok (.bipush 60, 2) := by decide +kernel
theorem dX4_differ_28 : decode cX4_differ 28 = .ok (.iload_n 2, 1) := by decide +kernel
theorem dX4_differ_29 : decode cX4_differ 29 = .ok (.imul, 1) := by decide +kernel
theorem dX4_differ_30 : decode cX4_differ 30 = .ok (.iload_n 3, 1) := by decide +kernel
theorem dX4_differ_31 : decode cX4_differ 31 = .ok (.iadd, 1) := by decide +kernel
theorem dX4_differ_32 : decode cX4_differ 32 = .ok (.iaload, 1) := by decide +kernel
theorem dX4_differ_33 : decode cX4_differ 33 = .ok (.aload_n 0, 1) := by decide +kernel
theorem dX4_differ_34 : decode cX4_differ 34 = .ok (.getfield 16, 3) := by decide +kernel
theorem dX4_differ_37 : decode cX4_differ 37 = .ok (.bipush 60, 2) := by decide +kernel
theorem dX4_differ_39 : decode cX4_differ 39 = .ok (.iload_n 2, 1) := by decide +kernel
theorem dX4_differ_40 : decode cX4_differ 40 = .ok (.imul, 1) := by decide +kernel
theorem dX4_differ_41 : decode cX4_differ 41 = .ok (.iload_n 3, 1) := by decide +kernel
theorem dX4_differ_42 : decode cX4_differ 42 = .ok (.iadd, 1) := by decide +kernel
theorem dX4_differ_43 : decode cX4_differ 43 = .ok (.iaload, 1) := by decide +kernel
theorem dX4_differ_44 : decode cX4_differ 44 = .ok (.if_icmp .ne 7, 3) := by decide +kernel
theorem dX4_differ_47 : decode cX4_differ 47 = .ok (.iconst 0, 1) := by decide +kernel
theorem dX4_differ_48 : decode cX4_differ 48 = .ok (.goto 4, 3) := by decide +kernel
theorem dX4_differ_51 : decode cX4_differ 51 = .ok (.iconst 1, 1) := by decide +kernel
theorem dX4_differ_52 : decode cX4_differ 52 = .ok (.iadd, 1) := by decide +kernel
theorem dX4_differ_53 : decode cX4_differ 53 = .ok (.istore_n 1, 1) := by decide +kernel
theorem dX4_differ_54 : decode cX4_differ 54 = .ok (.iinc 3 1, 3) := by decide +kernel
theorem dX4_differ_57 : decode cX4_differ 57 = .ok (.goto (-46), 3) := by decide +kernel
theorem dX4_differ_60 : decode cX4_differ 60 = .ok (.iinc 2 1, 3) := by decide +kernel
theorem dX4_differ_63 : decode cX4_differ 63 = .ok (.goto (-59), 3) := by decide +kernel
theorem dX4_differ_66 : decode cX4_differ 66 = .ok (.iload_n 1, 1) := by decide +kernel
theorem dX4_differ_67 : decode cX4_differ 67 = .ok (.ireturn, 1) := by decide +kernel
set_option maxRecDepth 20000 in
theorem ggX4_doneRows_X4_pe : GoodIn wsX4_doneRows wsX4_pe := goodIn_r _ [9, 10, 11, 12, 13, 14, 15, 16, 17] (by decide +kernel) (by decide +kernel)
set_option maxRecDepth 20000 in
theorem gX4_doneRows_X4_pe : GoodIn wsX4_doneRows (wsV RX4 40 RX4 yX4_pe wsX4_pe) := goodIn_app (goodIn_of _ (by decide +kernel)) ggX4_doneRows_X4_pe
theorem dX4_doneRows_0 : decode cX4_doneRows 0 = .ok (.aload_n 0, 1) := by decide +kernel
theorem dX4_doneRows_1 : decode cX4_doneRows 1 = .ok (.iconst 0, 1) := by decide +kernel
theorem dX4_doneRows_2 : decode cX4_doneRows 2 = .ok (.iconst 1, 1) := by decide +kernel
theorem dX4_doneRows_3 : decode cX4_doneRows 3 = .ok (.invokevirtual 40, 3) := by decide +kernel
theorem dX4_doneRows_6 : decode cX4_doneRows 6 = .ok (.aload_n 0, 1) := by decide +kernel
theorem dX4_doneRows_7 : decode cX4_doneRows 7 = .ok (.iconst 1, 1) := by decide +kernel
theorem dX4_doneRows_8 : decode cX4_doneRows 8 = .ok (.iconst 1, 1) := by decide +kernel
theorem dX4_doneRows_9 : decode cX4_doneRows 9 = .ok (.invokevirtual 40, 3) := by decide +kernel
theorem dX4_doneRows_12 : decode cX4_doneRows 12 = .ok (.invokestatic 55, 3) := by decide +kernel
theorem dX4_doneRows_15 : decode cX4_doneRows 15 = .ok (.bipush 6, 2) := by decide +kernel
theorem dX4_doneRows_17 : decode cX4_doneRows 17 = .ok (.idiv, 1) := by decide +kernel
theorem dX4_doneRows_18 : decode cX4_doneRows 18 = .ok (.ireturn, 1) := by decide +kernel
set_option maxRecDepth 20000 in
theorem ggX4_torn_X4_doneRows : GoodIn wsX4_torn wsX4_doneRows := goodIn_r _ [6, 7, 8, 9, 10, 11, 12, 13, 5, 14, 15, 24, 25, 26, 27, 28, 29, 30] (by decide +kernel) (by decide +kernel)
set_option maxRecDepth 20000 in
theorem gX4_torn_X4_doneRows : GoodIn wsX4_torn (wsV RX4 82 RX4 yX4_doneRows wsX4_doneRows) := goodIn_app (goodIn_of _ (by decide +kernel)) ggX4_torn_X4_doneRows
set_option maxRecDepth 20000 in
theorem ggX4_torn_X4_colour : GoodIn wsX4_torn wsX4_colour := goodIn_r _ [19, 20, 21, 22, 5, 23, 11, 12, 13, 14, 15, 24, 25, 26, 27, 28, 29, 30] (by decide +kernel) (by decide +kernel)
set_option maxRecDepth 20000 in
theorem gX4_torn_X4_colour : GoodIn wsX4_torn (wsV RX4 73 RX4 yX4_colour wsX4_colour) := goodIn_app (goodIn_of _ (by decide +kernel)) ggX4_torn_X4_colour
set_option maxRecDepth 20000 in
theorem ggX4_torn_X4_at : GoodIn wsX4_torn wsX4_at := goodIn_r _ [23] (by decide +kernel) (by decide +kernel)
set_option maxRecDepth 20000 in
theorem gX4_torn_X4_at : GoodIn wsX4_torn (va_wsS RX4 36 yX4_at wsX4_at) := goodIn_app (goodIn_of _ (by decide +kernel)) ggX4_torn_X4_at
theorem dX4_torn_0 : decode cX4_torn 0 = .ok (.iconst 0, 1) := by decide +kernel
theorem dX4_torn_1 : decode cX4_torn 1 = .ok (.istore_n 1, 1) := by decide +kernel
theorem dX4_torn_2 : decode cX4_torn 2 = .ok (.iconst 0, 1) := by decide +kernel
theorem dX4_torn_3 : decode cX4_torn 3 = .ok (.istore_n 2, 1) := by decide +kernel
theorem dX4_torn_4 : decode cX4_torn 4 = .ok (.iload_n 2, 1) := by decide +kernel
theorem dX4_torn_5 : decode cX4_torn 5 = .ok (.aload_n 0, 1) := by decide +kernel
theorem dX4_torn_6 : decode cX4_torn 6 = .ok (.invokevirtual 82, 3) := by decide +kernel
theorem dX4_torn_9 : decode cX4_torn 9 = .ok (.if_icmp .ge 72, 3) := by decide +kernel
theorem dX4_torn_12 : decode cX4_torn 12 = .ok (.aload_n 0, 1) := by decide +kernel
theorem dX4_torn_13 : decode cX4_torn 13 = .ok (.iconst 5, 1) := by decide +kernel
theorem dX4_torn_14 : decode cX4_torn 14 = .ok (.iload_n 2, 1) := by decide +kernel
theorem dX4_torn_15 : decode cX4_torn 15 = .ok (.invokevirtual 73, 3) := by decide +kernel
theorem dX4_torn_18 : decode cX4_torn 18 = .ok (.aload_n 0, 1) := by decide +kernel
theorem dX4_torn_19 : decode cX4_torn 19 = .ok (.bipush 6, 2) := by decide +kernel
theorem dX4_torn_21 : decode cX4_torn 21 = .ok (.iload_n 2, 1) := by decide +kernel
theorem dX4_torn_22 : decode cX4_torn 22 = .ok (.invokevirtual 73, 3) := by decide +kernel
theorem dX4_torn_25 : decode cX4_torn 25 = .ok (.if_icmp .ne 7, 3) := by decide +kernel
theorem dX4_torn_28 : decode cX4_torn 28 = .ok (.iconst 1, 1) := by decide +kernel
theorem dX4_torn_29 : decode cX4_torn 29 = .ok (.goto 4, 3) := by decide +kernel
theorem dX4_torn_32 : decode cX4_torn 32 = .ok (.iconst 0, 1) := by decide +kernel
theorem dX4_torn_33 : decode cX4_torn 33 = .ok (.istore_n 3, 1) := by decide +kernel
theorem dX4_torn_34 : decode cX4_torn 34 = .ok (.iload_n 1, 1) := by decide +kernel
theorem dX4_torn_35 : decode cX4_torn 35 = .ok (.iload_n 3, 1) := by decide +kernel
theorem dX4_torn_36 : decode cX4_torn 36 = .ok (.aload_n 0, 1) := by decide +kernel
theorem dX4_torn_37 : decode cX4_torn 37 = .ok (.getfield 16, 3) := by decide +kernel
theorem dX4_torn_40 : decode cX4_torn 40 = .ok (.iconst 5, 1) := by decide +kernel
theorem dX4_torn_41 : decode cX4_torn 41 = .ok (.iload_n 2, 1) := by decide +kernel
theorem dX4_torn_42 : decode cX4_torn 42 = .ok (.invokestatic 36, 3) := by decide +kernel
theorem dX4_torn_45 : decode cX4_torn 45 = .ok (.iaload, 1) := by decide +kernel
theorem dX4_torn_46 : decode cX4_torn 46 = .ok (.aload_n 0, 1) := by decide +kernel
theorem dX4_torn_47 : decode cX4_torn 47 = .ok (.getfield 16, 3) := by decide +kernel
theorem dX4_torn_50 : decode cX4_torn 50 = .ok (.bipush 6, 2) := by decide +kernel
theorem dX4_torn_52 : decode cX4_torn 52 = .ok (.iload_n 2, 1) := by decide +kernel
theorem dX4_torn_53 : decode cX4_torn 53 = .ok (.invokestatic 36, 3) := by decide +kernel
theorem dX4_torn_56 : decode cX4_torn 56 = .ok (.iaload, 1) := by decide +kernel
theorem dX4_torn_57 : decode cX4_torn 57 = .ok (.if_icmp .ne 7, 3) := by decide +kernel
theorem dX4_torn_60 : decode cX4_torn 60 = .ok (.iconst 1, 1) := by decide +kernel
theorem dX4_torn_61 : decode cX4_torn 61 = .ok (.goto 4, 3) := by decide +kernel
theorem dX4_torn_64 : decode cX4_torn 64 = .ok (.iconst 0, 1) := by decide +kernel
theorem dX4_torn_65 : decode cX4_torn 65 = .ok (.if_icmp .ne 7, 3) := by decide +kernel
theorem dX4_torn_68 : decode cX4_torn 68 = .ok (.iconst 0, 1) := by decide +kernel
theorem dX4_torn_69 : decode cX4_torn 69 = .ok (.goto 4, 3) := by decide +kernel
theorem dX4_torn_72 : decode cX4_torn 72 = .ok (.iconst 1, 1) := by decide +kernel
theorem dX4_torn_73 : decode cX4_torn 73 = .ok (.iadd, 1) := by decide +kernel
theorem dX4_torn_74 : decode cX4_torn 74 = .ok (.istore_n 1, 1) := by decide +kernel
theorem dX4_torn_75 : decode cX4_torn 75 = .ok (.iinc 2 1, 3) := by decide +kernel
theorem dX4_torn_78 : decode cX4_torn 78 = .ok (.goto (-74), 3) := by decide +kernel
theorem dX4_torn_81 : decode cX4_torn 81 = .ok (.iload_n 1, 1) := by decide +kernel
theorem dX4_torn_82 : decode cX4_torn 82 = .ok (.ireturn, 1) := by decide +kernel
set_option maxRecDepth 20000 in
theorem ggX4_counted_X4_pe : GoodIn wsX4_counted wsX4_pe := goodIn_r _ [7, 8, 34, 35, 36, 37, 38, 39, 40] (by decide +kernel) (by decide +kernel)
set_option maxRecDepth 20000 in
theorem gX4_counted_X4_pe : GoodIn wsX4_counted (wsV RX4 40 RX4 yX4_pe wsX4_pe) := goodIn_app (goodIn_of _ (by decide +kernel)) ggX4_counted_X4_pe
set_option maxRecDepth 20000 in
theorem ggX4_counted_X4_differ : GoodIn wsX4_counted wsX4_differ := goodIn_r _ [12, 13, 14, 3, 4, 5, 6, 7, 8, 34, 35, 36, 37, 38, 39, 40] (by decide +kernel) (by decide +kernel)
set_option maxRecDepth 20000 in
theorem gX4_counted_X4_differ : GoodIn wsX4_counted (wsV RX4 86 RX4 yX4_differ wsX4_differ) := goodIn_app (goodIn_of _ (by decide +kernel)) ggX4_counted_X4_differ
set_option maxRecDepth 20000 in
theorem ggX4_counted_X4_doneRows : GoodIn wsX4_counted wsX4_doneRows := goodIn_r _ [18, 19, 20, 21, 22, 3, 4, 5, 6, 7, 8, 34, 35, 36, 37, 38, 39, 40] (by decide +kernel) (by decide +kernel)
set_option maxRecDepth 20000 in
theorem gX4_counted_X4_doneRows : GoodIn wsX4_counted (wsV RX4 82 RX4 yX4_doneRows wsX4_doneRows) := goodIn_app (goodIn_of _ (by decide +kernel)) ggX4_counted_X4_doneRows
set_option maxRecDepth 20000 in
theorem ggX4_counted_X4_torn : GoodIn wsX4_counted wsX4_torn := goodIn_r _ [26, 14, 15, 16, 17, 6, 18, 19, 20, 21, 22, 3, 4, 5, 7, 8, 27, 28, 29, 30, 13, 31, 32, 33, 34, 35, 36, 37, 38, 39, 40] (by decide +kernel) (by decide +kernel)
set_option maxRecDepth 20000 in
theorem gX4_counted_X4_torn : GoodIn wsX4_counted (wsV RX4 89 RX4 yX4_torn wsX4_torn) := goodIn_app (goodIn_of _ (by decide +kernel)) ggX4_counted_X4_torn
theorem dX4_counted_0 : decode cX4_counted 0 = .ok (.iconst 0, 1) := by decide +kernel
theorem dX4_counted_1 : decode cX4_counted 1 = .ok (.istore_n 2, 1) := by decide +kernel
theorem dX4_counted_2 : decode cX4_counted 2 = .ok (.iload_n 1, 1) := by decide +kernel
theorem dX4_counted_3 : decode cX4_counted 3 = .ok (.tableswitch 88 0 7 #[45, 52, 66, 71, 76, 88, 88, 81], 45) := by decide +kernel
theorem dX4_counted_48 : decode cX4_counted 48 = .ok (.aload_n 0, 1) := by decide +kernel
theorem dX4_counted_49 : decode cX4_counted 49 = .ok (.getfield 25, 3) := by decide +kernel
theorem dX4_counted_52 : decode cX4_counted 52 = .ok (.iconst 0, 1) := by decide +kernel
theorem dX4_counted_53 : decode cX4_counted 53 = .ok (.iaload, 1) := by decide +kernel
theorem dX4_counted_54 : decode cX4_counted 54 = .ok (.ireturn, 1) := by decide +kernel
theorem dX4_counted_55 : decode cX4_counted 55 = .ok (.aload_n 0, 1) := by decide +kernel
theorem dX4_counted_56 : decode cX4_counted 56 = .ok (.iconst 0, 1) := by decide +kernel
theorem dX4_counted_57 : decode cX4_counted 57 = .ok (.iconst 1, 1) := by decide +kernel
theorem dX4_counted_58 : decode cX4_counted 58 = .ok (.invokevirtual 40, 3) := by decide +kernel
theorem dX4_counted_61 : decode cX4_counted 61 = .ok (.aload_n 0, 1) := by decide +kernel
theorem dX4_counted_62 : decode cX4_counted 62 = .ok (.iconst 1, 1) := by decide +kernel
theorem dX4_counted_63 : decode cX4_counted 63 = .ok (.iconst 1, 1) := by decide +kernel
theorem dX4_counted_64 : decode cX4_counted 64 = .ok (.invokevirtual 40, 3) := by decide +kernel
theorem dX4_counted_67 : decode cX4_counted 67 = .ok (.iadd, 1) := by decide +kernel
theorem dX4_counted_68 : decode cX4_counted 68 = .ok (.ireturn, 1) := by decide +kernel
theorem dX4_counted_69 : decode cX4_counted 69 = .ok (.aload_n 0, 1) := by decide +kernel
theorem dX4_counted_70 : decode cX4_counted 70 = .ok (.invokevirtual 86, 3) := by decide +kernel
theorem dX4_counted_73 : decode cX4_counted 73 = .ok (.ireturn, 1) := by decide +kernel
theorem dX4_counted_74 : decode cX4_counted 74 = .ok (.aload_n 0, 1) := by decide +kernel
theorem dX4_counted_75 : decode cX4_counted 75 = .ok (.invokevirtual 82, 3) := by decide +kernel
theorem dX4_counted_78 : decode cX4_counted 78 = .ok (.ireturn, 1) := by decide +kernel
theorem dX4_counted_79 : decode cX4_counted 79 = .ok (.aload_n 0, 1) := by decide +kernel
theorem dX4_counted_80 : decode cX4_counted 80 = .ok (.invokevirtual 89, 3) := by decide +kernel
theorem dX4_counted_83 : decode cX4_counted 83 = .ok (.ireturn, 1) := by decide +kernel
theorem dX4_counted_84 : decode cX4_counted 84 = .ok (.aload_n 0, 1) := by decide +kernel
theorem dX4_counted_85 : decode cX4_counted 85 = .ok (.getfield 25, 3) := by decide +kernel
theorem dX4_counted_88 : decode cX4_counted 88 = .ok (.iconst 1, 1) := by decide +kernel
theorem dX4_counted_89 : decode cX4_counted 89 = .ok (.iaload, 1) := by decide +kernel
theorem dX4_counted_90 : decode cX4_counted 90 = .ok (.ireturn, 1) := by decide +kernel
theorem dX4_counted_91 : decode cX4_counted 91 = .ok (.aload_n 0, 1) := by decide +kernel
theorem dX4_counted_92 : decode cX4_counted 92 = .ok (.getfield 22, 3) := by decide +kernel
theorem dX4_counted_95 : decode cX4_counted 95 = .ok (.astore_n 3, 1) := by decide +kernel
theorem dX4_counted_96 : decode cX4_counted 96 = .ok (.aload_n 3, 1) := by decide +kernel
theorem dX4_counted_97 : decode cX4_counted 97 = .ok (.arraylength, 1) := by decide +kernel
theorem dX4_counted_98 : decode cX4_counted 98 = .ok (.istore 4, 2) := by decide +kernel
theorem dX4_counted_100 : decode cX4_counted 100 = .ok (.iconst 0, 1) := by decide +kernel
theorem dX4_counted_101 : decode cX4_counted 101 = .ok (.istore 5, 2) := by decide +kernel
theorem dX4_counted_103 : decode cX4_counted 103 = .ok (.iload 5, 2) := by decide +kernel
theorem dX4_counted_105 : decode cX4_counted 105 = .ok (.iload 4, 2) := by decide +kernel
theorem dX4_counted_107 : decode cX4_counted 107 = .ok (.if_icmp .ge 38, 3) := by decide +kernel
theorem dX4_counted_110 : decode cX4_counted 110 = .ok (.aload_n 3, 1) := by decide +kernel
theorem dX4_counted_111 : decode cX4_counted 111 = .ok (.iload 5, 2) := by decide +kernel
theorem dX4_counted_113 : decode cX4_counted 113 = .ok (.iaload, 1) := by decide +kernel
theorem dX4_counted_114 : decode cX4_counted 114 = .ok (.istore 6, 2) := by decide +kernel
theorem dX4_counted_116 : decode cX4_counted 116 = .ok (.iload_n 2, 1) := by decide +kernel
theorem dX4_counted_117 : decode cX4_counted 117 = .ok (.iload_n 1, 1) := by decide +kernel
theorem dX4_counted_118 : decode cX4_counted 118 = .ok (.iconst 5, 1) := by decide +kernel
theorem dX4_counted_119 : decode cX4_counted 119 = .ok (.if_icmp .ne 8, 3) := by decide +kernel
theorem dX4_counted_122 : decode cX4_counted 122 = .ok (.iload 6, 2) := by decide +kernel
theorem dX4_counted_124 : decode cX4_counted 124 = .ok (.goto 13, 3) := by decide +kernel
theorem dX4_counted_127 : decode cX4_counted 127 = .ok (.iload 6, 2) := by decide +kernel
theorem dX4_counted_129 : decode cX4_counted 129 = .ok (.ifCond .ne 7, 3) := by decide +kernel
theorem dX4_counted_132 : decode cX4_counted 132 = .ok (.iconst 1, 1) := by decide +kernel
theorem dX4_counted_133 : decode cX4_counted 133 = .ok (.goto 4, 3) := by decide +kernel
theorem dX4_counted_136 : decode cX4_counted 136 = .ok (.iconst 0, 1) := by decide +kernel
theorem dX4_counted_137 : decode cX4_counted 137 = .ok (.iadd, 1) := by decide +kernel
theorem dX4_counted_138 : decode cX4_counted 138 = .ok (.istore_n 2, 1) := by decide +kernel
theorem dX4_counted_139 : decode cX4_counted 139 = .ok (.iinc 5 1, 3) := by decide +kernel
theorem dX4_counted_142 : decode cX4_counted 142 = .ok (.goto (-39), 3) := by decide +kernel
theorem dX4_counted_145 : decode cX4_counted 145 = .ok (.iload_n 2, 1) := by decide +kernel
theorem dX4_counted_146 : decode cX4_counted 146 = .ok (.ireturn, 1) := by decide +kernel
set_option maxRecDepth 20000 in
theorem ggX4_count_X4_isIn : GoodIn wsX4_count wsX4_isIn := goodIn_r _ [5] (by decide +kernel) (by decide +kernel)
set_option maxRecDepth 20000 in
theorem gX4_count_X4_isIn : GoodIn wsX4_count (va_wsS RX4 32 yX4_isIn wsX4_isIn) := goodIn_app (goodIn_of _ (by decide +kernel)) ggX4_count_X4_isIn
set_option maxRecDepth 20000 in
theorem ggX4_count_X4_counted : GoodIn wsX4_count wsX4_counted := goodIn_r _ [9, 10, 11, 12, 13, 14, 4, 15, 16, 17, 18, 19, 20, 21, 22, 23, 24, 25, 26, 27, 28, 29, 30, 31, 32, 33, 34, 35, 36, 37, 38, 39, 40, 41, 46, 47, 48, 49, 50, 51, 52] (by decide +kernel) (by decide +kernel)
set_option maxRecDepth 20000 in
theorem gX4_count_X4_counted : GoodIn wsX4_count (wsV RX4 92 RX4 yX4_counted wsX4_counted) := goodIn_app (goodIn_of _ (by decide +kernel)) ggX4_count_X4_counted
set_option maxRecDepth 20000 in
theorem ggX4_count_X4_fail : GoodIn wsX4_count wsX4_fail := goodIn_r _ [45, 1, 46, 47, 48, 49, 50, 51, 52] (by decide +kernel) (by decide +kernel)
set_option maxRecDepth 20000 in
theorem gX4_count_X4_fail : GoodIn wsX4_count (wsV RX4 47 RX4 yX4_fail wsX4_fail) := goodIn_app (goodIn_of _ (by decide +kernel)) ggX4_count_X4_fail
theorem dX4_count_0 : decode cX4_count 0 = .ok (.aload_n 0, 1) := by decide +kernel
theorem dX4_count_1 : decode cX4_count 1 = .ok (.iconst 0, 1) := by decide +kernel
theorem dX4_count_2 : decode cX4_count 2 = .ok (.putfield 28, 3) := by decide +kernel
theorem dX4_count_5 : decode cX4_count 5 = .ok (.iload_n 1, 1) := by decide +kernel
theorem dX4_count_6 : decode cX4_count 6 = .ok (.iconst 0, 1) := by decide +kernel
theorem dX4_count_7 : decode cX4_count 7 = .ok (.bipush 7, 2) := by decide +kernel
theorem dX4_count_9 : decode cX4_count 9 = .ok (.invokestatic 32, 3) := by decide +kernel
theorem dX4_count_12 : decode cX4_count 12 = .ok (.ifCond .eq 11, 3) := by decide +kernel
theorem dX4_count_15 : decode cX4_count 15 = .ok (.aload_n 0, 1) := by decide +kernel
theorem dX4_count_16 : decode cX4_count 16 = .ok (.iload_n 1, 1) := by decide +kernel
theorem dX4_count_17 : decode cX4_count 17 = .ok (.invokevirtual 92, 3) := by decide +kernel
theorem dX4_count_20 : decode cX4_count 20 = .ok (.goto 8, 3) := by decide +kernel
theorem dX4_count_23 : decode cX4_count 23 = .ok (.aload_n 0, 1) := by decide +kernel
theorem dX4_count_24 : decode cX4_count 24 = .ok (.iconst 1, 1) := by decide +kernel
theorem dX4_count_25 : decode cX4_count 25 = .ok (.invokevirtual 47, 3) := by decide +kernel
theorem dX4_count_28 : decode cX4_count 28 = .ok (.ireturn, 1) := by decide +kernel
set_option maxRecDepth 20000 in
theorem ggX4_wool_X4_isColour : GoodIn wsX4_wool wsX4_isColour := goodIn_r _ [6, 7, 8, 5, 9] (by decide +kernel) (by decide +kernel)
set_option maxRecDepth 20000 in
theorem gX4_wool_X4_isColour : GoodIn wsX4_wool (va_wsS RX4 51 yX4_isColour wsX4_isColour) := goodIn_app (goodIn_of _ (by decide +kernel)) ggX4_wool_X4_isColour
set_option maxRecDepth 20000 in
theorem ggX4_wool_X4_fail : GoodIn wsX4_wool wsX4_fail := goodIn_r _ [13, 1, 14, 15, 16, 17, 18, 19, 20] (by decide +kernel) (by decide +kernel)
set_option maxRecDepth 20000 in
theorem gX4_wool_X4_fail : GoodIn wsX4_wool (wsV RX4 47 RX4 yX4_fail wsX4_fail) := goodIn_app (goodIn_of _ (by decide +kernel)) ggX4_wool_X4_fail
theorem dX4_wool_0 : decode cX4_wool 0 = .ok (.aload_n 0, 1) := by decide +kernel
theorem dX4_wool_1 : decode cX4_wool 1 = .ok (.iconst 0, 1) := by decide +kernel
theorem dX4_wool_2 : decode cX4_wool 2 = .ok (.putfield 28, 3) := by decide +kernel
theorem dX4_wool_5 : decode cX4_wool 5 = .ok (.iload_n 1, 1) := by decide +kernel
theorem dX4_wool_6 : decode cX4_wool 6 = .ok (.invokestatic 51, 3) := by decide +kernel
theorem dX4_wool_9 : decode cX4_wool 9 = .ok (.ifCond .eq 12, 3) := by decide +kernel
theorem dX4_wool_12 : decode cX4_wool 12 = .ok (.aload_n 0, 1) := by decide +kernel
theorem dX4_wool_13 : decode cX4_wool 13 = .ok (.getfield 22, 3) := by decide +kernel
theorem dX4_wool_16 : decode cX4_wool 16 = .ok (.iload_n 1, 1) := by decide +kernel
theorem dX4_wool_17 : decode cX4_wool 17 = .ok (.iaload, 1) := by decide +kernel
theorem dX4_wool_18 : decode cX4_wool 18 = .ok (.goto 8, 3) := by decide +kernel
theorem dX4_wool_21 : decode cX4_wool 21 = .ok (.aload_n 0, 1) := by decide +kernel
theorem dX4_wool_22 : decode cX4_wool 22 = .ok (.iconst 1, 1) := by decide +kernel
theorem dX4_wool_23 : decode cX4_wool 23 = .ok (.invokevirtual 47, 3) := by decide +kernel
theorem dX4_wool_26 : decode cX4_wool 26 = .ok (.ireturn, 1) := by decide +kernel
theorem dX4_runEnd_0 : decode cX4_runEnd 0 = .ok (.iload_n 2, 1) := by decide +kernel
theorem dX4_runEnd_1 : decode cX4_runEnd 1 = .ok (.iconst 1, 1) := by decide +kernel
theorem dX4_runEnd_2 : decode cX4_runEnd 2 = .ok (.iadd, 1) := by decide +kernel
theorem dX4_runEnd_3 : decode cX4_runEnd 3 = .ok (.istore_n 3, 1) := by decide +kernel
theorem dX4_runEnd_4 : decode cX4_runEnd 4 = .ok (.iload_n 3, 1) := by decide +kernel
theorem dX4_runEnd_5 : decode cX4_runEnd 5 = .ok (.bipush 60, 2) := by decide +kernel
theorem dX4_runEnd_7 : decode cX4_runEnd 7 = .ok (.if_icmp .ge 34, 3) := by decide +kernel
theorem dX4_runEnd_10 : decode cX4_runEnd 10 = .ok (.aload_n 0, 1) := by decide +kernel
theorem dX4_runEnd_11 : decode cX4_runEnd 11 = .ok (.getfield 16, 3) := by decide +kernel
theorem dX4_runEnd_14 : decode cX4_runEnd 14 = .ok (.bipush 60, 2) := by decide +kernel
theorem dX4_runEnd_16 : decode cX4_runEnd 16 = .ok (.iload_n 1, 1) := by decide +kernel
theorem dX4_runEnd_17 : decode cX4_runEnd 17 = .ok (.imul, 1) := by decide +kernel
theorem dX4_runEnd_18 : decode cX4_runEnd 18 = .ok (.iload_n 3, 1) := by decide +kernel
theorem dX4_runEnd_19 : decode cX4_runEnd 19 = .ok (.iadd, 1) := by decide +kernel
theorem dX4_runEnd_20 : decode cX4_runEnd 20 = .ok (.iaload, 1) := by decide +kernel
theorem dX4_runEnd_21 : decode cX4_runEnd 21 = .ok (.aload_n 0, 1) := by decide +kernel
theorem dX4_runEnd_22 : decode cX4_runEnd 22 = .ok (.getfield 16, 3) := by decide +kernel
theorem dX4_runEnd_25 : decode cX4_runEnd 25 = .ok (.bipush 60, 2) := by decide +kernel
theorem dX4_runEnd_27 : decode cX4_runEnd 27 = .ok (.iload_n 1, 1) := by decide +kernel
theorem dX4_runEnd_28 : decode cX4_runEnd 28 = .ok (.imul, 1) := by decide +kernel
theorem dX4_runEnd_29 : decode cX4_runEnd 29 = .ok (.iload_n 2, 1) := by decide +kernel
theorem dX4_runEnd_30 : decode cX4_runEnd 30 = .ok (.iadd, 1) := by decide +kernel
theorem dX4_runEnd_31 : decode cX4_runEnd 31 = .ok (.iaload, 1) := by decide +kernel
theorem dX4_runEnd_32 : decode cX4_runEnd 32 = .ok (.if_icmp .ne 9, 3) := by decide +kernel
theorem dX4_runEnd_35 : decode cX4_runEnd 35 = .ok (.iinc 3 1, 3) := by decide +kernel
theorem dX4_runEnd_38 : decode cX4_runEnd 38 = .ok (.goto (-34), 3) := by decide +kernel
theorem dX4_runEnd_41 : decode cX4_runEnd 41 = .ok (.iload_n 3, 1) := by decide +kernel
theorem dX4_runEnd_42 : decode cX4_runEnd 42 = .ok (.ireturn, 1) := by decide +kernel
set_option maxRecDepth 20000 in
theorem ggX4_advise_X4_isWeaver : GoodIn wsX4_advise wsX4_isWeaver := goodIn_r _ [6, 7, 8, 5, 9] (by decide +kernel) (by decide +kernel)
set_option maxRecDepth 20000 in
theorem gX4_advise_X4_isWeaver : GoodIn wsX4_advise (va_wsS RX4 60 yX4_isWeaver wsX4_isWeaver) := goodIn_app (goodIn_of _ (by decide +kernel)) ggX4_advise_X4_isWeaver
set_option maxRecDepth 20000 in
theorem ggX4_advise_X4_fail : GoodIn wsX4_advise wsX4_fail := goodIn_r _ [13, 1, 23, 24, 25, 26, 27, 28, 29] (by decide +kernel) (by decide +kernel)
set_option maxRecDepth 20000 in
theorem gX4_advise_X4_fail : GoodIn wsX4_advise (wsV RX4 47 RX4 yX4_fail wsX4_fail) := goodIn_app (goodIn_of _ (by decide +kernel)) ggX4_advise_X4_fail
set_option maxRecDepth 20000 in
theorem ggX4_advise_X4_pe : GoodIn wsX4_advise wsX4_pe := goodIn_r _ [17, 18, 23, 24, 25, 26, 27, 28, 29] (by decide +kernel) (by decide +kernel)
set_option maxRecDepth 20000 in
theorem gX4_advise_X4_pe : GoodIn wsX4_advise (wsV RX4 40 RX4 yX4_pe wsX4_pe) := goodIn_app (goodIn_of _ (by decide +kernel)) ggX4_advise_X4_pe
set_option maxRecDepth 20000 in
theorem ggX4_advise_X4_runEnd : GoodIn wsX4_advise wsX4_runEnd := goodIn_r _ [22, 2, 23, 24, 25, 26, 27, 28, 29] (by decide +kernel) (by decide +kernel)
set_option maxRecDepth 20000 in
theorem gX4_advise_X4_runEnd : GoodIn wsX4_advise (wsV RX4 95 RX4 yX4_runEnd wsX4_runEnd) := goodIn_app (goodIn_of _ (by decide +kernel)) ggX4_advise_X4_runEnd
theorem dX4_advise_0 : decode cX4_advise 0 = .ok (.aload_n 0, 1) := by decide +kernel
theorem dX4_advise_1 : decode cX4_advise 1 = .ok (.iconst 0, 1) := by decide +kernel
theorem dX4_advise_2 : decode cX4_advise 2 = .ok (.putfield 28, 3) := by decide +kernel
theorem dX4_advise_5 : decode cX4_advise 5 = .ok (.iload_n 1, 1) := by decide +kernel
theorem dX4_advise_6 : decode cX4_advise 6 = .ok (.invokestatic 60, 3) := by decide +kernel
theorem dX4_advise_9 : decode cX4_advise 9 = .ok (.ifCond .ne 9, 3) := by decide +kernel
theorem dX4_advise_12 : decode cX4_advise 12 = .ok (.aload_n 0, 1) := by decide +kernel
theorem dX4_advise_13 : decode cX4_advise 13 = .ok (.iconst 1, 1) := by decide +kernel
theorem dX4_advise_14 : decode cX4_advise 14 = .ok (.invokevirtual 47, 3) := by decide +kernel
theorem dX4_advise_17 : decode cX4_advise 17 = .ok (.ireturn, 1) := by decide +kernel
theorem dX4_advise_18 : decode cX4_advise 18 = .ok (.aload_n 0, 1) := by decide +kernel
theorem dX4_advise_19 : decode cX4_advise 19 = .ok (.iload_n 1, 1) := by decide +kernel
theorem dX4_advise_20 : decode cX4_advise 20 = .ok (.iconst 1, 1) := by decide +kernel
theorem dX4_advise_21 : decode cX4_advise 21 = .ok (.invokevirtual 40, 3) := by decide +kernel
theorem dX4_advise_24 : decode cX4_advise 24 = .ok (.istore_n 2, 1) := by decide +kernel
theorem dX4_advise_25 : decode cX4_advise 25 = .ok (.iload_n 2, 1) := by decide +kernel
theorem dX4_advise_26 : decode cX4_advise 26 = .ok (.bipush 60, 2) := by decide +kernel
theorem dX4_advise_28 : decode cX4_advise 28 = .ok (.if_icmp .ne 7, 3) := by decide +kernel
theorem dX4_advise_31 : decode cX4_advise 31 = .ok (.iconst (-1), 1) := by decide +kernel
theorem dX4_advise_32 : decode cX4_advise 32 = .ok (.goto 26, 3) := by decide +kernel
theorem dX4_advise_35 : decode cX4_advise 35 = .ok (.bipush 100, 2) := by decide +kernel
theorem dX4_advise_37 : decode cX4_advise 37 = .ok (.aload_n 0, 1) := by decide +kernel
theorem dX4_advise_38 : decode cX4_advise 38 = .ok (.getfield 16, 3) := by decide +kernel
theorem dX4_advise_41 : decode cX4_advise 41 = .ok (.bipush 60, 2) := by decide +kernel
theorem dX4_advise_43 : decode cX4_advise 43 = .ok (.iload_n 1, 1) := by decide +kernel
theorem dX4_advise_44 : decode cX4_advise 44 = .ok (.imul, 1) := by decide +kernel
theorem dX4_advise_45 : decode cX4_advise 45 = .ok (.iload_n 2, 1) := by decide +kernel
theorem dX4_advise_46 : decode cX4_advise 46 = .ok (.iadd, 1) := by decide +kernel
theorem dX4_advise_47 : decode cX4_advise 47 = .ok (.iaload, 1) := by decide +kernel
theorem dX4_advise_48 : decode cX4_advise 48 = .ok (.imul, 1) := by decide +kernel
theorem dX4_advise_49 : decode cX4_advise 49 = .ok (.aload_n 0, 1) := by decide +kernel
theorem dX4_advise_50 : decode cX4_advise 50 = .ok (.iload_n 1, 1) := by decide +kernel
theorem dX4_advise_51 : decode cX4_advise 51 = .ok (.iload_n 2, 1) := by decide +kernel
theorem dX4_advise_52 : decode cX4_advise 52 = .ok (.invokevirtual 95, 3) := by decide +kernel
theorem dX4_advise_55 : decode cX4_advise 55 = .ok (.iadd, 1) := by decide +kernel
theorem dX4_advise_56 : decode cX4_advise 56 = .ok (.iload_n 2, 1) := by decide +kernel
theorem dX4_advise_57 : decode cX4_advise 57 = .ok (.isub, 1) := by decide +kernel
theorem dX4_advise_58 : decode cX4_advise 58 = .ok (.ireturn, 1) := by decide +kernel
set_option maxRecDepth 20000 in
theorem ggX4_runs_X4_isWeaver : GoodIn wsX4_runs wsX4_isWeaver := goodIn_r _ [5, 6, 7, 4, 8] (by decide +kernel) (by decide +kernel)
set_option maxRecDepth 20000 in
theorem gX4_runs_X4_isWeaver : GoodIn wsX4_runs (va_wsS RX4 60 yX4_isWeaver wsX4_isWeaver) := goodIn_app (goodIn_of _ (by decide +kernel)) ggX4_runs_X4_isWeaver
set_option maxRecDepth 20000 in
theorem ggX4_runs_X4_fail : GoodIn wsX4_runs wsX4_fail := goodIn_r _ [12, 1, 23, 24, 25, 26, 27, 28, 29] (by decide +kernel) (by decide +kernel)
set_option maxRecDepth 20000 in
theorem gX4_runs_X4_fail : GoodIn wsX4_runs (wsV RX4 47 RX4 yX4_fail wsX4_fail) := goodIn_app (goodIn_of _ (by decide +kernel)) ggX4_runs_X4_fail
set_option maxRecDepth 20000 in
theorem ggX4_runs_X4_pe : GoodIn wsX4_runs wsX4_pe := goodIn_r _ [16, 17, 23, 24, 25, 26, 27, 28, 29] (by decide +kernel) (by decide +kernel)
set_option maxRecDepth 20000 in
theorem gX4_runs_X4_pe : GoodIn wsX4_runs (wsV RX4 40 RX4 yX4_pe wsX4_pe) := goodIn_app (goodIn_of _ (by decide +kernel)) ggX4_runs_X4_pe
set_option maxRecDepth 20000 in
theorem ggX4_runs_X4_runEnd : GoodIn wsX4_runs wsX4_runEnd := goodIn_r _ [21, 22, 23, 24, 25, 26, 27, 28, 29] (by decide +kernel) (by decide +kernel)
set_option maxRecDepth 20000 in
theorem gX4_runs_X4_runEnd : GoodIn wsX4_runs (wsV RX4 95 RX4 yX4_runEnd wsX4_runEnd) := goodIn_app (goodIn_of _ (by decide +kernel)) ggX4_runs_X4_runEnd
theorem dX4_runs_0 : decode cX4_runs 0 = .ok (.aload_n 0, 1) := by decide +kernel
theorem dX4_runs_1 : decode cX4_runs 1 = .ok (.iconst 0, 1) := by decide +kernel
theorem dX4_runs_2 : decode cX4_runs 2 = .ok (.putfield 28, 3) := by decide +kernel
theorem dX4_runs_5 : decode cX4_runs 5 = .ok (.iload_n 1, 1) := by decide +kernel
theorem dX4_runs_6 : decode cX4_runs 6 = .ok (.invokestatic 60, 3) := by decide +kernel
theorem dX4_runs_9 : decode cX4_runs 9 = .ok (.ifCond .ne 9, 3) := by decide +kernel
theorem dX4_runs_12 : decode cX4_runs 12 = .ok (.aload_n 0, 1) := by decide +kernel
theorem dX4_runs_13 : decode cX4_runs 13 = .ok (.iconst 1, 1) := by decide +kernel
theorem dX4_runs_14 : decode cX4_runs 14 = .ok (.invokevirtual 47, 3) := by decide +kernel
theorem dX4_runs_17 : decode cX4_runs 17 = .ok (.ireturn, 1) := by decide +kernel
theorem dX4_runs_18 : decode cX4_runs 18 = .ok (.iconst 0, 1) := by decide +kernel
theorem dX4_runs_19 : decode cX4_runs 19 = .ok (.istore_n 2, 1) := by decide +kernel
theorem dX4_runs_20 : decode cX4_runs 20 = .ok (.aload_n 0, 1) := by decide +kernel
theorem dX4_runs_21 : decode cX4_runs 21 = .ok (.iload_n 1, 1) := by decide +kernel
theorem dX4_runs_22 : decode cX4_runs 22 = .ok (.iconst 1, 1) := by decide +kernel
theorem dX4_runs_23 : decode cX4_runs 23 = .ok (.invokevirtual 40, 3) := by decide +kernel
theorem dX4_runs_26 : decode cX4_runs 26 = .ok (.istore_n 3, 1) := by decide +kernel
theorem dX4_runs_27 : decode cX4_runs 27 = .ok (.iload_n 3, 1) := by decide +kernel
theorem dX4_runs_28 : decode cX4_runs 28 = .ok (.bipush 60, 2) := by decide +kernel
theorem dX4_runs_30 : decode cX4_runs 30 = .ok (.if_icmp .ge 16, 3) := by decide +kernel
theorem dX4_runs_33 : decode cX4_runs 33 = .ok (.iinc 2 1, 3) := by decide +kernel
theorem dX4_runs_36 : decode cX4_runs 36 = .ok (.aload_n 0, 1) := by decide +kernel
theorem dX4_runs_37 : decode cX4_runs 37 = .ok (.iload_n 1, 1) := by decide +kernel
theorem dX4_runs_38 : decode cX4_runs 38 = .ok (.iload_n 3, 1) := by decide +kernel
theorem dX4_runs_39 : decode cX4_runs 39 = .ok (.invokevirtual 95, 3) := by decide +kernel
theorem dX4_runs_42 : decode cX4_runs 42 = .ok (.istore_n 3, 1) := by decide +kernel
theorem dX4_runs_43 : decode cX4_runs 43 = .ok (.goto (-16), 3) := by decide +kernel
theorem dX4_runs_46 : decode cX4_runs 46 = .ok (.iload_n 2, 1) := by decide +kernel
theorem dX4_runs_47 : decode cX4_runs 47 = .ok (.ireturn, 1) := by decide +kernel
set_option maxRecDepth 20000 in
theorem ggX4_mends_X4_isWeaver : GoodIn wsX4_mends wsX4_isWeaver := goodIn_r _ [7, 8, 9, 6, 10] (by decide +kernel) (by decide +kernel)
set_option maxRecDepth 20000 in
theorem gX4_mends_X4_isWeaver : GoodIn wsX4_mends (va_wsS RX4 60 yX4_isWeaver wsX4_isWeaver) := goodIn_app (goodIn_of _ (by decide +kernel)) ggX4_mends_X4_isWeaver
set_option maxRecDepth 20000 in
theorem ggX4_mends_X4_fail : GoodIn wsX4_mends wsX4_fail := goodIn_r _ [14, 1, 20, 21, 22, 23, 24, 25, 26] (by decide +kernel) (by decide +kernel)
set_option maxRecDepth 20000 in
theorem gX4_mends_X4_fail : GoodIn wsX4_mends (wsV RX4 47 RX4 yX4_fail wsX4_fail) := goodIn_app (goodIn_of _ (by decide +kernel)) ggX4_mends_X4_fail
set_option maxRecDepth 20000 in
theorem ggX4_mends_X4_pe : GoodIn wsX4_mends wsX4_pe := goodIn_r _ [18, 19, 20, 21, 22, 23, 24, 25, 26] (by decide +kernel) (by decide +kernel)
set_option maxRecDepth 20000 in
theorem gX4_mends_X4_pe : GoodIn wsX4_mends (wsV RX4 40 RX4 yX4_pe wsX4_pe) := goodIn_app (goodIn_of _ (by decide +kernel)) ggX4_mends_X4_pe
theorem dX4_mends_0 : decode cX4_mends 0 = .ok (.aload_n 0, 1) := by decide +kernel
theorem dX4_mends_1 : decode cX4_mends 1 = .ok (.iconst 0, 1) := by decide +kernel
theorem dX4_mends_2 : decode cX4_mends 2 = .ok (.putfield 28, 3) := by decide +kernel
theorem dX4_mends_5 : decode cX4_mends 5 = .ok (.iload_n 1, 1) := by decide +kernel
theorem dX4_mends_6 : decode cX4_mends 6 = .ok (.invokestatic 60, 3) := by decide +kernel
theorem dX4_mends_9 : decode cX4_mends 9 = .ok (.ifCond .ne 9, 3) := by decide +kernel
theorem dX4_mends_12 : decode cX4_mends 12 = .ok (.aload_n 0, 1) := by decide +kernel
theorem dX4_mends_13 : decode cX4_mends 13 = .ok (.iconst 1, 1) := by decide +kernel
theorem dX4_mends_14 : decode cX4_mends 14 = .ok (.invokevirtual 47, 3) := by decide +kernel
theorem dX4_mends_17 : decode cX4_mends 17 = .ok (.ireturn, 1) := by decide +kernel
theorem dX4_mends_18 : decode cX4_mends 18 = .ok (.iconst 0, 1) := by decide +kernel
theorem dX4_mends_19 : decode cX4_mends 19 = .ok (.istore_n 2, 1) := by decide +kernel
theorem dX4_mends_20 : decode cX4_mends 20 = .ok (.iload_n 2, 1) := by decide +kernel
theorem dX4_mends_21 : decode cX4_mends 21 = .ok (.aload_n 0, 1) := by decide +kernel
theorem dX4_mends_22 : decode cX4_mends 22 = .ok (.iload_n 1, 1) := by decide +kernel
theorem dX4_mends_23 : decode cX4_mends 23 = .ok (.iconst 1, 1) := by decide +kernel
theorem dX4_mends_24 : decode cX4_mends 24 = .ok (.invokevirtual 40, 3) := by decide +kernel
theorem dX4_mends_27 : decode cX4_mends 27 = .ok (.if_icmp .ge 34, 3) := by decide +kernel
theorem dX4_mends_30 : decode cX4_mends 30 = .ok (.aload_n 0, 1) := by decide +kernel
theorem dX4_mends_31 : decode cX4_mends 31 = .ok (.getfield 13, 3) := by decide +kernel
theorem dX4_mends_34 : decode cX4_mends 34 = .ok (.bipush 60, 2) := by decide +kernel
theorem dX4_mends_36 : decode cX4_mends 36 = .ok (.iload_n 1, 1) := by decide +kernel
theorem dX4_mends_37 : decode cX4_mends 37 = .ok (.imul, 1) := by decide +kernel
theorem dX4_mends_38 : decode cX4_mends 38 = .ok (.iload_n 2, 1) := by decide +kernel
theorem dX4_mends_39 : decode cX4_mends 39 = .ok (.iadd, 1) := by decide +kernel
theorem dX4_mends_40 : decode cX4_mends 40 = .ok (.iaload, 1) := by decide +kernel
theorem dX4_mends_41 : decode cX4_mends 41 = .ok (.aload_n 0, 1) := by decide +kernel
theorem dX4_mends_42 : decode cX4_mends 42 = .ok (.getfield 16, 3) := by decide +kernel
theorem dX4_mends_45 : decode cX4_mends 45 = .ok (.bipush 60, 2) := by decide +kernel
theorem dX4_mends_47 : decode cX4_mends 47 = .ok (.iload_n 1, 1) := by decide +kernel
theorem dX4_mends_48 : decode cX4_mends 48 = .ok (.imul, 1) := by decide +kernel
theorem dX4_mends_49 : decode cX4_mends 49 = .ok (.iload_n 2, 1) := by decide +kernel
theorem dX4_mends_50 : decode cX4_mends 50 = .ok (.iadd, 1) := by decide +kernel
theorem dX4_mends_51 : decode cX4_mends 51 = .ok (.iaload, 1) := by decide +kernel
theorem dX4_mends_52 : decode cX4_mends 52 = .ok (.if_icmp .ne 9, 3) := by decide +kernel
theorem dX4_mends_55 : decode cX4_mends 55 = .ok (.iinc 2 1, 3) := by decide +kernel
theorem dX4_mends_58 : decode cX4_mends 58 = .ok (.goto (-38), 3) := by decide +kernel
theorem dX4_mends_61 : decode cX4_mends 61 = .ok (.aload_n 0, 1) := by decide +kernel
theorem dX4_mends_62 : decode cX4_mends 62 = .ok (.iload_n 1, 1) := by decide +kernel
theorem dX4_mends_63 : decode cX4_mends 63 = .ok (.iconst 1, 1) := by decide +kernel
theorem dX4_mends_64 : decode cX4_mends 64 = .ok (.invokevirtual 40, 3) := by decide +kernel
theorem dX4_mends_67 : decode cX4_mends 67 = .ok (.iload_n 2, 1) := by decide +kernel
theorem dX4_mends_68 : decode cX4_mends 68 = .ok (.isub, 1) := by decide +kernel
theorem dX4_mends_69 : decode cX4_mends 69 = .ok (.ireturn, 1) := by decide +kernel
set_option maxRecDepth 20000 in
theorem ggX4_isDone_X4_pe : GoodIn wsX4_isDone wsX4_pe := goodIn_r _ [5, 6, 7, 8, 9, 10, 11, 12, 13] (by decide +kernel) (by decide +kernel)
set_option maxRecDepth 20000 in
theorem gX4_isDone_X4_pe : GoodIn wsX4_isDone (wsV RX4 40 RX4 yX4_pe wsX4_pe) := goodIn_app (goodIn_of _ (by decide +kernel)) ggX4_isDone_X4_pe
theorem dX4_isDone_0 : decode cX4_isDone 0 = .ok (.aload_n 0, 1) := by decide +kernel
theorem dX4_isDone_1 : decode cX4_isDone 1 = .ok (.iload_n 1, 1) := by decide +kernel
theorem dX4_isDone_2 : decode cX4_isDone 2 = .ok (.iconst 2, 1) := by decide +kernel
theorem dX4_isDone_3 : decode cX4_isDone 3 = .ok (.invokevirtual 40, 3) := by decide +kernel
theorem dX4_isDone_6 : decode cX4_isDone 6 = .ok (.ifCond .eq 14, 3) := by decide +kernel
theorem dX4_isDone_9 : decode cX4_isDone 9 = .ok (.aload_n 0, 1) := by decide +kernel
theorem dX4_isDone_10 : decode cX4_isDone 10 = .ok (.iload_n 1, 1) := by decide +kernel
theorem dX4_isDone_11 : decode cX4_isDone 11 = .ok (.iconst 1, 1) := by decide +kernel
theorem dX4_isDone_12 : decode cX4_isDone 12 = .ok (.invokevirtual 40, 3) := by decide +kernel
theorem dX4_isDone_15 : decode cX4_isDone 15 = .ok (.bipush 60, 2) := by decide +kernel
theorem dX4_isDone_17 : decode cX4_isDone 17 = .ok (.if_icmp .ne 7, 3) := by decide +kernel
theorem dX4_isDone_20 : decode cX4_isDone 20 = .ok (.iconst 1, 1) := by decide +kernel
theorem dX4_isDone_21 : decode cX4_isDone 21 = .ok (.goto 4, 3) := by decide +kernel
theorem dX4_isDone_24 : decode cX4_isDone 24 = .ok (.iconst 0, 1) := by decide +kernel
theorem dX4_isDone_25 : decode cX4_isDone 25 = .ok (.ireturn, 1) := by decide +kernel
set_option maxRecDepth 20000 in
theorem ggX4_dropRun_X4_runAt : GoodIn wsX4_dropRun wsX4_runAt := goodIn_r _ [10] (by decide +kernel) (by decide +kernel)
set_option maxRecDepth 20000 in
theorem gX4_dropRun_X4_runAt : GoodIn wsX4_dropRun (wsV RX4 67 RX4 yX4_runAt wsX4_runAt) := goodIn_app (goodIn_of _ (by decide +kernel)) ggX4_dropRun_X4_runAt
set_option maxRecDepth 20000 in
theorem ggX4_dropRun_X4_pe : GoodIn wsX4_dropRun wsX4_pe := goodIn_r _ [14, 15, 20, 21, 22, 23, 24, 25, 26] (by decide +kernel) (by decide +kernel)
set_option maxRecDepth 20000 in
theorem gX4_dropRun_X4_pe : GoodIn wsX4_dropRun (wsV RX4 40 RX4 yX4_pe wsX4_pe) := goodIn_app (goodIn_of _ (by decide +kernel)) ggX4_dropRun_X4_pe
set_option maxRecDepth 20000 in
theorem ggX4_dropRun_X4_put : GoodIn wsX4_dropRun wsX4_put := goodIn_r _ [19, 15, 20, 21, 22, 23, 24, 25, 26] (by decide +kernel) (by decide +kernel)
set_option maxRecDepth 20000 in
theorem gX4_dropRun_X4_put : GoodIn wsX4_dropRun (wsV RX4 63 RX4 yX4_put wsX4_put) := goodIn_app (goodIn_of _ (by decide +kernel)) ggX4_dropRun_X4_put
theorem dX4_dropRun_0 : decode cX4_dropRun 0 = .ok (.aload_n 0, 1) := by decide +kernel
theorem dX4_dropRun_1 : decode cX4_dropRun 1 = .ok (.getfield 19, 3) := by decide +kernel
theorem dX4_dropRun_4 : decode cX4_dropRun 4 = .ok (.aload_n 0, 1) := by decide +kernel
theorem dX4_dropRun_5 : decode cX4_dropRun 5 = .ok (.iload_n 1, 1) := by decide +kernel
theorem dX4_dropRun_6 : decode cX4_dropRun 6 = .ok (.iconst 1, 1) := by decide +kernel
theorem dX4_dropRun_7 : decode cX4_dropRun 7 = .ok (.invokevirtual 67, 3) := by decide +kernel
theorem dX4_dropRun_10 : decode cX4_dropRun 10 = .ok (.aload_n 0, 1) := by decide +kernel
theorem dX4_dropRun_11 : decode cX4_dropRun 11 = .ok (.getfield 19, 3) := by decide +kernel
theorem dX4_dropRun_14 : decode cX4_dropRun 14 = .ok (.aload_n 0, 1) := by decide +kernel
theorem dX4_dropRun_15 : decode cX4_dropRun 15 = .ok (.iload_n 1, 1) := by decide +kernel
theorem dX4_dropRun_16 : decode cX4_dropRun 16 = .ok (.iconst 0, 1) := by decide +kernel
theorem dX4_dropRun_17 : decode cX4_dropRun 17 = .ok (.invokevirtual 67, 3) := by decide +kernel
theorem dX4_dropRun_20 : decode cX4_dropRun 20 = .ok (.bipush 38, 2) := by decide +kernel
theorem dX4_dropRun_22 : decode cX4_dropRun 22 = .ok (.invokestatic 98, 3) := by decide +kernel
theorem dX4_dropRun_25 : decode cX4_dropRun 25 = .ok (.aload_n 0, 1) := by decide +kernel
theorem dX4_dropRun_26 : decode cX4_dropRun 26 = .ok (.iload_n 1, 1) := by decide +kernel
theorem dX4_dropRun_27 : decode cX4_dropRun 27 = .ok (.iconst 2, 1) := by decide +kernel
theorem dX4_dropRun_28 : decode cX4_dropRun 28 = .ok (.aload_n 0, 1) := by decide +kernel
theorem dX4_dropRun_29 : decode cX4_dropRun 29 = .ok (.iload_n 1, 1) := by decide +kernel
theorem dX4_dropRun_30 : decode cX4_dropRun 30 = .ok (.iconst 2, 1) := by decide +kernel
theorem dX4_dropRun_31 : decode cX4_dropRun 31 = .ok (.invokevirtual 40, 3) := by decide +kernel
theorem dX4_dropRun_34 : decode cX4_dropRun 34 = .ok (.iconst 1, 1) := by decide +kernel
theorem dX4_dropRun_35 : decode cX4_dropRun 35 = .ok (.isub, 1) := by decide +kernel
theorem dX4_dropRun_36 : decode cX4_dropRun 36 = .ok (.invokevirtual 63, 3) := by decide +kernel
theorem dX4_dropRun_39 : decode cX4_dropRun 39 = .ok (.return_, 1) := by decide +kernel
set_option maxRecDepth 20000 in
theorem ggX4_knot_X4_runAt : GoodIn wsX4_knot wsX4_runAt := goodIn_r _ [8] (by decide +kernel) (by decide +kernel)
set_option maxRecDepth 20000 in
theorem gX4_knot_X4_runAt : GoodIn wsX4_knot (wsV RX4 67 RX4 yX4_runAt wsX4_runAt) := goodIn_app (goodIn_of _ (by decide +kernel)) ggX4_knot_X4_runAt
set_option maxRecDepth 20000 in
theorem ggX4_knot_X4_pe : GoodIn wsX4_knot wsX4_pe := goodIn_r _ [12, 13, 26, 27, 28, 29, 30, 31, 32] (by decide +kernel) (by decide +kernel)
set_option maxRecDepth 20000 in
theorem gX4_knot_X4_pe : GoodIn wsX4_knot (wsV RX4 40 RX4 yX4_pe wsX4_pe) := goodIn_app (goodIn_of _ (by decide +kernel)) ggX4_knot_X4_pe
set_option maxRecDepth 20000 in
theorem ggX4_knot_X4_put : GoodIn wsX4_knot wsX4_put := goodIn_r _ [17, 13, 26, 27, 28, 29, 30, 31, 32] (by decide +kernel) (by decide +kernel)
set_option maxRecDepth 20000 in
theorem gX4_knot_X4_put : GoodIn wsX4_knot (wsV RX4 63 RX4 yX4_put wsX4_put) := goodIn_app (goodIn_of _ (by decide +kernel)) ggX4_knot_X4_put
set_option maxRecDepth 20000 in
theorem ggX4_knot_X4_dropRun : GoodIn wsX4_knot wsX4_dropRun := goodIn_r _ [21, 1, 22, 23, 24, 25, 4, 5, 6, 7, 8, 9, 10, 11, 12, 13, 14, 15, 16, 17, 26, 27, 28, 29, 30, 31, 32] (by decide +kernel) (by decide +kernel)
set_option maxRecDepth 20000 in
theorem gX4_knot_X4_dropRun : GoodIn wsX4_knot (wsV RX4 104 RX4 yX4_dropRun wsX4_dropRun) := goodIn_app (goodIn_of _ (by decide +kernel)) ggX4_knot_X4_dropRun
theorem dX4_knot_0 : decode cX4_knot 0 = .ok (.aload_n 0, 1) := by decide +kernel
theorem dX4_knot_1 : decode cX4_knot 1 = .ok (.getfield 19, 3) := by decide +kernel
theorem dX4_knot_4 : decode cX4_knot 4 = .ok (.aload_n 0, 1) := by decide +kernel
theorem dX4_knot_5 : decode cX4_knot 5 = .ok (.iload_n 1, 1) := by decide +kernel
theorem dX4_knot_6 : decode cX4_knot 6 = .ok (.iconst 0, 1) := by decide +kernel
theorem dX4_knot_7 : decode cX4_knot 7 = .ok (.invokevirtual 67, 3) := by decide +kernel
theorem dX4_knot_10 : decode cX4_knot 10 = .ok (.iaload, 1) := by decide +kernel
theorem dX4_knot_11 : decode cX4_knot 11 = .ok (.istore_n 2, 1) := by decide +kernel
theorem dX4_knot_12 : decode cX4_knot 12 = .ok (.iconst 0, 1) := by decide +kernel
theorem dX4_knot_13 : decode cX4_knot 13 = .ok (.istore_n 3, 1) := by decide +kernel
theorem dX4_knot_14 : decode cX4_knot 14 = .ok (.iload_n 3, 1) := by decide +kernel
theorem dX4_knot_15 : decode cX4_knot 15 = .ok (.bipush 8, 2) := by decide +kernel
theorem dX4_knot_17 : decode cX4_knot 17 = .ok (.if_icmp .ge 23, 3) := by decide +kernel
theorem dX4_knot_20 : decode cX4_knot 20 = .ok (.aload_n 0, 1) := by decide +kernel
theorem dX4_knot_21 : decode cX4_knot 21 = .ok (.getfield 22, 3) := by decide +kernel
theorem dX4_knot_24 : decode cX4_knot 24 = .ok (.iload_n 2, 1) := by decide +kernel
theorem dX4_knot_25 : decode cX4_knot 25 = .ok (.iload_n 3, 1) := by decide +kernel
theorem dX4_knot_26 : decode cX4_knot 26 = .ok (.iadd, 1) := by decide +kernel
theorem dX4_knot_27 : decode cX4_knot 27 = .ok (.bipush 8, 2) := by decide +kernel
theorem dX4_knot_29 : decode cX4_knot 29 = .ok (.irem, 1) := by decide +kernel
theorem dX4_knot_30 : decode cX4_knot 30 = .ok (.iaload, 1) := by decide +kernel
theorem dX4_knot_31 : decode cX4_knot 31 = .ok (.ifCond .ne 9, 3) := by decide +kernel
theorem dX4_knot_34 : decode cX4_knot 34 = .ok (.iinc 3 1, 3) := by decide +kernel
theorem dX4_knot_37 : decode cX4_knot 37 = .ok (.goto (-23), 3) := by decide +kernel
theorem dX4_knot_40 : decode cX4_knot 40 = .ok (.iload_n 3, 1) := by decide +kernel
theorem dX4_knot_41 : decode cX4_knot 41 = .ok (.bipush 8, 2) := by decide +kernel
theorem dX4_knot_43 : decode cX4_knot 43 = .ok (.if_icmp .ne 5, 3) := by decide +kernel
theorem dX4_knot_46 : decode cX4_knot 46 = .ok (.iconst 0, 1) := by decide +kernel
theorem dX4_knot_47 : decode cX4_knot 47 = .ok (.ireturn, 1) := by decide +kernel
theorem dX4_knot_48 : decode cX4_knot 48 = .ok (.iload_n 2, 1) := by decide +kernel
theorem dX4_knot_49 : decode cX4_knot 49 = .ok (.iload_n 3, 1) := by decide +kernel
theorem dX4_knot_50 : decode cX4_knot 50 = .ok (.iadd, 1) := by decide +kernel
theorem dX4_knot_51 : decode cX4_knot 51 = .ok (.bipush 8, 2) := by decide +kernel
theorem dX4_knot_53 : decode cX4_knot 53 = .ok (.irem, 1) := by decide +kernel
theorem dX4_knot_54 : decode cX4_knot 54 = .ok (.istore 4, 2) := by decide +kernel
theorem dX4_knot_56 : decode cX4_knot 56 = .ok (.aload_n 0, 1) := by decide +kernel
theorem dX4_knot_57 : decode cX4_knot 57 = .ok (.getfield 22, 3) := by decide +kernel
theorem dX4_knot_60 : decode cX4_knot 60 = .ok (.iload 4, 2) := by decide +kernel
theorem dX4_knot_62 : decode cX4_knot 62 = .ok (.dup2, 1) := by decide +kernel
theorem dX4_knot_63 : decode cX4_knot 63 = .ok (.iaload, 1) := by decide +kernel
theorem dX4_knot_64 : decode cX4_knot 64 = .ok (.iconst 1, 1) := by decide +kernel
theorem dX4_knot_65 : decode cX4_knot 65 = .ok (.isub, 1) := by decide +kernel
theorem dX4_knot_66 : decode cX4_knot 66 = .ok (.iastore, 1) := by decide +kernel
theorem dX4_knot_67 : decode cX4_knot 67 = .ok (.aload_n 0, 1) := by decide +kernel
theorem dX4_knot_68 : decode cX4_knot 68 = .ok (.getfield 13, 3) := by decide +kernel
theorem dX4_knot_71 : decode cX4_knot 71 = .ok (.bipush 60, 2) := by decide +kernel
theorem dX4_knot_73 : decode cX4_knot 73 = .ok (.iload_n 1, 1) := by decide +kernel
theorem dX4_knot_74 : decode cX4_knot 74 = .ok (.imul, 1) := by decide +kernel
theorem dX4_knot_75 : decode cX4_knot 75 = .ok (.aload_n 0, 1) := by decide +kernel
theorem dX4_knot_76 : decode cX4_knot 76 = .ok (.iload_n 1, 1) := by decide +kernel
theorem dX4_knot_77 : decode cX4_knot 77 = .ok (.iconst 1, 1) := by decide +kernel
theorem dX4_knot_78 : decode cX4_knot 78 = .ok (.invokevirtual 40, 3) := by decide +kernel
theorem dX4_knot_81 : decode cX4_knot 81 = .ok (.iadd, 1) := by decide +kernel
theorem dX4_knot_82 : decode cX4_knot 82 = .ok (.iload 4, 2) := by decide +kernel
theorem dX4_knot_84 : decode cX4_knot 84 = .ok (.iastore, 1) := by decide +kernel
theorem dX4_knot_85 : decode cX4_knot 85 = .ok (.aload_n 0, 1) := by decide +kernel
theorem dX4_knot_86 : decode cX4_knot 86 = .ok (.iload_n 1, 1) := by decide +kernel
theorem dX4_knot_87 : decode cX4_knot 87 = .ok (.iconst 1, 1) := by decide +kernel
theorem dX4_knot_88 : decode cX4_knot 88 = .ok (.aload_n 0, 1) := by decide +kernel
theorem dX4_knot_89 : decode cX4_knot 89 = .ok (.iload_n 1, 1) := by decide +kernel
theorem dX4_knot_90 : decode cX4_knot 90 = .ok (.iconst 1, 1) := by decide +kernel
theorem dX4_knot_91 : decode cX4_knot 91 = .ok (.invokevirtual 40, 3) := by decide +kernel
theorem dX4_knot_94 : decode cX4_knot 94 = .ok (.iconst 1, 1) := by decide +kernel
theorem dX4_knot_95 : decode cX4_knot 95 = .ok (.iadd, 1) := by decide +kernel
theorem dX4_knot_96 : decode cX4_knot 96 = .ok (.invokevirtual 63, 3) := by decide +kernel
theorem dX4_knot_99 : decode cX4_knot 99 = .ok (.iload_n 3, 1) := by decide +kernel
theorem dX4_knot_100 : decode cX4_knot 100 = .ok (.ifCond .le 17, 3) := by decide +kernel
theorem dX4_knot_103 : decode cX4_knot 103 = .ok (.aload_n 0, 1) := by decide +kernel
theorem dX4_knot_104 : decode cX4_knot 104 = .ok (.iload_n 1, 1) := by decide +kernel
theorem dX4_knot_105 : decode cX4_knot 105 = .ok (.iconst 3, 1) := by decide +kernel
theorem dX4_knot_106 : decode cX4_knot 106 = .ok (.aload_n 0, 1) := by decide +kernel
theorem dX4_knot_107 : decode cX4_knot 107 = .ok (.iload_n 1, 1) := by decide +kernel
theorem dX4_knot_108 : decode cX4_knot 108 = .ok (.iconst 3, 1) := by decide +kernel
theorem dX4_knot_109 : decode cX4_knot 109 = .ok (.invokevirtual 40, 3) := by decide +kernel
theorem dX4_knot_112 : decode cX4_knot 112 = .ok (.iconst 1, 1) := by decide +kernel
theorem dX4_knot_113 : decode cX4_knot 113 = .ok (.iadd, 1) := by decide +kernel
theorem dX4_knot_114 : decode cX4_knot 114 = .ok (.invokevirtual 63, 3) := by decide +kernel
theorem dX4_knot_117 : decode cX4_knot 117 = .ok (.aload_n 0, 1) := by decide +kernel
theorem dX4_knot_118 : decode cX4_knot 118 = .ok (.getfield 19, 3) := by decide +kernel
theorem dX4_knot_121 : decode cX4_knot 121 = .ok (.aload_n 0, 1) := by decide +kernel
theorem dX4_knot_122 : decode cX4_knot 122 = .ok (.iload_n 1, 1) := by decide +kernel
theorem dX4_knot_123 : decode cX4_knot 123 = .ok (.iconst 0, 1) := by decide +kernel
theorem dX4_knot_124 : decode cX4_knot 124 = .ok (.invokevirtual 67, 3) := by decide +kernel
theorem dX4_knot_127 : decode cX4_knot 127 = .ok (.iconst 1, 1) := by decide +kernel
theorem dX4_knot_128 : decode cX4_knot 128 = .ok (.iadd, 1) := by decide +kernel
theorem dX4_knot_129 : decode cX4_knot 129 = .ok (.dup2, 1) := by decide +kernel
theorem dX4_knot_130 : decode cX4_knot 130 = .ok (.iaload, 1) := by decide +kernel
theorem dX4_knot_131 : decode cX4_knot 131 = .ok (.iconst 1, 1) := by decide +kernel
theorem dX4_knot_132 : decode cX4_knot 132 = .ok (.isub, 1) := by decide +kernel
theorem dX4_knot_133 : decode cX4_knot 133 = .ok (.iastore, 1) := by decide +kernel
theorem dX4_knot_134 : decode cX4_knot 134 = .ok (.aload_n 0, 1) := by decide +kernel
theorem dX4_knot_135 : decode cX4_knot 135 = .ok (.getfield 19, 3) := by decide +kernel
theorem dX4_knot_138 : decode cX4_knot 138 = .ok (.aload_n 0, 1) := by decide +kernel
theorem dX4_knot_139 : decode cX4_knot 139 = .ok (.iload_n 1, 1) := by decide +kernel
theorem dX4_knot_140 : decode cX4_knot 140 = .ok (.iconst 0, 1) := by decide +kernel
theorem dX4_knot_141 : decode cX4_knot 141 = .ok (.invokevirtual 67, 3) := by decide +kernel
theorem dX4_knot_144 : decode cX4_knot 144 = .ok (.iconst 1, 1) := by decide +kernel
theorem dX4_knot_145 : decode cX4_knot 145 = .ok (.iadd, 1) := by decide +kernel
theorem dX4_knot_146 : decode cX4_knot 146 = .ok (.iaload, 1) := by decide +kernel
theorem dX4_knot_147 : decode cX4_knot 147 = .ok (.ifCond .ne 8, 3) := by decide +kernel
theorem dX4_knot_150 : decode cX4_knot 150 = .ok (.aload_n 0, 1) := by decide +kernel
theorem dX4_knot_151 : decode cX4_knot 151 = .ok (.iload_n 1, 1) := by decide +kernel
theorem dX4_knot_152 : decode cX4_knot 152 = .ok (.invokevirtual 104, 3) := by decide +kernel
theorem dX4_knot_155 : decode cX4_knot 155 = .ok (.iconst 1, 1) := by decide +kernel
theorem dX4_knot_156 : decode cX4_knot 156 = .ok (.ireturn, 1) := by decide +kernel
set_option maxRecDepth 20000 in
theorem ggX4_hoursOn_X4_pe : GoodIn wsX4_hoursOn wsX4_pe := goodIn_r _ [6, 7, 35, 36, 37, 38, 39, 40, 41] (by decide +kernel) (by decide +kernel)
set_option maxRecDepth 20000 in
theorem gX4_hoursOn_X4_pe : GoodIn wsX4_hoursOn (wsV RX4 40 RX4 yX4_pe wsX4_pe) := goodIn_app (goodIn_of _ (by decide +kernel)) ggX4_hoursOn_X4_pe
set_option maxRecDepth 20000 in
theorem ggX4_hoursOn_X4_isDone : GoodIn wsX4_hoursOn wsX4_isDone := goodIn_r _ [11, 2, 3, 4, 5, 6, 7, 35, 36, 37, 38, 39, 40, 41] (by decide +kernel) (by decide +kernel)
set_option maxRecDepth 20000 in
theorem gX4_hoursOn_X4_isDone : GoodIn wsX4_hoursOn (wsV RX4 108 RX4 yX4_isDone wsX4_isDone) := goodIn_app (goodIn_of _ (by decide +kernel)) ggX4_hoursOn_X4_isDone
set_option maxRecDepth 20000 in
theorem ggX4_hoursOn_X4_knot : GoodIn wsX4_hoursOn wsX4_knot := goodIn_r _ [15, 16, 17, 18, 19, 20, 21, 5, 22, 2, 3, 4, 6, 7, 23, 24, 25, 26, 27, 28, 29, 30, 31, 32, 33, 34, 35, 36, 37, 38, 39, 40, 41] (by decide +kernel) (by decide +kernel)
set_option maxRecDepth 20000 in
theorem gX4_hoursOn_X4_knot : GoodIn wsX4_hoursOn (wsV RX4 111 RX4 yX4_knot wsX4_knot) := goodIn_app (goodIn_of _ (by decide +kernel)) ggX4_hoursOn_X4_knot
theorem dX4_hoursOn_0 : decode cX4_hoursOn 0 = .ok (.iconst 0, 1) := by decide +kernel
theorem dX4_hoursOn_1 : decode cX4_hoursOn 1 = .ok (.istore_n 2, 1) := by decide +kernel
theorem dX4_hoursOn_2 : decode cX4_hoursOn 2 = .ok (.iload_n 2, 1) := by decide +kernel
theorem dX4_hoursOn_3 : decode cX4_hoursOn 3 = .ok (.iload_n 1, 1) := by decide +kernel
theorem dX4_hoursOn_4 : decode cX4_hoursOn 4 = .ok (.if_icmp .ge 67, 3) := by decide +kernel
theorem dX4_hoursOn_7 : decode cX4_hoursOn 7 = .ok (.iconst 0, 1) := by decide +kernel
theorem dX4_hoursOn_8 : decode cX4_hoursOn 8 = .ok (.istore_n 3, 1) := by decide +kernel
theorem dX4_hoursOn_9 : decode cX4_hoursOn 9 = .ok (.iload_n 3, 1) := by decide +kernel
theorem dX4_hoursOn_10 : decode cX4_hoursOn 10 = .ok (.iconst 2, 1) := by decide +kernel
theorem dX4_hoursOn_11 : decode cX4_hoursOn 11 = .ok (.if_icmp .ge 44, 3) := by decide +kernel
theorem dX4_hoursOn_14 : decode cX4_hoursOn 14 = .ok (.aload_n 0, 1) := by decide +kernel
theorem dX4_hoursOn_15 : decode cX4_hoursOn 15 = .ok (.iload_n 3, 1) := by decide +kernel
theorem dX4_hoursOn_16 : decode cX4_hoursOn 16 = .ok (.iconst 0, 1) := by decide +kernel
theorem dX4_hoursOn_17 : decode cX4_hoursOn 17 = .ok (.invokevirtual 40, 3) := by decide +kernel
theorem dX4_hoursOn_20 : decode cX4_hoursOn 20 = .ok (.istore 4, 2) := by decide +kernel
theorem dX4_hoursOn_22 : decode cX4_hoursOn 22 = .ok (.iload 4, 2) := by decide +kernel
theorem dX4_hoursOn_24 : decode cX4_hoursOn 24 = .ok (.ifCond .le 25, 3) := by decide +kernel
theorem dX4_hoursOn_27 : decode cX4_hoursOn 27 = .ok (.aload_n 0, 1) := by decide +kernel
theorem dX4_hoursOn_28 : decode cX4_hoursOn 28 = .ok (.iload_n 3, 1) := by decide +kernel
theorem dX4_hoursOn_29 : decode cX4_hoursOn 29 = .ok (.invokevirtual 108, 3) := by decide +kernel
theorem dX4_hoursOn_32 : decode cX4_hoursOn 32 = .ok (.ifCond .ne 17, 3) := by decide +kernel
theorem dX4_hoursOn_35 : decode cX4_hoursOn 35 = .ok (.aload_n 0, 1) := by decide +kernel
theorem dX4_hoursOn_36 : decode cX4_hoursOn 36 = .ok (.iload_n 3, 1) := by decide +kernel
theorem dX4_hoursOn_37 : decode cX4_hoursOn 37 = .ok (.invokevirtual 111, 3) := by decide +kernel
theorem dX4_hoursOn_40 : decode cX4_hoursOn 40 = .ok (.ifCond .eq 9, 3) := by decide +kernel
theorem dX4_hoursOn_43 : decode cX4_hoursOn 43 = .ok (.iinc 4 (-1), 3) := by decide +kernel
theorem dX4_hoursOn_46 : decode cX4_hoursOn 46 = .ok (.goto (-24), 3) := by decide +kernel
theorem dX4_hoursOn_49 : decode cX4_hoursOn 49 = .ok (.iinc 3 1, 3) := by decide +kernel
theorem dX4_hoursOn_52 : decode cX4_hoursOn 52 = .ok (.goto (-43), 3) := by decide +kernel
theorem dX4_hoursOn_55 : decode cX4_hoursOn 55 = .ok (.aload_n 0, 1) := by decide +kernel
theorem dX4_hoursOn_56 : decode cX4_hoursOn 56 = .ok (.getfield 25, 3) := by decide +kernel
theorem dX4_hoursOn_59 : decode cX4_hoursOn 59 = .ok (.iconst 0, 1) := by decide +kernel
theorem dX4_hoursOn_60 : decode cX4_hoursOn 60 = .ok (.dup2, 1) := by decide +kernel
theorem dX4_hoursOn_61 : decode cX4_hoursOn 61 = .ok (.iaload, 1) := by decide +kernel
theorem dX4_hoursOn_62 : decode cX4_hoursOn 62 = .ok (.iconst 1, 1) := by decide +kernel
theorem dX4_hoursOn_63 : decode cX4_hoursOn 63 = .ok (.iadd, 1) := by decide +kernel
theorem dX4_hoursOn_64 : decode cX4_hoursOn 64 = .ok (.iastore, 1) := by decide +kernel
theorem dX4_hoursOn_65 : decode cX4_hoursOn 65 = .ok (.iinc 2 1, 3) := by decide +kernel
theorem dX4_hoursOn_68 : decode cX4_hoursOn 68 = .ok (.goto (-66), 3) := by decide +kernel
theorem dX4_hoursOn_71 : decode cX4_hoursOn 71 = .ok (.return_, 1) := by decide +kernel
set_option maxRecDepth 20000 in
theorem ggX4_pass_X4_isIn : GoodIn wsX4_pass wsX4_isIn := goodIn_r _ [5] (by decide +kernel) (by decide +kernel)
set_option maxRecDepth 20000 in
theorem gX4_pass_X4_isIn : GoodIn wsX4_pass (va_wsS RX4 32 yX4_isIn wsX4_isIn) := goodIn_app (goodIn_of _ (by decide +kernel)) ggX4_pass_X4_isIn
set_option maxRecDepth 20000 in
theorem ggX4_pass_X4_fail : GoodIn wsX4_pass wsX4_fail := goodIn_r _ [9, 1, 75, 76, 77, 78, 79, 80, 81] (by decide +kernel) (by decide +kernel)
set_option maxRecDepth 20000 in
theorem gX4_pass_X4_fail : GoodIn wsX4_pass (wsV RX4 47 RX4 yX4_fail wsX4_fail) := goodIn_app (goodIn_of _ (by decide +kernel)) ggX4_pass_X4_fail
set_option maxRecDepth 20000 in
theorem ggX4_pass_X4_counted : GoodIn wsX4_pass wsX4_counted := goodIn_r _ [13, 14, 15, 16, 17, 18, 4, 19, 20, 21, 22, 23, 24, 25, 26, 27, 28, 29, 30, 31, 32, 33, 34, 35, 36, 37, 38, 39, 40, 41, 42, 43, 44, 45, 75, 76, 77, 78, 79, 80, 81] (by decide +kernel) (by decide +kernel)
set_option maxRecDepth 20000 in
theorem gX4_pass_X4_counted : GoodIn wsX4_pass (wsV RX4 92 RX4 yX4_counted wsX4_counted) := goodIn_app (goodIn_of _ (by decide +kernel)) ggX4_pass_X4_counted
set_option maxRecDepth 20000 in
theorem ggX4_pass_X4_hoursOn : GoodIn wsX4_pass wsX4_hoursOn := goodIn_r _ [49, 14, 16, 17, 18, 4, 19, 20, 50, 51, 52, 53, 54, 55, 56, 57, 58, 15, 25, 59, 60, 61, 62, 63, 64, 65, 66, 67, 68, 69, 70, 71, 72, 73, 74, 75, 76, 77, 78, 79, 80, 81] (by decide +kernel) (by decide +kernel)
set_option maxRecDepth 20000 in
theorem gX4_pass_X4_hoursOn : GoodIn wsX4_pass (wsV RX4 114 RX4 yX4_hoursOn wsX4_hoursOn) := goodIn_app (goodIn_of _ (by decide +kernel)) ggX4_pass_X4_hoursOn
theorem dX4_pass_0 : decode cX4_pass 0 = .ok (.aload_n 0, 1) := by decide +kernel
theorem dX4_pass_1 : decode cX4_pass 1 = .ok (.iconst 0, 1) := by decide +kernel
theorem dX4_pass_2 : decode cX4_pass 2 = .ok (.putfield 28, 3) := by decide +kernel
theorem dX4_pass_5 : decode cX4_pass 5 = .ok (.iload_n 1, 1) := by decide +kernel
theorem dX4_pass_6 : decode cX4_pass 6 = .ok (.iconst 1, 1) := by decide +kernel
theorem dX4_pass_7 : decode cX4_pass 7 = .ok (.bipush 60, 2) := by decide +kernel
theorem dX4_pass_9 : decode cX4_pass 9 = .ok (.invokestatic 32, 3) := by decide +kernel
theorem dX4_pass_12 : decode cX4_pass 12 = .ok (.ifCond .ne 9, 3) := by decide +kernel
theorem dX4_pass_15 : decode cX4_pass 15 = .ok (.aload_n 0, 1) := by decide +kernel
theorem dX4_pass_16 : decode cX4_pass 16 = .ok (.iconst 1, 1) := by decide +kernel
theorem dX4_pass_17 : decode cX4_pass 17 = .ok (.invokevirtual 47, 3) := by decide +kernel
theorem dX4_pass_20 : decode cX4_pass 20 = .ok (.ireturn, 1) := by decide +kernel
theorem dX4_pass_21 : decode cX4_pass 21 = .ok (.aload_n 0, 1) := by decide +kernel
theorem dX4_pass_22 : decode cX4_pass 22 = .ok (.iconst 1, 1) := by decide +kernel
theorem dX4_pass_23 : decode cX4_pass 23 = .ok (.invokevirtual 92, 3) := by decide +kernel
theorem dX4_pass_26 : decode cX4_pass 26 = .ok (.istore_n 2, 1) := by decide +kernel
theorem dX4_pass_27 : decode cX4_pass 27 = .ok (.aload_n 0, 1) := by decide +kernel
theorem dX4_pass_28 : decode cX4_pass 28 = .ok (.iload_n 1, 1) := by decide +kernel
theorem dX4_pass_29 : decode cX4_pass 29 = .ok (.invokevirtual 114, 3) := by decide +kernel
theorem dX4_pass_32 : decode cX4_pass 32 = .ok (.aload_n 0, 1) := by decide +kernel
theorem dX4_pass_33 : decode cX4_pass 33 = .ok (.iconst 1, 1) := by decide +kernel
theorem dX4_pass_34 : decode cX4_pass 34 = .ok (.invokevirtual 92, 3) := by decide +kernel
theorem dX4_pass_37 : decode cX4_pass 37 = .ok (.iload_n 2, 1) := by decide +kernel
theorem dX4_pass_38 : decode cX4_pass 38 = .ok (.isub, 1) := by decide +kernel
theorem dX4_pass_39 : decode cX4_pass 39 = .ok (.ireturn, 1) := by decide +kernel
theorem dX4_kept_0 : decode cX4_kept 0 = .ok (.iconst 5, 1) := by decide +kernel
theorem dX4_kept_1 : decode cX4_kept 1 = .ok (.anewarray 117, 3) := by decide +kernel
theorem dX4_kept_4 : decode cX4_kept 4 = .ok (.dup, 1) := by decide +kernel
theorem dX4_kept_5 : decode cX4_kept 5 = .ok (.iconst 0, 1) := by decide +kernel
theorem dX4_kept_6 : decode cX4_kept 6 = .ok (.aload_n 0, 1) := by decide +kernel
theorem dX4_kept_7 : decode cX4_kept 7 = .ok (.getfield 7, 3) := by decide +kernel
theorem dX4_kept_10 : decode cX4_kept 10 = .ok (.invokevirtual 118, 3) := by decide +kernel
theorem dX4_kept_13 : decode cX4_kept 13 = .ok (.checkcast 117, 3) := by decide +kernel
theorem dX4_kept_16 : decode cX4_kept 16 = .ok (.aastore, 1) := by decide +kernel
theorem dX4_kept_17 : decode cX4_kept 17 = .ok (.dup, 1) := by decide +kernel
theorem dX4_kept_18 : decode cX4_kept 18 = .ok (.iconst 1, 1) := by decide +kernel
theorem dX4_kept_19 : decode cX4_kept 19 = .ok (.aload_n 0, 1) := by decide +kernel
theorem dX4_kept_20 : decode cX4_kept 20 = .ok (.getfield 13, 3) := by decide +kernel
theorem dX4_kept_23 : decode cX4_kept 23 = .ok (.invokevirtual 118, 3) := by decide +kernel
theorem dX4_kept_26 : decode cX4_kept 26 = .ok (.checkcast 117, 3) := by decide +kernel
theorem dX4_kept_29 : decode cX4_kept 29 = .ok (.aastore, 1) := by decide +kernel
theorem dX4_kept_30 : decode cX4_kept 30 = .ok (.dup, 1) := by decide +kernel
theorem dX4_kept_31 : decode cX4_kept 31 = .ok (.iconst 2, 1) := by decide +kernel
theorem dX4_kept_32 : decode cX4_kept 32 = .ok (.aload_n 0, 1) := by decide +kernel
theorem dX4_kept_33 : decode cX4_kept 33 = .ok (.getfield 19, 3) := by decide +kernel
theorem dX4_kept_36 : decode cX4_kept 36 = .ok (.invokevirtual 118, 3) := by decide +kernel
theorem dX4_kept_39 : decode cX4_kept 39 = .ok (.checkcast 117, 3) := by decide +kernel
theorem dX4_kept_42 : decode cX4_kept 42 = .ok (.aastore, 1) := by decide +kernel
theorem dX4_kept_43 : decode cX4_kept 43 = .ok (.dup, 1) := by decide +kernel
theorem dX4_kept_44 : decode cX4_kept 44 = .ok (.iconst 3, 1) := by decide +kernel
theorem dX4_kept_45 : decode cX4_kept 45 = .ok (.aload_n 0, 1) := by decide +kernel
theorem dX4_kept_46 : decode cX4_kept 46 = .ok (.getfield 22, 3) := by decide +kernel
theorem dX4_kept_49 : decode cX4_kept 49 = .ok (.invokevirtual 118, 3) := by decide +kernel
theorem dX4_kept_52 : decode cX4_kept 52 = .ok (.checkcast 117, 3) := by decide +kernel
theorem dX4_kept_55 : decode cX4_kept 55 = .ok (.aastore, 1) := by decide +kernel
theorem dX4_kept_56 : decode cX4_kept 56 = .ok (.dup, 1) := by decide +kernel
theorem dX4_kept_57 : decode cX4_kept 57 = .ok (.iconst 4, 1) := by decide +kernel
theorem dX4_kept_58 : decode cX4_kept 58 = .ok (.aload_n 0, 1) := by decide +kernel
theorem dX4_kept_59 : decode cX4_kept 59 = .ok (.getfield 25, 3) := by decide +kernel
theorem dX4_kept_62 : decode cX4_kept 62 = .ok (.invokevirtual 118, 3) := by decide +kernel
theorem dX4_kept_65 : decode cX4_kept 65 = .ok (.checkcast 117, 3) := by decide +kernel
theorem dX4_kept_68 : decode cX4_kept 68 = .ok (.aastore, 1) := by decide +kernel
theorem dX4_kept_69 : decode cX4_kept 69 = .ok (.areturn, 1) := by decide +kernel
theorem dX4_bringBack_0 : decode cX4_bringBack 0 = .ok (.iconst 5, 1) := by decide +kernel
theorem dX4_bringBack_1 : decode cX4_bringBack 1 = .ok (.anewarray 117, 3) := by decide +kernel
theorem dX4_bringBack_4 : decode cX4_bringBack 4 = .ok (.dup, 1) := by decide +kernel
theorem dX4_bringBack_5 : decode cX4_bringBack 5 = .ok (.iconst 0, 1) := by decide +kernel
theorem dX4_bringBack_6 : decode cX4_bringBack 6 = .ok (.aload_n 0, 1) := by decide +kernel
theorem dX4_bringBack_7 : decode cX4_bringBack 7 = .ok (.getfield 7, 3) := by decide +kernel
theorem dX4_bringBack_10 : decode cX4_bringBack 10 = .ok (.aastore, 1) := by decide +kernel
theorem dX4_bringBack_11 : decode cX4_bringBack 11 = .ok (.dup, 1) := by decide +kernel
theorem dX4_bringBack_12 : decode cX4_bringBack 12 = .ok (.iconst 1, 1) := by decide +kernel
theorem dX4_bringBack_13 : decode cX4_bringBack 13 = .ok (.aload_n 0, 1) := by decide +kernel
theorem dX4_bringBack_14 : decode cX4_bringBack 14 = .ok (.getfield 13, 3) := by decide +kernel
theorem dX4_bringBack_17 : decode cX4_bringBack 17 = .ok (.aastore, 1) := by decide +kernel
theorem dX4_bringBack_18 : decode cX4_bringBack 18 = .ok (.dup, 1) := by decide +kernel
theorem dX4_bringBack_19 : decode cX4_bringBack 19 = .ok (.iconst 2, 1) := by decide +kernel
theorem dX4_bringBack_20 : decode cX4_bringBack 20 = .ok (.aload_n 0, 1) := by decide +kernel
theorem dX4_bringBack_21 : decode cX4_bringBack 21 = .ok (.getfield 19, 3) := by decide +kernel
theorem dX4_bringBack_24 : decode cX4_bringBack 24 = .ok (.aastore, 1) := by decide +kernel
theorem dX4_bringBack_25 : decode cX4_bringBack 25 = .ok (.dup, 1) := by decide +kernel
theorem dX4_bringBack_26 : decode cX4_bringBack 26 = .ok (.iconst 3, 1) := by decide +kernel
theorem dX4_bringBack_27 : decode cX4_bringBack 27 = .ok (.aload_n 0, 1) := by decide +kernel
theorem dX4_bringBack_28 : decode cX4_bringBack 28 = .ok (.getfield 22, 3) := by decide +kernel
theorem dX4_bringBack_31 : decode cX4_bringBack 31 = .ok (.aastore, 1) := by decide +kernel
theorem dX4_bringBack_32 : decode cX4_bringBack 32 = .ok (.dup, 1) := by decide +kernel
theorem dX4_bringBack_33 : decode cX4_bringBack 33 = .ok (.iconst 4, 1) := by decide +kernel
theorem dX4_bringBack_34 : decode cX4_bringBack 34 = .ok (.aload_n 0, 1) := by decide +kernel
theorem dX4_bringBack_35 : decode cX4_bringBack 35 = .ok (.getfield 25, 3) := by decide +kernel
theorem dX4_bringBack_38 : decode cX4_bringBack 38 = .ok (.aastore, 1) := by decide +kernel
theorem dX4_bringBack_39 : decode cX4_bringBack 39 = .ok (.astore_n 2, 1) := by decide +kernel
theorem dX4_bringBack_40 : decode cX4_bringBack 40 = .ok (.iconst 0, 1) := by decide +kernel
theorem dX4_bringBack_41 : decode cX4_bringBack 41 = .ok (.istore_n 3, 1) := by decide +kernel
theorem dX4_bringBack_42 : decode cX4_bringBack 42 = .ok (.iload_n 3, 1) := by decide +kernel
theorem dX4_bringBack_43 : decode cX4_bringBack 43 = .ok (.aload_n 2, 1) := by decide +kernel
theorem dX4_bringBack_44 : decode cX4_bringBack 44 = .ok (.arraylength, 1) := by decide +kernel
theorem dX4_bringBack_45 : decode cX4_bringBack 45 = .ok (.if_icmp .ge 24, 3) := by decide +kernel
theorem dX4_bringBack_48 : decode cX4_bringBack 48 = .ok (.aload_n 1, 1) := by decide +kernel
theorem dX4_bringBack_49 : decode cX4_bringBack 49 = .ok (.iload_n 3, 1) := by decide +kernel
theorem dX4_bringBack_50 : decode cX4_bringBack 50 = .ok (.aaload, 1) := by decide +kernel
theorem dX4_bringBack_51 : decode cX4_bringBack 51 = .ok (.iconst 0, 1) := by decide +kernel
theorem dX4_bringBack_52 : decode cX4_bringBack 52 = .ok (.aload_n 2, 1) := by decide +kernel
theorem dX4_bringBack_53 : decode cX4_bringBack 53 = .ok (.iload_n 3, 1) := by decide +kernel
theorem dX4_bringBack_54 : decode cX4_bringBack 54 = .ok (.aaload, 1) := by decide +kernel
theorem dX4_bringBack_55 : decode cX4_bringBack 55 = .ok (.iconst 0, 1) := by decide +kernel
theorem dX4_bringBack_56 : decode cX4_bringBack 56 = .ok (.aload_n 2, 1) := by decide +kernel
theorem dX4_bringBack_57 : decode cX4_bringBack 57 = .ok (.iload_n 3, 1) := by decide +kernel
theorem dX4_bringBack_58 : decode cX4_bringBack 58 = .ok (.aaload, 1) := by decide +kernel
theorem dX4_bringBack_59 : decode cX4_bringBack 59 = .ok (.arraylength, 1) := by decide +kernel
theorem dX4_bringBack_60 : decode cX4_bringBack 60 = .ok (.invokestatic 98, 3) := by decide +kernel
theorem dX4_bringBack_63 : decode cX4_bringBack 63 = .ok (.iinc 3 1, 3) := by decide +kernel
theorem dX4_bringBack_66 : decode cX4_bringBack 66 = .ok (.goto (-24), 3) := by decide +kernel
theorem dX4_bringBack_69 : decode cX4_bringBack 69 = .ok (.return_, 1) := by decide +kernel
set_option maxRecDepth 20000 in
theorem ggX4_done_X4_isWeaver : GoodIn wsX4_done wsX4_isWeaver := goodIn_r _ [5, 6, 7, 4, 8] (by decide +kernel) (by decide +kernel)
set_option maxRecDepth 20000 in
theorem gX4_done_X4_isWeaver : GoodIn wsX4_done (va_wsS RX4 60 yX4_isWeaver wsX4_isWeaver) := goodIn_app (goodIn_of _ (by decide +kernel)) ggX4_done_X4_isWeaver
set_option maxRecDepth 20000 in
theorem ggX4_done_X4_fail : GoodIn wsX4_done wsX4_fail := goodIn_r _ [12, 1, 64, 65, 66, 67, 68, 69, 70] (by decide +kernel) (by decide +kernel)
set_option maxRecDepth 20000 in
theorem gX4_done_X4_fail : GoodIn wsX4_done (wsV RX4 47 RX4 yX4_fail wsX4_fail) := goodIn_app (goodIn_of _ (by decide +kernel)) ggX4_done_X4_fail
set_option maxRecDepth 20000 in
theorem ggX4_done_X4_kept : GoodIn wsX4_done wsX4_kept := goodIn_r _ [16, 17, 18, 19, 20, 21, 22, 23, 24, 25, 26, 27, 64, 65, 66, 67, 68, 69, 70] (by decide +kernel) (by decide +kernel)
set_option maxRecDepth 20000 in
theorem gX4_done_X4_kept : GoodIn wsX4_done (wsV RX4 122 RX4 yX4_kept wsX4_kept) := goodIn_app (goodIn_of _ (by decide +kernel)) ggX4_done_X4_kept
set_option maxRecDepth 20000 in
theorem ggX4_done_X4_isDone : GoodIn wsX4_done wsX4_isDone := goodIn_r _ [31, 32, 33, 34, 4, 35, 18, 64, 65, 66, 67, 68, 69, 70] (by decide +kernel) (by decide +kernel)
set_option maxRecDepth 20000 in
theorem gX4_done_X4_isDone : GoodIn wsX4_done (wsV RX4 108 RX4 yX4_isDone wsX4_isDone) := goodIn_app (goodIn_of _ (by decide +kernel)) ggX4_done_X4_isDone
set_option maxRecDepth 20000 in
theorem ggX4_done_X4_hoursOn : GoodIn wsX4_done wsX4_hoursOn := goodIn_r _ [39, 27, 32, 33, 34, 4, 35, 18, 28, 29, 30, 31, 40, 41, 42, 43, 25, 26, 24, 44, 45, 46, 47, 48, 49, 50, 51, 52, 53, 54, 55, 56, 57, 58, 59, 64, 65, 66, 67, 68, 69, 70] (by decide +kernel) (by decide +kernel)
set_option maxRecDepth 20000 in
theorem gX4_done_X4_hoursOn : GoodIn wsX4_done (wsV RX4 114 RX4 yX4_hoursOn wsX4_hoursOn) := goodIn_app (goodIn_of _ (by decide +kernel)) ggX4_done_X4_hoursOn
set_option maxRecDepth 20000 in
theorem ggX4_done_X4_bringBack : GoodIn wsX4_done wsX4_bringBack := goodIn_r _ [63, 17, 18, 24, 25, 26, 27, 56, 57, 58, 59, 64, 65, 66, 67, 68, 69, 70] (by decide +kernel) (by decide +kernel)
set_option maxRecDepth 20000 in
theorem gX4_done_X4_bringBack : GoodIn wsX4_done (wsV RX4 126 RX4 yX4_bringBack wsX4_bringBack) := goodIn_app (goodIn_of _ (by decide +kernel)) ggX4_done_X4_bringBack
theorem dX4_done_0 : decode cX4_done 0 = .ok (.aload_n 0, 1) := by decide +kernel
theorem dX4_done_1 : decode cX4_done 1 = .ok (.iconst 0, 1) := by decide +kernel
theorem dX4_done_2 : decode cX4_done 2 = .ok (.putfield 28, 3) := by decide +kernel
theorem dX4_done_5 : decode cX4_done 5 = .ok (.iload_n 1, 1) := by decide +kernel
theorem dX4_done_6 : decode cX4_done 6 = .ok (.invokestatic 60, 3) := by decide +kernel
theorem dX4_done_9 : decode cX4_done 9 = .ok (.ifCond .ne 9, 3) := by decide +kernel
theorem dX4_done_12 : decode cX4_done 12 = .ok (.aload_n 0, 1) := by decide +kernel
theorem dX4_done_13 : decode cX4_done 13 = .ok (.iconst 1, 1) := by decide +kernel
theorem dX4_done_14 : decode cX4_done 14 = .ok (.invokevirtual 47, 3) := by decide +kernel
theorem dX4_done_17 : decode cX4_done 17 = .ok (.ireturn, 1) := by decide +kernel
theorem dX4_done_18 : decode cX4_done 18 = .ok (.aload_n 0, 1) := by decide +kernel
theorem dX4_done_19 : decode cX4_done 19 = .ok (.invokevirtual 122, 3) := by decide +kernel
theorem dX4_done_22 : decode cX4_done 22 = .ok (.astore_n 2, 1) := by decide +kernel
theorem dX4_done_23 : decode cX4_done 23 = .ok (.iconst 0, 1) := by decide +kernel
theorem dX4_done_24 : decode cX4_done 24 = .ok (.istore_n 3, 1) := by decide +kernel
theorem dX4_done_25 : decode cX4_done 25 = .ok (.iload_n 3, 1) := by decide +kernel
theorem dX4_done_26 : decode cX4_done 26 = .ok (.bipush 100, 2) := by decide +kernel
theorem dX4_done_28 : decode cX4_done 28 = .ok (.if_icmp .ge 22, 3) := by decide +kernel
theorem dX4_done_31 : decode cX4_done 31 = .ok (.aload_n 0, 1) := by decide +kernel
theorem dX4_done_32 : decode cX4_done 32 = .ok (.iload_n 1, 1) := by decide +kernel
theorem dX4_done_33 : decode cX4_done 33 = .ok (.invokevirtual 108, 3) := by decide +kernel
theorem dX4_done_36 : decode cX4_done 36 = .ok (.ifCond .ne 14, 3) := by decide +kernel
theorem dX4_done_39 : decode cX4_done 39 = .ok (.aload_n 0, 1) := by decide +kernel
theorem dX4_done_40 : decode cX4_done 40 = .ok (.iconst 1, 1) := by decide +kernel
theorem dX4_done_41 : decode cX4_done 41 = .ok (.invokevirtual 114, 3) := by decide +kernel
theorem dX4_done_44 : decode cX4_done 44 = .ok (.iinc 3 1, 3) := by decide +kernel
theorem dX4_done_47 : decode cX4_done 47 = .ok (.goto (-22), 3) := by decide +kernel
theorem dX4_done_50 : decode cX4_done 50 = .ok (.aload_n 0, 1) := by decide +kernel
theorem dX4_done_51 : decode cX4_done 51 = .ok (.iload_n 1, 1) := by decide +kernel
theorem dX4_done_52 : decode cX4_done 52 = .ok (.invokevirtual 108, 3) := by decide +kernel
theorem dX4_done_55 : decode cX4_done 55 = .ok (.ifCond .ne 5, 3) := by decide +kernel
theorem dX4_done_58 : decode cX4_done 58 = .ok (.iconst (-1), 1) := by decide +kernel
theorem dX4_done_59 : decode cX4_done 59 = .ok (.istore_n 3, 1) := by decide +kernel
theorem dX4_done_60 : decode cX4_done 60 = .ok (.aload_n 0, 1) := by decide +kernel
theorem dX4_done_61 : decode cX4_done 61 = .ok (.aload_n 2, 1) := by decide +kernel
theorem dX4_done_62 : decode cX4_done 62 = .ok (.invokevirtual 126, 3) := by decide +kernel
theorem dX4_done_65 : decode cX4_done 65 = .ok (.iload_n 3, 1) := by decide +kernel
theorem dX4_done_66 : decode cX4_done 66 = .ok (.ireturn, 1) := by decide +kernel
set_option maxRecDepth 20000 in
theorem ggX4_foresee_X4_isIn : GoodIn wsX4_foresee wsX4_isIn := goodIn_r _ [5] (by decide +kernel) (by decide +kernel)
set_option maxRecDepth 20000 in
theorem gX4_foresee_X4_isIn : GoodIn wsX4_foresee (va_wsS RX4 32 yX4_isIn wsX4_isIn) := goodIn_app (goodIn_of _ (by decide +kernel)) ggX4_foresee_X4_isIn
set_option maxRecDepth 20000 in
theorem ggX4_foresee_X4_fail : GoodIn wsX4_foresee wsX4_fail := goodIn_r _ [9, 1, 89, 90, 91, 92, 93, 94, 95] (by decide +kernel) (by decide +kernel)
set_option maxRecDepth 20000 in
theorem gX4_foresee_X4_fail : GoodIn wsX4_foresee (wsV RX4 47 RX4 yX4_fail wsX4_fail) := goodIn_app (goodIn_of _ (by decide +kernel)) ggX4_foresee_X4_fail
set_option maxRecDepth 20000 in
theorem ggX4_foresee_X4_kept : GoodIn wsX4_foresee wsX4_kept := goodIn_r _ [13, 14, 15, 16, 17, 18, 19, 20, 21, 22, 23, 24, 89, 90, 91, 92, 93, 94, 95] (by decide +kernel) (by decide +kernel)
set_option maxRecDepth 20000 in
theorem gX4_foresee_X4_kept : GoodIn wsX4_foresee (wsV RX4 122 RX4 yX4_kept wsX4_kept) := goodIn_app (goodIn_of _ (by decide +kernel)) ggX4_foresee_X4_kept
set_option maxRecDepth 20000 in
theorem ggX4_foresee_X4_hoursOn : GoodIn wsX4_foresee wsX4_hoursOn := goodIn_r _ [28, 24, 29, 30, 31, 4, 32, 15, 33, 34, 35, 36, 37, 38, 39, 40, 22, 23, 21, 41, 42, 43, 44, 45, 46, 47, 48, 49, 50, 51, 52, 53, 54, 55, 56, 89, 90, 91, 92, 93, 94, 95] (by decide +kernel) (by decide +kernel)
set_option maxRecDepth 20000 in
theorem gX4_foresee_X4_hoursOn : GoodIn wsX4_foresee (wsV RX4 114 RX4 yX4_hoursOn wsX4_hoursOn) := goodIn_app (goodIn_of _ (by decide +kernel)) ggX4_foresee_X4_hoursOn
set_option maxRecDepth 20000 in
theorem ggX4_foresee_X4_counted : GoodIn wsX4_foresee wsX4_counted := goodIn_r _ [60, 24, 23, 29, 30, 31, 4, 32, 15, 61, 62, 63, 64, 21, 65, 66, 67, 68, 69, 70, 71, 72, 73, 74, 75, 76, 77, 78, 79, 80, 81, 82, 83, 84, 89, 90, 91, 92, 93, 94, 95] (by decide +kernel) (by decide +kernel)
set_option maxRecDepth 20000 in
theorem gX4_foresee_X4_counted : GoodIn wsX4_foresee (wsV RX4 92 RX4 yX4_counted wsX4_counted) := goodIn_app (goodIn_of _ (by decide +kernel)) ggX4_foresee_X4_counted
set_option maxRecDepth 20000 in
theorem ggX4_foresee_X4_bringBack : GoodIn wsX4_foresee wsX4_bringBack := goodIn_r _ [88, 14, 15, 21, 22, 23, 24, 53, 54, 55, 56, 89, 90, 91, 92, 93, 94, 95] (by decide +kernel) (by decide +kernel)
set_option maxRecDepth 20000 in
theorem gX4_foresee_X4_bringBack : GoodIn wsX4_foresee (wsV RX4 126 RX4 yX4_bringBack wsX4_bringBack) := goodIn_app (goodIn_of _ (by decide +kernel)) ggX4_foresee_X4_bringBack
theorem dX4_foresee_0 : decode cX4_foresee 0 = .ok (.aload_n 0, 1) := by decide +kernel
theorem dX4_foresee_1 : decode cX4_foresee 1 = .ok (.iconst 0, 1) := by decide +kernel
theorem dX4_foresee_2 : decode cX4_foresee 2 = .ok (.putfield 28, 3) := by decide +kernel
theorem dX4_foresee_5 : decode cX4_foresee 5 = .ok (.iload_n 1, 1) := by decide +kernel
theorem dX4_foresee_6 : decode cX4_foresee 6 = .ok (.iconst 1, 1) := by decide +kernel
theorem dX4_foresee_7 : decode cX4_foresee 7 = .ok (.bipush 60, 2) := by decide +kernel
theorem dX4_foresee_9 : decode cX4_foresee 9 = .ok (.invokestatic 32, 3) := by decide +kernel
theorem dX4_foresee_12 : decode cX4_foresee 12 = .ok (.ifCond .ne 9, 3) := by decide +kernel
theorem dX4_foresee_15 : decode cX4_foresee 15 = .ok (.aload_n 0, 1) := by decide +kernel
theorem dX4_foresee_16 : decode cX4_foresee 16 = .ok (.iconst 1, 1) := by decide +kernel
theorem dX4_foresee_17 : decode cX4_foresee 17 = .ok (.invokevirtual 47, 3) := by decide +kernel
theorem dX4_foresee_20 : decode cX4_foresee 20 = .ok (.ireturn, 1) := by decide +kernel
theorem dX4_foresee_21 : decode cX4_foresee 21 = .ok (.iload_n 2, 1) := by decide +kernel
theorem dX4_foresee_22 : decode cX4_foresee 22 = .ok (.iconst 0, 1) := by decide +kernel
theorem dX4_foresee_23 : decode cX4_foresee 23 = .ok (.iconst 2, 1) := by decide +kernel
theorem dX4_foresee_24 : decode cX4_foresee 24 = .ok (.invokestatic 32, 3) := by decide +kernel
theorem dX4_foresee_27 : decode cX4_foresee 27 = .ok (.ifCond .ne 9, 3) := by decide +kernel
theorem dX4_foresee_30 : decode cX4_foresee 30 = .ok (.aload_n 0, 1) := by decide +kernel
theorem dX4_foresee_31 : decode cX4_foresee 31 = .ok (.iconst 2, 1) := by decide +kernel
theorem dX4_foresee_32 : decode cX4_foresee 32 = .ok (.invokevirtual 47, 3) := by decide +kernel
theorem dX4_foresee_35 : decode cX4_foresee 35 = .ok (.ireturn, 1) := by decide +kernel
theorem dX4_foresee_36 : decode cX4_foresee 36 = .ok (.aload_n 0, 1) := by decide +kernel
theorem dX4_foresee_37 : decode cX4_foresee 37 = .ok (.invokevirtual 122, 3) := by decide +kernel
theorem dX4_foresee_40 : decode cX4_foresee 40 = .ok (.astore_n 3, 1) := by decide +kernel
theorem dX4_foresee_41 : decode cX4_foresee 41 = .ok (.aload_n 0, 1) := by decide +kernel
theorem dX4_foresee_42 : decode cX4_foresee 42 = .ok (.iload_n 1, 1) := by decide +kernel
theorem dX4_foresee_43 : decode cX4_foresee 43 = .ok (.invokevirtual 114, 3) := by decide +kernel
theorem dX4_foresee_46 : decode cX4_foresee 46 = .ok (.aload_n 0, 1) := by decide +kernel
theorem dX4_foresee_47 : decode cX4_foresee 47 = .ok (.iload_n 2, 1) := by decide +kernel
theorem dX4_foresee_48 : decode cX4_foresee 48 = .ok (.ifCond .ne 7, 3) := by decide +kernel
theorem dX4_foresee_51 : decode cX4_foresee 51 = .ok (.iconst 1, 1) := by decide +kernel
theorem dX4_foresee_52 : decode cX4_foresee 52 = .ok (.goto 13, 3) := by decide +kernel
theorem dX4_foresee_55 : decode cX4_foresee 55 = .ok (.iload_n 2, 1) := by decide +kernel
theorem dX4_foresee_56 : decode cX4_foresee 56 = .ok (.iconst 1, 1) := by decide +kernel
theorem dX4_foresee_57 : decode cX4_foresee 57 = .ok (.if_icmp .ne 7, 3) := by decide +kernel
theorem dX4_foresee_60 : decode cX4_foresee 60 = .ok (.iconst 2, 1) := by decide +kernel
theorem dX4_foresee_61 : decode cX4_foresee 61 = .ok (.goto 4, 3) := by decide +kernel
theorem dX4_foresee_64 : decode cX4_foresee 64 = .ok (.iconst 4, 1) := by decide +kernel
theorem dX4_foresee_65 : decode cX4_foresee 65 = .ok (.invokevirtual 92, 3) := by decide +kernel
theorem dX4_foresee_68 : decode cX4_foresee 68 = .ok (.istore 4, 2) := by decide +kernel
theorem dX4_foresee_70 : decode cX4_foresee 70 = .ok (.aload_n 0, 1) := by decide +kernel
theorem dX4_foresee_71 : decode cX4_foresee 71 = .ok (.aload_n 3, 1) := by decide +kernel
theorem dX4_foresee_72 : decode cX4_foresee 72 = .ok (.invokevirtual 126, 3) := by decide +kernel
theorem dX4_foresee_75 : decode cX4_foresee 75 = .ok (.iload 4, 2) := by decide +kernel
theorem dX4_foresee_77 : decode cX4_foresee 77 = .ok (.ireturn, 1) := by decide +kernel
set_option maxRecDepth 20000 in
theorem ggX4_share_X4_counted : GoodIn wsX4_share wsX4_counted := goodIn_r _ [6, 7, 8, 9, 10, 11, 5, 12, 13, 14, 15, 16, 17, 18, 19, 20, 21, 22, 23, 24, 25, 26, 27, 28, 29, 30, 31, 32, 33, 34, 35, 36, 37, 38, 39, 40, 41, 42, 43, 44, 45] (by decide +kernel) (by decide +kernel)
set_option maxRecDepth 20000 in
theorem gX4_share_X4_counted : GoodIn wsX4_share (wsV RX4 92 RX4 yX4_counted wsX4_counted) := goodIn_app (goodIn_of _ (by decide +kernel)) ggX4_share_X4_counted
set_option maxRecDepth 20000 in
theorem ggX4_share_X4_differ : GoodIn wsX4_share wsX4_differ := goodIn_r _ [17, 18, 19, 9, 10, 11, 5, 12, 13, 39, 40, 41, 42, 43, 44, 45] (by decide +kernel) (by decide +kernel)
set_option maxRecDepth 20000 in
theorem gX4_share_X4_differ : GoodIn wsX4_share (wsV RX4 86 RX4 yX4_differ wsX4_differ) := goodIn_app (goodIn_of _ (by decide +kernel)) ggX4_share_X4_differ
theorem dX4_share_0 : decode cX4_share 0 = .ok (.aload_n 0, 1) := by decide +kernel
theorem dX4_share_1 : decode cX4_share 1 = .ok (.iconst 0, 1) := by decide +kernel
theorem dX4_share_2 : decode cX4_share 2 = .ok (.putfield 28, 3) := by decide +kernel
theorem dX4_share_5 : decode cX4_share 5 = .ok (.aload_n 0, 1) := by decide +kernel
theorem dX4_share_6 : decode cX4_share 6 = .ok (.iconst 1, 1) := by decide +kernel
theorem dX4_share_7 : decode cX4_share 7 = .ok (.invokevirtual 92, 3) := by decide +kernel
theorem dX4_share_10 : decode cX4_share 10 = .ok (.istore_n 1, 1) := by decide +kernel
theorem dX4_share_11 : decode cX4_share 11 = .ok (.iload_n 1, 1) := by decide +kernel
theorem dX4_share_12 : decode cX4_share 12 = .ok (.ifCond .ne 7, 3) := by decide +kernel
theorem dX4_share_15 : decode cX4_share 15 = .ok (.dconst 0, 1) := by decide +kernel
theorem dX4_share_16 : decode cX4_share 16 = .ok (.goto 13, 3) := by decide +kernel
theorem dX4_share_19 : decode cX4_share 19 = .ok (.iload_n 1, 1) := by decide +kernel
theorem dX4_share_20 : decode cX4_share 20 = .ok (.aload_n 0, 1) := by decide +kernel
theorem dX4_share_21 : decode cX4_share 21 = .ok (.invokevirtual 86, 3) := by decide +kernel
theorem dX4_share_24 : decode cX4_share 24 = .ok (.isub, 1) := by decide +kernel
theorem dX4_share_25 : decode cX4_share 25 = .ok (.i2d, 1) := by decide +kernel
theorem dX4_share_26 : decode cX4_share 26 = .ok (.iload_n 1, 1) := by decide +kernel
theorem dX4_share_27 : decode cX4_share 27 = .ok (.i2d, 1) := by decide +kernel
theorem dX4_share_28 : decode cX4_share 28 = .ok (.ddiv, 1) := by decide +kernel
theorem dX4_share_29 : decode cX4_share 29 = .ok (.dreturn, 1) := by decide +kernel
set_option maxRecDepth 20000 in
theorem ggX4_digest_X4_counted : GoodIn wsX4_digest wsX4_counted := goodIn_r _ [11, 12, 6, 13, 14, 15, 10, 16, 17, 18, 19, 20, 21, 22, 4, 23, 24, 25, 26, 27, 28, 29, 30, 31, 32, 33, 34, 35, 36, 37, 38, 39, 40, 41, 57, 58, 59, 60, 61, 62, 63] (by decide +kernel) (by decide +kernel)
set_option maxRecDepth 20000 in
theorem gX4_digest_X4_counted : GoodIn wsX4_digest (wsV RX4 92 RX4 yX4_counted wsX4_counted) := goodIn_app (goodIn_of _ (by decide +kernel)) ggX4_digest_X4_counted
set_option maxRecDepth 20000 in
theorem ggX4_digest_X4_colour : GoodIn wsX4_digest wsX4_colour := goodIn_r _ [38, 22, 39, 40, 10, 41, 13, 14, 15, 16, 17, 57, 58, 59, 60, 61, 62, 63] (by decide +kernel) (by decide +kernel)
set_option maxRecDepth 20000 in
theorem gX4_digest_X4_colour : GoodIn wsX4_digest (wsV RX4 73 RX4 yX4_colour wsX4_colour) := goodIn_app (goodIn_of _ (by decide +kernel)) ggX4_digest_X4_colour
set_option maxRecDepth 20000 in
theorem ggX4_digest_X4_at : GoodIn wsX4_digest wsX4_at := goodIn_r _ [41] (by decide +kernel) (by decide +kernel)
set_option maxRecDepth 20000 in
theorem gX4_digest_X4_at : GoodIn wsX4_digest (va_wsS RX4 36 yX4_at wsX4_at) := goodIn_app (goodIn_of _ (by decide +kernel)) ggX4_digest_X4_at
set_option maxRecDepth 20000 in
theorem ggX4_digest_X4_weaverTold : GoodIn wsX4_digest wsX4_weaverTold := goodIn_r _ [45, 13, 14, 15, 10, 16, 17, 46, 47, 48, 49, 5, 50, 51, 52, 53, 54, 55, 56, 57, 58, 59, 60, 61, 62, 63] (by decide +kernel) (by decide +kernel)
set_option maxRecDepth 20000 in
theorem gX4_digest_X4_weaverTold : GoodIn wsX4_digest (wsV RX4 79 RX4 yX4_weaverTold wsX4_weaverTold) := goodIn_app (goodIn_of _ (by decide +kernel)) ggX4_digest_X4_weaverTold
set_option maxRecDepth 20000 in
theorem ggX4_digest_X4_pe : GoodIn wsX4_digest wsX4_pe := goodIn_r _ [16, 17, 57, 58, 59, 60, 61, 62, 63] (by decide +kernel) (by decide +kernel)
set_option maxRecDepth 20000 in
theorem gX4_digest_X4_pe : GoodIn wsX4_digest (wsV RX4 40 RX4 yX4_pe wsX4_pe) := goodIn_app (goodIn_of _ (by decide +kernel)) ggX4_digest_X4_pe
set_option maxRecDepth 20000 in
theorem ggX4_digest_X4_runAt : GoodIn wsX4_digest wsX4_runAt := goodIn_r _ [53] (by decide +kernel) (by decide +kernel)
set_option maxRecDepth 20000 in
theorem gX4_digest_X4_runAt : GoodIn wsX4_digest (wsV RX4 67 RX4 yX4_runAt wsX4_runAt) := goodIn_app (goodIn_of _ (by decide +kernel)) ggX4_digest_X4_runAt
theorem dX4_digest_0 : decode cX4_digest 0 = .ok (.aload_n 0, 1) := by decide +kernel
theorem dX4_digest_1 : decode cX4_digest 1 = .ok (.iconst 0, 1) := by decide +kernel
theorem dX4_digest_2 : decode cX4_digest 2 = .ok (.putfield 28, 3) := by decide +kernel
theorem dX4_digest_5 : decode cX4_digest 5 = .ok (.ldc2_w 130, 3) := by decide +kernel
theorem dX4_digest_8 : decode cX4_digest 8 = .ok (.lstore_n 1, 1) := by decide +kernel
theorem dX4_digest_9 : decode cX4_digest 9 = .ok (.iconst 0, 1) := by decide +kernel
theorem dX4_digest_10 : decode cX4_digest 10 = .ok (.istore_n 3, 1) := by decide +kernel
theorem dX4_digest_11 : decode cX4_digest 11 = .ok (.iload_n 3, 1) := by decide +kernel
theorem dX4_digest_12 : decode cX4_digest 12 = .ok (.bipush 8, 2) := by decide +kernel
theorem dX4_digest_14 : decode cX4_digest 14 = .ok (.if_icmp .ge 22, 3) := by decide +kernel
theorem dX4_digest_17 : decode cX4_digest 17 = .ok (.lload_n 1, 1) := by decide +kernel
theorem dX4_digest_18 : decode cX4_digest 18 = .ok (.ldc2_w 132, 3) := by decide +kernel
theorem dX4_digest_21 : decode cX4_digest 21 = .ok (.lmul, 1) := by decide +kernel
theorem dX4_digest_22 : decode cX4_digest 22 = .ok (.aload_n 0, 1) := by decide +kernel
theorem dX4_digest_23 : decode cX4_digest 23 = .ok (.iload_n 3, 1) := by decide +kernel
theorem dX4_digest_24 : decode cX4_digest 24 = .ok (.invokevirtual 92, 3) := by decide +kernel
theorem dX4_digest_27 : decode cX4_digest 27 = .ok (.i2l, 1) := by decide +kernel
theorem dX4_digest_28 : decode cX4_digest 28 = .ok (.ladd, 1) := by decide +kernel
theorem dX4_digest_29 : decode cX4_digest 29 = .ok (.lstore_n 1, 1) := by decide +kernel
theorem dX4_digest_30 : decode cX4_digest 30 = .ok (.iinc 3 1, 3) := by decide +kernel
theorem dX4_digest_33 : decode cX4_digest 33 = .ok (.goto (-22), 3) := by decide +kernel
theorem dX4_digest_36 : decode cX4_digest 36 = .ok (.iconst 0, 1) := by decide +kernel
theorem dX4_digest_37 : decode cX4_digest 37 = .ok (.istore_n 3, 1) := by decide +kernel
theorem dX4_digest_38 : decode cX4_digest 38 = .ok (.iload_n 3, 1) := by decide +kernel
theorem dX4_digest_39 : decode cX4_digest 39 = .ok (.bipush 120, 2) := by decide +kernel
theorem dX4_digest_41 : decode cX4_digest 41 = .ok (.if_icmp .ge 51, 3) := by decide +kernel
theorem dX4_digest_44 : decode cX4_digest 44 = .ok (.lload_n 1, 1) := by decide +kernel
theorem dX4_digest_45 : decode cX4_digest 45 = .ok (.ldc2_w 132, 3) := by decide +kernel
theorem dX4_digest_48 : decode cX4_digest 48 = .ok (.lmul, 1) := by decide +kernel
theorem dX4_digest_49 : decode cX4_digest 49 = .ok (.aload_n 0, 1) := by decide +kernel
theorem dX4_digest_50 : decode cX4_digest 50 = .ok (.iload_n 3, 1) := by decide +kernel
theorem dX4_digest_51 : decode cX4_digest 51 = .ok (.bipush 12, 2) := by decide +kernel
theorem dX4_digest_53 : decode cX4_digest 53 = .ok (.irem, 1) := by decide +kernel
theorem dX4_digest_54 : decode cX4_digest 54 = .ok (.iload_n 3, 1) := by decide +kernel
theorem dX4_digest_55 : decode cX4_digest 55 = .ok (.bipush 12, 2) := by decide +kernel
theorem dX4_digest_57 : decode cX4_digest 57 = .ok (.idiv, 1) := by decide +kernel
theorem dX4_digest_58 : decode cX4_digest 58 = .ok (.invokevirtual 73, 3) := by decide +kernel
theorem dX4_digest_61 : decode cX4_digest 61 = .ok (.i2l, 1) := by decide +kernel
theorem dX4_digest_62 : decode cX4_digest 62 = .ok (.ladd, 1) := by decide +kernel
theorem dX4_digest_63 : decode cX4_digest 63 = .ok (.ldc2_w 132, 3) := by decide +kernel
theorem dX4_digest_66 : decode cX4_digest 66 = .ok (.lmul, 1) := by decide +kernel
theorem dX4_digest_67 : decode cX4_digest 67 = .ok (.aload_n 0, 1) := by decide +kernel
theorem dX4_digest_68 : decode cX4_digest 68 = .ok (.getfield 16, 3) := by decide +kernel
theorem dX4_digest_71 : decode cX4_digest 71 = .ok (.iload_n 3, 1) := by decide +kernel
theorem dX4_digest_72 : decode cX4_digest 72 = .ok (.bipush 12, 2) := by decide +kernel
theorem dX4_digest_74 : decode cX4_digest 74 = .ok (.irem, 1) := by decide +kernel
theorem dX4_digest_75 : decode cX4_digest 75 = .ok (.iload_n 3, 1) := by decide +kernel
theorem dX4_digest_76 : decode cX4_digest 76 = .ok (.bipush 12, 2) := by decide +kernel
theorem dX4_digest_78 : decode cX4_digest 78 = .ok (.idiv, 1) := by decide +kernel
theorem dX4_digest_79 : decode cX4_digest 79 = .ok (.invokestatic 36, 3) := by decide +kernel
theorem dX4_digest_82 : decode cX4_digest 82 = .ok (.iaload, 1) := by decide +kernel
theorem dX4_digest_83 : decode cX4_digest 83 = .ok (.i2l, 1) := by decide +kernel
theorem dX4_digest_84 : decode cX4_digest 84 = .ok (.ladd, 1) := by decide +kernel
theorem dX4_digest_85 : decode cX4_digest 85 = .ok (.lstore_n 1, 1) := by decide +kernel
theorem dX4_digest_86 : decode cX4_digest 86 = .ok (.iinc 3 1, 3) := by decide +kernel
theorem dX4_digest_89 : decode cX4_digest 89 = .ok (.goto (-51), 3) := by decide +kernel
theorem dX4_digest_92 : decode cX4_digest 92 = .ok (.iconst 0, 1) := by decide +kernel
theorem dX4_digest_93 : decode cX4_digest 93 = .ok (.istore_n 3, 1) := by decide +kernel
theorem dX4_digest_94 : decode cX4_digest 94 = .ok (.iload_n 3, 1) := by decide +kernel
theorem dX4_digest_95 : decode cX4_digest 95 = .ok (.iconst 2, 1) := by decide +kernel
theorem dX4_digest_96 : decode cX4_digest 96 = .ok (.if_icmp .ge 84, 3) := by decide +kernel
theorem dX4_digest_99 : decode cX4_digest 99 = .ok (.iconst 0, 1) := by decide +kernel
theorem dX4_digest_100 : decode cX4_digest 100 = .ok (.istore 4, 2) := by decide +kernel
theorem dX4_digest_102 : decode cX4_digest 102 = .ok (.iload 4, 2) := by decide +kernel
theorem dX4_digest_104 : decode cX4_digest 104 = .ok (.bipush 7, 2) := by decide +kernel
theorem dX4_digest_106 : decode cX4_digest 106 = .ok (.if_icmp .ge 24, 3) := by decide +kernel
theorem dX4_digest_109 : decode cX4_digest 109 = .ok (.lload_n 1, 1) := by decide +kernel
theorem dX4_digest_110 : decode cX4_digest 110 = .ok (.ldc2_w 132, 3) := by decide +kernel
theorem dX4_digest_113 : decode cX4_digest 113 = .ok (.lmul, 1) := by decide +kernel
theorem dX4_digest_114 : decode cX4_digest 114 = .ok (.aload_n 0, 1) := by decide +kernel
theorem dX4_digest_115 : decode cX4_digest 115 = .ok (.iload_n 3, 1) := by decide +kernel
theorem dX4_digest_116 : decode cX4_digest 116 = .ok (.iload 4, 2) := by decide +kernel
theorem dX4_digest_118 : decode cX4_digest 118 = .ok (.invokevirtual 79, 3) := by decide +kernel
theorem dX4_digest_121 : decode cX4_digest 121 = .ok (.i2l, 1) := by decide +kernel
theorem dX4_digest_122 : decode cX4_digest 122 = .ok (.ladd, 1) := by decide +kernel
theorem dX4_digest_123 : decode cX4_digest 123 = .ok (.lstore_n 1, 1) := by decide +kernel
theorem dX4_digest_124 : decode cX4_digest 124 = .ok (.iinc 4 1, 3) := by decide +kernel
theorem dX4_digest_127 : decode cX4_digest 127 = .ok (.goto (-25), 3) := by decide +kernel
theorem dX4_digest_130 : decode cX4_digest 130 = .ok (.iconst 0, 1) := by decide +kernel
theorem dX4_digest_131 : decode cX4_digest 131 = .ok (.istore 4, 2) := by decide +kernel
theorem dX4_digest_133 : decode cX4_digest 133 = .ok (.iload 4, 2) := by decide +kernel
theorem dX4_digest_135 : decode cX4_digest 135 = .ok (.iconst 2, 1) := by decide +kernel
theorem dX4_digest_136 : decode cX4_digest 136 = .ok (.aload_n 0, 1) := by decide +kernel
theorem dX4_digest_137 : decode cX4_digest 137 = .ok (.iload_n 3, 1) := by decide +kernel
theorem dX4_digest_138 : decode cX4_digest 138 = .ok (.iconst 2, 1) := by decide +kernel
theorem dX4_digest_139 : decode cX4_digest 139 = .ok (.invokevirtual 40, 3) := by decide +kernel
theorem dX4_digest_142 : decode cX4_digest 142 = .ok (.imul, 1) := by decide +kernel
theorem dX4_digest_143 : decode cX4_digest 143 = .ok (.if_icmp .ge 31, 3) := by decide +kernel
theorem dX4_digest_146 : decode cX4_digest 146 = .ok (.lload_n 1, 1) := by decide +kernel
theorem dX4_digest_147 : decode cX4_digest 147 = .ok (.ldc2_w 132, 3) := by decide +kernel
theorem dX4_digest_150 : decode cX4_digest 150 = .ok (.lmul, 1) := by decide +kernel
theorem dX4_digest_151 : decode cX4_digest 151 = .ok (.aload_n 0, 1) := by decide +kernel
theorem dX4_digest_152 : decode cX4_digest 152 = .ok (.getfield 19, 3) := by decide +kernel
theorem dX4_digest_155 : decode cX4_digest 155 = .ok (.aload_n 0, 1) := by decide +kernel
theorem dX4_digest_156 : decode cX4_digest 156 = .ok (.iload_n 3, 1) := by decide +kernel
theorem dX4_digest_157 : decode cX4_digest 157 = .ok (.iconst 0, 1) := by decide +kernel
theorem dX4_digest_158 : decode cX4_digest 158 = .ok (.invokevirtual 67, 3) := by decide +kernel
theorem dX4_digest_161 : decode cX4_digest 161 = .ok (.iload 4, 2) := by decide +kernel
theorem dX4_digest_163 : decode cX4_digest 163 = .ok (.iadd, 1) := by decide +kernel
theorem dX4_digest_164 : decode cX4_digest 164 = .ok (.iaload, 1) := by decide +kernel
theorem dX4_digest_165 : decode cX4_digest 165 = .ok (.i2l, 1) := by decide +kernel
theorem dX4_digest_166 : decode cX4_digest 166 = .ok (.ladd, 1) := by decide +kernel
theorem dX4_digest_167 : decode cX4_digest 167 = .ok (.lstore_n 1, 1) := by decide +kernel
theorem dX4_digest_168 : decode cX4_digest 168 = .ok (.iinc 4 1, 3) := by decide +kernel
theorem dX4_digest_171 : decode cX4_digest 171 = .ok (.goto (-38), 3) := by decide +kernel
theorem dX4_digest_174 : decode cX4_digest 174 = .ok (.iinc 3 1, 3) := by decide +kernel
theorem dX4_digest_177 : decode cX4_digest 177 = .ok (.goto (-83), 3) := by decide +kernel
theorem dX4_digest_180 : decode cX4_digest 180 = .ok (.aload_n 0, 1) := by decide +kernel
theorem dX4_digest_181 : decode cX4_digest 181 = .ok (.getfield 22, 3) := by decide +kernel
theorem dX4_digest_184 : decode cX4_digest 184 = .ok (.astore_n 3, 1) := by decide +kernel
theorem dX4_digest_185 : decode cX4_digest 185 = .ok (.aload_n 3, 1) := by decide +kernel
theorem dX4_digest_186 : decode cX4_digest 186 = .ok (.arraylength, 1) := by decide +kernel
theorem dX4_digest_187 : decode cX4_digest 187 = .ok (.istore 4, 2) := by decide +kernel
theorem dX4_digest_189 : decode cX4_digest 189 = .ok (.iconst 0, 1) := by decide +kernel
theorem dX4_digest_190 : decode cX4_digest 190 = .ok (.istore 5, 2) := by decide +kernel
theorem dX4_digest_192 : decode cX4_digest 192 = .ok (.iload 5, 2) := by decide +kernel
theorem dX4_digest_194 : decode cX4_digest 194 = .ok (.iload 4, 2) := by decide +kernel
theorem dX4_digest_196 : decode cX4_digest 196 = .ok (.if_icmp .ge 25, 3) := by decide +kernel
theorem dX4_digest_199 : decode cX4_digest 199 = .ok (.aload_n 3, 1) := by decide +kernel
theorem dX4_digest_200 : decode cX4_digest 200 = .ok (.iload 5, 2) := by decide +kernel
theorem dX4_digest_202 : decode cX4_digest 202 = .ok (.iaload, 1) := by decide +kernel
theorem dX4_digest_203 : decode cX4_digest 203 = .ok (.istore 6, 2) := by decide +kernel
theorem dX4_digest_205 : decode cX4_digest 205 = .ok (.lload_n 1, 1) := by decide +kernel
theorem dX4_digest_206 : decode cX4_digest 206 = .ok (.ldc2_w 132, 3) := by decide +kernel
theorem dX4_digest_209 : decode cX4_digest 209 = .ok (.lmul, 1) := by decide +kernel
theorem dX4_digest_210 : decode cX4_digest 210 = .ok (.iload 6, 2) := by decide +kernel
theorem dX4_digest_212 : decode cX4_digest 212 = .ok (.i2l, 1) := by decide +kernel
theorem dX4_digest_213 : decode cX4_digest 213 = .ok (.ladd, 1) := by decide +kernel
theorem dX4_digest_214 : decode cX4_digest 214 = .ok (.lstore_n 1, 1) := by decide +kernel
theorem dX4_digest_215 : decode cX4_digest 215 = .ok (.iinc 5 1, 3) := by decide +kernel
theorem dX4_digest_218 : decode cX4_digest 218 = .ok (.goto (-26), 3) := by decide +kernel
theorem dX4_digest_221 : decode cX4_digest 221 = .ok (.lload_n 1, 1) := by decide +kernel
theorem dX4_digest_222 : decode cX4_digest 222 = .ok (.lreturn, 1) := by decide +kernel
theorem dJ9_min_7cf53_0 : decode cJ9_min_7cf53 0 = .ok (.iload_n 0, 1) := by decide +kernel
theorem dJ9_min_7cf53_1 : decode cJ9_min_7cf53 1 = .ok (.iload_n 1, 1) := by decide +kernel
theorem dJ9_min_7cf53_2 : decode cJ9_min_7cf53 2 = .ok (.if_icmp .gt 7, 3) := by decide +kernel
theorem dJ9_min_7cf53_5 : decode cJ9_min_7cf53 5 = .ok (.iload_n 0, 1) := by decide +kernel
theorem dJ9_min_7cf53_6 : decode cJ9_min_7cf53 6 = .ok (.goto 4, 3) := by decide +kernel
theorem dJ9_min_7cf53_9 : decode cJ9_min_7cf53 9 = .ok (.iload_n 1, 1) := by decide +kernel
theorem dJ9_min_7cf53_10 : decode cJ9_min_7cf53 10 = .ok (.ireturn, 1) := by decide +kernel
set_option maxRecDepth 20000 in
theorem ggL_plan_X3_plan : GoodIn wsL_plan wsX3_plan := goodIn_ca (goodIn_ca (goodIn_r _ [7, 8, 9, 10, 6, 11, 12, 13, 14, 15, 16, 17, 18, 19, 20, 21, 22, 23, 24, 25, 26, 27, 28, 29, 30, 31, 32, 33, 34, 35, 36, 37, 38, 39, 40, 41, 42, 43, 44, 45, 46, 47, 48, 49, 50, 51, 52, 53, 54, 55, 56, 57, 58, 59, 60, 61, 62, 63, 64, 65, 66] (by decide +kernel) (by decide +kernel)) (goodIn_sub (fun _ h => List.mem_cons_of_mem _ (List.mem_append_left _ (List.mem_append_right _ h))) (by decide +kernel))) (goodIn_sub (fun _ h => List.mem_cons_of_mem _ (List.mem_append_right _ h)) (by decide +kernel))
set_option maxRecDepth 20000 in
theorem gL_plan_X3_plan : GoodIn wsL_plan (wsV RL 7 RX3 yX3_plan wsX3_plan) := goodIn_app (goodIn_of _ (by decide +kernel)) ggL_plan_X3_plan
theorem dL_plan_0 : decode cL_plan 0 = .ok (.aload 6, 2) := by decide +kernel
theorem dL_plan_2 : decode cL_plan 2 = .ok (.iconst 0, 1) := by decide +kernel
theorem dL_plan_3 : decode cL_plan 3 = .ok (.aload_n 0, 1) := by decide +kernel
theorem dL_plan_4 : decode cL_plan 4 = .ok (.iload_n 1, 1) := by decide +kernel
theorem dL_plan_5 : decode cL_plan 5 = .ok (.iload_n 2, 1) := by decide +kernel
theorem dL_plan_6 : decode cL_plan 6 = .ok (.iload_n 3, 1) := by decide +kernel
theorem dL_plan_7 : decode cL_plan 7 = .ok (.iload 4, 2) := by decide +kernel
theorem dL_plan_9 : decode cL_plan 9 = .ok (.iload 5, 2) := by decide +kernel
theorem dL_plan_11 : decode cL_plan 11 = .ok (.invokevirtual 7, 3) := by decide +kernel
theorem dL_plan_14 : decode cL_plan 14 = .ok (.i2l, 1) := by decide +kernel
theorem dL_plan_15 : decode cL_plan 15 = .ok (.lastore, 1) := by decide +kernel
theorem dL_plan_16 : decode cL_plan 16 = .ok (.goto 11, 3) := by decide +kernel
theorem dL_plan_19 : decode cL_plan 19 = .ok (.astore 7, 2) := by decide +kernel
theorem dL_plan_21 : decode cL_plan 21 = .ok (.iconst 1, 1) := by decide +kernel
theorem dL_plan_22 : decode cL_plan 22 = .ok (.ireturn, 1) := by decide +kernel
theorem dL_plan_23 : decode cL_plan 23 = .ok (.astore 7, 2) := by decide +kernel
theorem dL_plan_25 : decode cL_plan 25 = .ok (.iconst 2, 1) := by decide +kernel
theorem dL_plan_26 : decode cL_plan 26 = .ok (.ireturn, 1) := by decide +kernel
theorem dL_plan_27 : decode cL_plan 27 = .ok (.iconst 0, 1) := by decide +kernel
theorem dL_plan_28 : decode cL_plan 28 = .ok (.ireturn, 1) := by decide +kernel
set_option maxRecDepth 20000 in
theorem ggL_bring_X3_bring : GoodIn wsL_bring wsX3_bring := goodIn_ca (goodIn_r _ [6, 7, 8, 9, 5, 10, 11, 12, 13, 14, 15, 16, 17, 18, 19, 20, 21, 22, 23, 24, 25, 26, 27, 28, 29, 30, 31, 32, 33, 34, 35, 36, 37] (by decide +kernel) (by decide +kernel)) (goodIn_sub (fun _ h => List.mem_cons_of_mem _ (List.mem_append_right _ h)) (by decide +kernel))
set_option maxRecDepth 20000 in
theorem gL_bring_X3_bring : GoodIn wsL_bring (wsV RL 17 RX3 yX3_bring wsX3_bring) := goodIn_app (goodIn_of _ (by decide +kernel)) ggL_bring_X3_bring
theorem dL_bring_0 : decode cL_bring 0 = .ok (.aload_n 3, 1) := by decide +kernel
theorem dL_bring_1 : decode cL_bring 1 = .ok (.iconst 0, 1) := by decide +kernel
theorem dL_bring_2 : decode cL_bring 2 = .ok (.aload_n 0, 1) := by decide +kernel
theorem dL_bring_3 : decode cL_bring 3 = .ok (.iload_n 1, 1) := by decide +kernel
theorem dL_bring_4 : decode cL_bring 4 = .ok (.iload_n 2, 1) := by decide +kernel
theorem dL_bring_5 : decode cL_bring 5 = .ok (.invokevirtual 17, 3) := by decide +kernel
theorem dL_bring_8 : decode cL_bring 8 = .ok (.i2l, 1) := by decide +kernel
theorem dL_bring_9 : decode cL_bring 9 = .ok (.lastore, 1) := by decide +kernel
theorem dL_bring_10 : decode cL_bring 10 = .ok (.goto 7, 3) := by decide +kernel
theorem dL_bring_13 : decode cL_bring 13 = .ok (.astore 4, 2) := by decide +kernel
theorem dL_bring_15 : decode cL_bring 15 = .ok (.iconst 1, 1) := by decide +kernel
theorem dL_bring_16 : decode cL_bring 16 = .ok (.ireturn, 1) := by decide +kernel
theorem dL_bring_17 : decode cL_bring 17 = .ok (.iconst 0, 1) := by decide +kernel
theorem dL_bring_18 : decode cL_bring 18 = .ok (.ireturn, 1) := by decide +kernel
set_option maxRecDepth 20000 in
theorem ggL_setSpeed_X3_setSpeed : GoodIn wsL_setSpeed wsX3_setSpeed := goodIn_ca (goodIn_ca (goodIn_r _ [7, 8, 9, 10, 6, 11, 12, 13, 14, 15, 16, 17, 18, 19, 20, 21, 22, 23, 24, 25, 26, 27, 28, 29, 30, 31, 32, 33, 34, 35, 36, 37, 38, 39, 40, 41, 42, 43, 44] (by decide +kernel) (by decide +kernel)) (goodIn_sub (fun _ h => List.mem_cons_of_mem _ (List.mem_append_left _ (List.mem_append_right _ h))) (by decide +kernel))) (goodIn_sub (fun _ h => List.mem_cons_of_mem _ (List.mem_append_right _ h)) (by decide +kernel))
set_option maxRecDepth 20000 in
theorem gL_setSpeed_X3_setSpeed : GoodIn wsL_setSpeed (wsV RL 21 RX3 yX3_setSpeed wsX3_setSpeed) := goodIn_app (goodIn_of _ (by decide +kernel)) ggL_setSpeed_X3_setSpeed
theorem dL_setSpeed_0 : decode cL_setSpeed 0 = .ok (.aload_n 3, 1) := by decide +kernel
theorem dL_setSpeed_1 : decode cL_setSpeed 1 = .ok (.iconst 0, 1) := by decide +kernel
theorem dL_setSpeed_2 : decode cL_setSpeed 2 = .ok (.aload_n 0, 1) := by decide +kernel
theorem dL_setSpeed_3 : decode cL_setSpeed 3 = .ok (.iload_n 1, 1) := by decide +kernel
theorem dL_setSpeed_4 : decode cL_setSpeed 4 = .ok (.iload_n 2, 1) := by decide +kernel
theorem dL_setSpeed_5 : decode cL_setSpeed 5 = .ok (.invokevirtual 21, 3) := by decide +kernel
theorem dL_setSpeed_8 : decode cL_setSpeed 8 = .ok (.i2l, 1) := by decide +kernel
theorem dL_setSpeed_9 : decode cL_setSpeed 9 = .ok (.lastore, 1) := by decide +kernel
theorem dL_setSpeed_10 : decode cL_setSpeed 10 = .ok (.goto 11, 3) := by decide +kernel
theorem dL_setSpeed_13 : decode cL_setSpeed 13 = .ok (.astore 4, 2) := by decide +kernel
theorem dL_setSpeed_15 : decode cL_setSpeed 15 = .ok (.iconst 1, 1) := by decide +kernel
theorem dL_setSpeed_16 : decode cL_setSpeed 16 = .ok (.ireturn, 1) := by decide +kernel
theorem dL_setSpeed_17 : decode cL_setSpeed 17 = .ok (.astore 4, 2) := by decide +kernel
theorem dL_setSpeed_19 : decode cL_setSpeed 19 = .ok (.iconst 2, 1) := by decide +kernel
theorem dL_setSpeed_20 : decode cL_setSpeed 20 = .ok (.ireturn, 1) := by decide +kernel
theorem dL_setSpeed_21 : decode cL_setSpeed 21 = .ok (.iconst 0, 1) := by decide +kernel
theorem dL_setSpeed_22 : decode cL_setSpeed 22 = .ok (.ireturn, 1) := by decide +kernel
set_option maxRecDepth 20000 in
theorem ggL_tell_X3_tell : GoodIn wsL_tell wsX3_tell := goodIn_ca (goodIn_ca (goodIn_ca (goodIn_r _ [8, 9, 10, 11, 12, 13, 7, 14, 15, 16, 17, 18, 19, 20, 21, 22, 23, 24, 25, 26, 27, 28, 29, 30, 31, 32, 33, 34, 35, 36, 37, 38, 39, 40, 41, 42, 43, 44, 45, 46, 47, 48, 49, 50, 51, 52, 53, 54, 55, 56, 57, 58, 59, 60] (by decide +kernel) (by decide +kernel)) (goodIn_sub (fun _ h => List.mem_cons_of_mem _ (List.mem_append_left _ (List.mem_append_left _ (List.mem_append_right _ h)))) (by decide +kernel))) (goodIn_sub (fun _ h => List.mem_cons_of_mem _ (List.mem_append_left _ (List.mem_append_right _ h))) (by decide +kernel))) (goodIn_sub (fun _ h => List.mem_cons_of_mem _ (List.mem_append_right _ h)) (by decide +kernel))
set_option maxRecDepth 20000 in
theorem gL_tell_X3_tell : GoodIn wsL_tell (wsV RL 24 RX3 yX3_tell wsX3_tell) := goodIn_app (goodIn_of _ (by decide +kernel)) ggL_tell_X3_tell
theorem dL_tell_0 : decode cL_tell 0 = .ok (.aload 4, 2) := by decide +kernel
theorem dL_tell_2 : decode cL_tell 2 = .ok (.iconst 0, 1) := by decide +kernel
theorem dL_tell_3 : decode cL_tell 3 = .ok (.aload_n 0, 1) := by decide +kernel
theorem dL_tell_4 : decode cL_tell 4 = .ok (.iload_n 1, 1) := by decide +kernel
theorem dL_tell_5 : decode cL_tell 5 = .ok (.iload_n 2, 1) := by decide +kernel
theorem dL_tell_6 : decode cL_tell 6 = .ok (.iload_n 3, 1) := by decide +kernel
theorem dL_tell_7 : decode cL_tell 7 = .ok (.invokevirtual 24, 3) := by decide +kernel
theorem dL_tell_10 : decode cL_tell 10 = .ok (.i2l, 1) := by decide +kernel
theorem dL_tell_11 : decode cL_tell 11 = .ok (.lastore, 1) := by decide +kernel
theorem dL_tell_12 : decode cL_tell 12 = .ok (.goto 15, 3) := by decide +kernel
theorem dL_tell_15 : decode cL_tell 15 = .ok (.astore 5, 2) := by decide +kernel
theorem dL_tell_17 : decode cL_tell 17 = .ok (.iconst 1, 1) := by decide +kernel
theorem dL_tell_18 : decode cL_tell 18 = .ok (.ireturn, 1) := by decide +kernel
theorem dL_tell_19 : decode cL_tell 19 = .ok (.astore 5, 2) := by decide +kernel
theorem dL_tell_21 : decode cL_tell 21 = .ok (.iconst 2, 1) := by decide +kernel
theorem dL_tell_22 : decode cL_tell 22 = .ok (.ireturn, 1) := by decide +kernel
theorem dL_tell_23 : decode cL_tell 23 = .ok (.astore 5, 2) := by decide +kernel
theorem dL_tell_25 : decode cL_tell 25 = .ok (.iconst 3, 1) := by decide +kernel
theorem dL_tell_26 : decode cL_tell 26 = .ok (.ireturn, 1) := by decide +kernel
theorem dL_tell_27 : decode cL_tell 27 = .ok (.iconst 0, 1) := by decide +kernel
theorem dL_tell_28 : decode cL_tell 28 = .ok (.ireturn, 1) := by decide +kernel
set_option maxRecDepth 20000 in
theorem ggL_hush_X3_hush : GoodIn wsL_hush wsX3_hush := goodIn_ca (goodIn_r _ [6, 7, 8, 9, 5, 10, 11, 12, 13, 14, 15, 16, 17, 18, 19, 20, 21, 22, 23, 24, 25, 26, 27, 28, 29, 30, 31, 32, 33, 34, 35, 36, 37, 38, 39, 40, 41, 42, 43, 44, 45, 46, 47] (by decide +kernel) (by decide +kernel)) (goodIn_sub (fun _ h => List.mem_cons_of_mem _ (List.mem_append_right _ h)) (by decide +kernel))
set_option maxRecDepth 20000 in
theorem gL_hush_X3_hush : GoodIn wsL_hush (wsV RL 30 RX3 yX3_hush wsX3_hush) := goodIn_app (goodIn_of _ (by decide +kernel)) ggL_hush_X3_hush
theorem dL_hush_0 : decode cL_hush 0 = .ok (.aload_n 2, 1) := by decide +kernel
theorem dL_hush_1 : decode cL_hush 1 = .ok (.iconst 0, 1) := by decide +kernel
theorem dL_hush_2 : decode cL_hush 2 = .ok (.aload_n 0, 1) := by decide +kernel
theorem dL_hush_3 : decode cL_hush 3 = .ok (.iload_n 1, 1) := by decide +kernel
theorem dL_hush_4 : decode cL_hush 4 = .ok (.invokevirtual 30, 3) := by decide +kernel
theorem dL_hush_7 : decode cL_hush 7 = .ok (.i2l, 1) := by decide +kernel
theorem dL_hush_8 : decode cL_hush 8 = .ok (.lastore, 1) := by decide +kernel
theorem dL_hush_9 : decode cL_hush 9 = .ok (.goto 6, 3) := by decide +kernel
theorem dL_hush_12 : decode cL_hush 12 = .ok (.astore_n 3, 1) := by decide +kernel
theorem dL_hush_13 : decode cL_hush 13 = .ok (.iconst 1, 1) := by decide +kernel
theorem dL_hush_14 : decode cL_hush 14 = .ok (.ireturn, 1) := by decide +kernel
theorem dL_hush_15 : decode cL_hush 15 = .ok (.iconst 0, 1) := by decide +kernel
theorem dL_hush_16 : decode cL_hush 16 = .ok (.ireturn, 1) := by decide +kernel
set_option maxRecDepth 20000 in
theorem ggL_unpick_X3_unpick : GoodIn wsL_unpick wsX3_unpick := goodIn_ca (goodIn_ca (goodIn_ca (goodIn_r _ [8, 9, 10, 11, 12, 13, 7, 14, 15, 16, 17, 18, 19, 20, 21, 22, 23, 24, 25, 26, 27, 28, 29, 30, 31, 32, 33, 34, 35, 36, 37, 38, 39, 40, 41, 42, 43, 44, 45, 46, 47, 48, 49, 50, 51, 52, 53, 54, 55, 56, 57, 58, 59, 60, 61, 62, 63, 64, 65, 66, 67, 68, 69] (by decide +kernel) (by decide +kernel)) (goodIn_sub (fun _ h => List.mem_cons_of_mem _ (List.mem_append_left _ (List.mem_append_left _ (List.mem_append_right _ h)))) (by decide +kernel))) (goodIn_sub (fun _ h => List.mem_cons_of_mem _ (List.mem_append_left _ (List.mem_append_right _ h))) (by decide +kernel))) (goodIn_sub (fun _ h => List.mem_cons_of_mem _ (List.mem_append_right _ h)) (by decide +kernel))
set_option maxRecDepth 20000 in
theorem gL_unpick_X3_unpick : GoodIn wsL_unpick (wsV RL 34 RX3 yX3_unpick wsX3_unpick) := goodIn_app (goodIn_of _ (by decide +kernel)) ggL_unpick_X3_unpick
theorem dL_unpick_0 : decode cL_unpick 0 = .ok (.aload_n 3, 1) := by decide +kernel
theorem dL_unpick_1 : decode cL_unpick 1 = .ok (.iconst 0, 1) := by decide +kernel
theorem dL_unpick_2 : decode cL_unpick 2 = .ok (.aload_n 0, 1) := by decide +kernel
theorem dL_unpick_3 : decode cL_unpick 3 = .ok (.iload_n 1, 1) := by decide +kernel
theorem dL_unpick_4 : decode cL_unpick 4 = .ok (.iload_n 2, 1) := by decide +kernel
theorem dL_unpick_5 : decode cL_unpick 5 = .ok (.invokevirtual 34, 3) := by decide +kernel
theorem dL_unpick_8 : decode cL_unpick 8 = .ok (.i2l, 1) := by decide +kernel
theorem dL_unpick_9 : decode cL_unpick 9 = .ok (.lastore, 1) := by decide +kernel
theorem dL_unpick_10 : decode cL_unpick 10 = .ok (.goto 15, 3) := by decide +kernel
theorem dL_unpick_13 : decode cL_unpick 13 = .ok (.astore 4, 2) := by decide +kernel
theorem dL_unpick_15 : decode cL_unpick 15 = .ok (.iconst 1, 1) := by decide +kernel
theorem dL_unpick_16 : decode cL_unpick 16 = .ok (.ireturn, 1) := by decide +kernel
theorem dL_unpick_17 : decode cL_unpick 17 = .ok (.astore 4, 2) := by decide +kernel
theorem dL_unpick_19 : decode cL_unpick 19 = .ok (.iconst 2, 1) := by decide +kernel
theorem dL_unpick_20 : decode cL_unpick 20 = .ok (.ireturn, 1) := by decide +kernel
theorem dL_unpick_21 : decode cL_unpick 21 = .ok (.astore 4, 2) := by decide +kernel
theorem dL_unpick_23 : decode cL_unpick 23 = .ok (.iconst 3, 1) := by decide +kernel
theorem dL_unpick_24 : decode cL_unpick 24 = .ok (.ireturn, 1) := by decide +kernel
theorem dL_unpick_25 : decode cL_unpick 25 = .ok (.iconst 0, 1) := by decide +kernel
theorem dL_unpick_26 : decode cL_unpick 26 = .ok (.ireturn, 1) := by decide +kernel
set_option maxRecDepth 20000 in
theorem ggL_cell_X3_cell : GoodIn wsL_cell wsX3_cell := goodIn_ca (goodIn_r _ [6, 7, 8, 9, 5, 10, 11, 12, 13, 14, 15, 16, 17, 18, 19, 20, 21, 22, 23, 24, 25, 26, 27, 28, 29, 30, 31, 32, 33, 34, 35, 36, 37, 38, 39, 40, 41, 42, 43, 44, 45, 46, 47, 48, 49, 50, 51, 52, 53, 54, 55, 56, 57, 58, 59, 60, 61, 62, 63] (by decide +kernel) (by decide +kernel)) (goodIn_sub (fun _ h => List.mem_cons_of_mem _ (List.mem_append_right _ h)) (by decide +kernel))
set_option maxRecDepth 20000 in
theorem gL_cell_X3_cell : GoodIn wsL_cell (wsV RL 37 RX3 yX3_cell wsX3_cell) := goodIn_app (goodIn_of _ (by decide +kernel)) ggL_cell_X3_cell
theorem dL_cell_0 : decode cL_cell 0 = .ok (.aload 4, 2) := by decide +kernel
theorem dL_cell_2 : decode cL_cell 2 = .ok (.iconst 0, 1) := by decide +kernel
theorem dL_cell_3 : decode cL_cell 3 = .ok (.aload_n 0, 1) := by decide +kernel
theorem dL_cell_4 : decode cL_cell 4 = .ok (.iload_n 1, 1) := by decide +kernel
theorem dL_cell_5 : decode cL_cell 5 = .ok (.iload_n 2, 1) := by decide +kernel
theorem dL_cell_6 : decode cL_cell 6 = .ok (.iload_n 3, 1) := by decide +kernel
theorem dL_cell_7 : decode cL_cell 7 = .ok (.invokevirtual 37, 3) := by decide +kernel
theorem dL_cell_10 : decode cL_cell 10 = .ok (.i2l, 1) := by decide +kernel
theorem dL_cell_11 : decode cL_cell 11 = .ok (.lastore, 1) := by decide +kernel
theorem dL_cell_12 : decode cL_cell 12 = .ok (.goto 7, 3) := by decide +kernel
theorem dL_cell_15 : decode cL_cell 15 = .ok (.astore 5, 2) := by decide +kernel
theorem dL_cell_17 : decode cL_cell 17 = .ok (.iconst 1, 1) := by decide +kernel
theorem dL_cell_18 : decode cL_cell 18 = .ok (.ireturn, 1) := by decide +kernel
theorem dL_cell_19 : decode cL_cell 19 = .ok (.iconst 0, 1) := by decide +kernel
theorem dL_cell_20 : decode cL_cell 20 = .ok (.ireturn, 1) := by decide +kernel
set_option maxRecDepth 20000 in
theorem ggL_sees_X3_sees : GoodIn wsL_sees wsX3_sees := goodIn_ca (goodIn_r _ [6, 7, 8, 9, 5, 10, 11, 12, 13, 14, 15, 16, 17, 18, 19, 20, 21, 22, 23, 24, 25, 26, 27, 28, 29, 30, 31, 32, 33, 34, 35, 36, 37, 38, 39, 40, 41, 42, 43, 44, 45, 46, 47, 48, 49, 50, 51, 52, 53, 54, 55, 56, 57, 58, 59, 60, 61, 62, 63, 64, 65, 66, 67, 68] (by decide +kernel) (by decide +kernel)) (goodIn_sub (fun _ h => List.mem_cons_of_mem _ (List.mem_append_right _ h)) (by decide +kernel))
set_option maxRecDepth 20000 in
theorem gL_sees_X3_sees : GoodIn wsL_sees (wsV RL 40 RX3 yX3_sees wsX3_sees) := goodIn_app (goodIn_of _ (by decide +kernel)) ggL_sees_X3_sees
theorem dL_sees_0 : decode cL_sees 0 = .ok (.aload 4, 2) := by decide +kernel
theorem dL_sees_2 : decode cL_sees 2 = .ok (.iconst 0, 1) := by decide +kernel
theorem dL_sees_3 : decode cL_sees 3 = .ok (.aload_n 0, 1) := by decide +kernel
theorem dL_sees_4 : decode cL_sees 4 = .ok (.iload_n 1, 1) := by decide +kernel
theorem dL_sees_5 : decode cL_sees 5 = .ok (.iload_n 2, 1) := by decide +kernel
theorem dL_sees_6 : decode cL_sees 6 = .ok (.iload_n 3, 1) := by decide +kernel
theorem dL_sees_7 : decode cL_sees 7 = .ok (.invokevirtual 40, 3) := by decide +kernel
theorem dL_sees_10 : decode cL_sees 10 = .ok (.i2l, 1) := by decide +kernel
theorem dL_sees_11 : decode cL_sees 11 = .ok (.lastore, 1) := by decide +kernel
theorem dL_sees_12 : decode cL_sees 12 = .ok (.goto 7, 3) := by decide +kernel
theorem dL_sees_15 : decode cL_sees 15 = .ok (.astore 5, 2) := by decide +kernel
theorem dL_sees_17 : decode cL_sees 17 = .ok (.iconst 1, 1) := by decide +kernel
theorem dL_sees_18 : decode cL_sees 18 = .ok (.ireturn, 1) := by decide +kernel
theorem dL_sees_19 : decode cL_sees 19 = .ok (.iconst 0, 1) := by decide +kernel
theorem dL_sees_20 : decode cL_sees 20 = .ok (.ireturn, 1) := by decide +kernel
set_option maxRecDepth 20000 in
theorem ggL_weaver_X3_weaver : GoodIn wsL_weaver wsX3_weaver := goodIn_ca (goodIn_r _ [6, 7, 8, 9, 5, 10, 11, 12, 13, 14, 15, 16, 17, 18, 19, 20, 21, 22, 23, 24, 25, 26, 27, 28, 29, 30, 31, 32, 33, 34, 35, 36, 37, 38, 39, 40, 41, 42, 43, 44, 45, 46, 47, 48, 49, 50, 51, 52, 53, 54, 55, 56, 57, 58, 59, 60, 61, 62, 63] (by decide +kernel) (by decide +kernel)) (goodIn_sub (fun _ h => List.mem_cons_of_mem _ (List.mem_append_right _ h)) (by decide +kernel))
set_option maxRecDepth 20000 in
theorem gL_weaver_X3_weaver : GoodIn wsL_weaver (wsV RL 43 RX3 yX3_weaver wsX3_weaver) := goodIn_app (goodIn_of _ (by decide +kernel)) ggL_weaver_X3_weaver
theorem dL_weaver_0 : decode cL_weaver 0 = .ok (.aload_n 3, 1) := by decide +kernel
theorem dL_weaver_1 : decode cL_weaver 1 = .ok (.iconst 0, 1) := by decide +kernel
theorem dL_weaver_2 : decode cL_weaver 2 = .ok (.aload_n 0, 1) := by decide +kernel
theorem dL_weaver_3 : decode cL_weaver 3 = .ok (.iload_n 1, 1) := by decide +kernel
theorem dL_weaver_4 : decode cL_weaver 4 = .ok (.iload_n 2, 1) := by decide +kernel
theorem dL_weaver_5 : decode cL_weaver 5 = .ok (.invokevirtual 43, 3) := by decide +kernel
theorem dL_weaver_8 : decode cL_weaver 8 = .ok (.i2l, 1) := by decide +kernel
theorem dL_weaver_9 : decode cL_weaver 9 = .ok (.lastore, 1) := by decide +kernel
theorem dL_weaver_10 : decode cL_weaver 10 = .ok (.goto 7, 3) := by decide +kernel
theorem dL_weaver_13 : decode cL_weaver 13 = .ok (.astore 4, 2) := by decide +kernel
theorem dL_weaver_15 : decode cL_weaver 15 = .ok (.iconst 1, 1) := by decide +kernel
theorem dL_weaver_16 : decode cL_weaver 16 = .ok (.ireturn, 1) := by decide +kernel
theorem dL_weaver_17 : decode cL_weaver 17 = .ok (.iconst 0, 1) := by decide +kernel
theorem dL_weaver_18 : decode cL_weaver 18 = .ok (.ireturn, 1) := by decide +kernel
set_option maxRecDepth 20000 in
theorem ggL_run_X3_run : GoodIn wsL_run wsX3_run := goodIn_ca (goodIn_r _ [6, 7, 8, 9, 5, 10, 11, 12, 13, 14, 15, 16, 17, 18, 19, 20, 21, 22, 23, 24, 25, 26, 27, 28, 29, 30, 31, 32, 33, 34, 35, 36, 37, 38, 39, 40, 41] (by decide +kernel) (by decide +kernel)) (goodIn_sub (fun _ h => List.mem_cons_of_mem _ (List.mem_append_right _ h)) (by decide +kernel))
set_option maxRecDepth 20000 in
theorem gL_run_X3_run : GoodIn wsL_run (wsV RL 46 RX3 yX3_run wsX3_run) := goodIn_app (goodIn_of _ (by decide +kernel)) ggL_run_X3_run
theorem dL_run_0 : decode cL_run 0 = .ok (.aload 4, 2) := by decide +kernel
theorem dL_run_2 : decode cL_run 2 = .ok (.iconst 0, 1) := by decide +kernel
theorem dL_run_3 : decode cL_run 3 = .ok (.aload_n 0, 1) := by decide +kernel
theorem dL_run_4 : decode cL_run 4 = .ok (.iload_n 1, 1) := by decide +kernel
theorem dL_run_5 : decode cL_run 5 = .ok (.iload_n 2, 1) := by decide +kernel
theorem dL_run_6 : decode cL_run 6 = .ok (.iload_n 3, 1) := by decide +kernel
theorem dL_run_7 : decode cL_run 7 = .ok (.invokevirtual 46, 3) := by decide +kernel
theorem dL_run_10 : decode cL_run 10 = .ok (.i2l, 1) := by decide +kernel
theorem dL_run_11 : decode cL_run 11 = .ok (.lastore, 1) := by decide +kernel
theorem dL_run_12 : decode cL_run 12 = .ok (.goto 7, 3) := by decide +kernel
theorem dL_run_15 : decode cL_run 15 = .ok (.astore 5, 2) := by decide +kernel
theorem dL_run_17 : decode cL_run 17 = .ok (.iconst 1, 1) := by decide +kernel
theorem dL_run_18 : decode cL_run 18 = .ok (.ireturn, 1) := by decide +kernel
theorem dL_run_19 : decode cL_run 19 = .ok (.iconst 0, 1) := by decide +kernel
theorem dL_run_20 : decode cL_run 20 = .ok (.ireturn, 1) := by decide +kernel
set_option maxRecDepth 20000 in
theorem ggL_count_X3_count : GoodIn wsL_count wsX3_count := goodIn_ca (goodIn_r _ [6, 7, 8, 9, 5, 10, 11, 12, 13, 14, 15, 16, 17, 18, 19, 20, 21, 22, 23, 24, 25, 26, 27, 28, 29, 30, 31, 32, 33, 34, 35, 36, 37, 38, 39, 40, 41, 42, 43, 44, 45, 46, 47, 48, 49, 50, 51, 52, 53, 54, 55, 56, 57, 58, 59, 60, 61, 62, 63, 64, 65, 66, 67, 68, 69, 70, 71, 72, 73, 74, 75, 76, 77, 78, 79, 80, 81, 82, 83, 84, 85] (by decide +kernel) (by decide +kernel)) (goodIn_sub (fun _ h => List.mem_cons_of_mem _ (List.mem_append_right _ h)) (by decide +kernel))
set_option maxRecDepth 20000 in
theorem gL_count_X3_count : GoodIn wsL_count (wsV RL 49 RX3 yX3_count wsX3_count) := goodIn_app (goodIn_of _ (by decide +kernel)) ggL_count_X3_count
theorem dL_count_0 : decode cL_count 0 = .ok (.aload_n 2, 1) := by decide +kernel
theorem dL_count_1 : decode cL_count 1 = .ok (.iconst 0, 1) := by decide +kernel
theorem dL_count_2 : decode cL_count 2 = .ok (.aload_n 0, 1) := by decide +kernel
theorem dL_count_3 : decode cL_count 3 = .ok (.iload_n 1, 1) := by decide +kernel
theorem dL_count_4 : decode cL_count 4 = .ok (.invokevirtual 49, 3) := by decide +kernel
theorem dL_count_7 : decode cL_count 7 = .ok (.i2l, 1) := by decide +kernel
theorem dL_count_8 : decode cL_count 8 = .ok (.lastore, 1) := by decide +kernel
theorem dL_count_9 : decode cL_count 9 = .ok (.goto 6, 3) := by decide +kernel
theorem dL_count_12 : decode cL_count 12 = .ok (.astore_n 3, 1) := by decide +kernel
theorem dL_count_13 : decode cL_count 13 = .ok (.iconst 1, 1) := by decide +kernel
theorem dL_count_14 : decode cL_count 14 = .ok (.ireturn, 1) := by decide +kernel
theorem dL_count_15 : decode cL_count 15 = .ok (.iconst 0, 1) := by decide +kernel
theorem dL_count_16 : decode cL_count 16 = .ok (.ireturn, 1) := by decide +kernel
set_option maxRecDepth 20000 in
theorem ggL_wool_X3_wool : GoodIn wsL_wool wsX3_wool := goodIn_ca (goodIn_r _ [6, 7, 8, 9, 5, 10, 11, 12, 13, 14, 15, 16, 17, 18, 19, 20, 21, 22, 23, 24, 25, 26] (by decide +kernel) (by decide +kernel)) (goodIn_sub (fun _ h => List.mem_cons_of_mem _ (List.mem_append_right _ h)) (by decide +kernel))
set_option maxRecDepth 20000 in
theorem gL_wool_X3_wool : GoodIn wsL_wool (wsV RL 52 RX3 yX3_wool wsX3_wool) := goodIn_app (goodIn_of _ (by decide +kernel)) ggL_wool_X3_wool
theorem dL_wool_0 : decode cL_wool 0 = .ok (.aload_n 2, 1) := by decide +kernel
theorem dL_wool_1 : decode cL_wool 1 = .ok (.iconst 0, 1) := by decide +kernel
theorem dL_wool_2 : decode cL_wool 2 = .ok (.aload_n 0, 1) := by decide +kernel
theorem dL_wool_3 : decode cL_wool 3 = .ok (.iload_n 1, 1) := by decide +kernel
theorem dL_wool_4 : decode cL_wool 4 = .ok (.invokevirtual 52, 3) := by decide +kernel
theorem dL_wool_7 : decode cL_wool 7 = .ok (.i2l, 1) := by decide +kernel
theorem dL_wool_8 : decode cL_wool 8 = .ok (.lastore, 1) := by decide +kernel
theorem dL_wool_9 : decode cL_wool 9 = .ok (.goto 6, 3) := by decide +kernel
theorem dL_wool_12 : decode cL_wool 12 = .ok (.astore_n 3, 1) := by decide +kernel
theorem dL_wool_13 : decode cL_wool 13 = .ok (.iconst 1, 1) := by decide +kernel
theorem dL_wool_14 : decode cL_wool 14 = .ok (.ireturn, 1) := by decide +kernel
theorem dL_wool_15 : decode cL_wool 15 = .ok (.iconst 0, 1) := by decide +kernel
theorem dL_wool_16 : decode cL_wool 16 = .ok (.ireturn, 1) := by decide +kernel
set_option maxRecDepth 20000 in
theorem ggL_advise_X3_advise : GoodIn wsL_advise wsX3_advise := goodIn_ca (goodIn_r _ [6, 7, 8, 9, 5, 10, 11, 12, 13, 14, 15, 16, 17, 18, 19, 20, 21, 22, 23, 24, 25, 26, 27, 28, 29, 30, 31, 32, 33, 34, 35, 36, 37, 38, 39, 40, 41, 42, 43, 44, 45, 46, 47, 48, 49, 50, 51, 52] (by decide +kernel) (by decide +kernel)) (goodIn_sub (fun _ h => List.mem_cons_of_mem _ (List.mem_append_right _ h)) (by decide +kernel))
set_option maxRecDepth 20000 in
theorem gL_advise_X3_advise : GoodIn wsL_advise (wsV RL 55 RX3 yX3_advise wsX3_advise) := goodIn_app (goodIn_of _ (by decide +kernel)) ggL_advise_X3_advise
theorem dL_advise_0 : decode cL_advise 0 = .ok (.aload_n 2, 1) := by decide +kernel
theorem dL_advise_1 : decode cL_advise 1 = .ok (.iconst 0, 1) := by decide +kernel
theorem dL_advise_2 : decode cL_advise 2 = .ok (.aload_n 0, 1) := by decide +kernel
theorem dL_advise_3 : decode cL_advise 3 = .ok (.iload_n 1, 1) := by decide +kernel
theorem dL_advise_4 : decode cL_advise 4 = .ok (.invokevirtual 55, 3) := by decide +kernel
theorem dL_advise_7 : decode cL_advise 7 = .ok (.i2l, 1) := by decide +kernel
theorem dL_advise_8 : decode cL_advise 8 = .ok (.lastore, 1) := by decide +kernel
theorem dL_advise_9 : decode cL_advise 9 = .ok (.goto 6, 3) := by decide +kernel
theorem dL_advise_12 : decode cL_advise 12 = .ok (.astore_n 3, 1) := by decide +kernel
theorem dL_advise_13 : decode cL_advise 13 = .ok (.iconst 1, 1) := by decide +kernel
theorem dL_advise_14 : decode cL_advise 14 = .ok (.ireturn, 1) := by decide +kernel
theorem dL_advise_15 : decode cL_advise 15 = .ok (.iconst 0, 1) := by decide +kernel
theorem dL_advise_16 : decode cL_advise 16 = .ok (.ireturn, 1) := by decide +kernel
set_option maxRecDepth 20000 in
theorem ggL_runs_X3_runs : GoodIn wsL_runs wsX3_runs := goodIn_ca (goodIn_r _ [6, 7, 8, 9, 5, 10, 11, 12, 13, 14, 15, 16, 17, 18, 19, 20, 21, 22, 23, 24, 25, 26, 27, 28, 29, 30, 31, 32, 33, 34, 35, 36, 37, 38, 39, 40, 41, 42, 43, 44, 45, 46, 47, 48, 49, 50, 51] (by decide +kernel) (by decide +kernel)) (goodIn_sub (fun _ h => List.mem_cons_of_mem _ (List.mem_append_right _ h)) (by decide +kernel))
set_option maxRecDepth 20000 in
theorem gL_runs_X3_runs : GoodIn wsL_runs (wsV RL 58 RX3 yX3_runs wsX3_runs) := goodIn_app (goodIn_of _ (by decide +kernel)) ggL_runs_X3_runs
theorem dL_runs_0 : decode cL_runs 0 = .ok (.aload_n 2, 1) := by decide +kernel
theorem dL_runs_1 : decode cL_runs 1 = .ok (.iconst 0, 1) := by decide +kernel
theorem dL_runs_2 : decode cL_runs 2 = .ok (.aload_n 0, 1) := by decide +kernel
theorem dL_runs_3 : decode cL_runs 3 = .ok (.iload_n 1, 1) := by decide +kernel
theorem dL_runs_4 : decode cL_runs 4 = .ok (.invokevirtual 58, 3) := by decide +kernel
theorem dL_runs_7 : decode cL_runs 7 = .ok (.i2l, 1) := by decide +kernel
theorem dL_runs_8 : decode cL_runs 8 = .ok (.lastore, 1) := by decide +kernel
theorem dL_runs_9 : decode cL_runs 9 = .ok (.goto 6, 3) := by decide +kernel
theorem dL_runs_12 : decode cL_runs 12 = .ok (.astore_n 3, 1) := by decide +kernel
theorem dL_runs_13 : decode cL_runs 13 = .ok (.iconst 1, 1) := by decide +kernel
theorem dL_runs_14 : decode cL_runs 14 = .ok (.ireturn, 1) := by decide +kernel
theorem dL_runs_15 : decode cL_runs 15 = .ok (.iconst 0, 1) := by decide +kernel
theorem dL_runs_16 : decode cL_runs 16 = .ok (.ireturn, 1) := by decide +kernel
set_option maxRecDepth 20000 in
theorem ggL_mends_X3_mends : GoodIn wsL_mends wsX3_mends := goodIn_ca (goodIn_r _ [6, 7, 8, 9, 5, 10, 11, 12, 13, 14, 15, 16, 17, 18, 19, 20, 21, 22, 23, 24, 25, 26, 27, 28, 29, 30, 31, 32, 33, 34, 35, 36, 37, 38, 39, 40, 41, 42, 43, 44, 45, 46, 47, 48] (by decide +kernel) (by decide +kernel)) (goodIn_sub (fun _ h => List.mem_cons_of_mem _ (List.mem_append_right _ h)) (by decide +kernel))
set_option maxRecDepth 20000 in
theorem gL_mends_X3_mends : GoodIn wsL_mends (wsV RL 61 RX3 yX3_mends wsX3_mends) := goodIn_app (goodIn_of _ (by decide +kernel)) ggL_mends_X3_mends
theorem dL_mends_0 : decode cL_mends 0 = .ok (.aload_n 2, 1) := by decide +kernel
theorem dL_mends_1 : decode cL_mends 1 = .ok (.iconst 0, 1) := by decide +kernel
theorem dL_mends_2 : decode cL_mends 2 = .ok (.aload_n 0, 1) := by decide +kernel
theorem dL_mends_3 : decode cL_mends 3 = .ok (.iload_n 1, 1) := by decide +kernel
theorem dL_mends_4 : decode cL_mends 4 = .ok (.invokevirtual 61, 3) := by decide +kernel
theorem dL_mends_7 : decode cL_mends 7 = .ok (.i2l, 1) := by decide +kernel
theorem dL_mends_8 : decode cL_mends 8 = .ok (.lastore, 1) := by decide +kernel
theorem dL_mends_9 : decode cL_mends 9 = .ok (.goto 6, 3) := by decide +kernel
theorem dL_mends_12 : decode cL_mends 12 = .ok (.astore_n 3, 1) := by decide +kernel
theorem dL_mends_13 : decode cL_mends 13 = .ok (.iconst 1, 1) := by decide +kernel
theorem dL_mends_14 : decode cL_mends 14 = .ok (.ireturn, 1) := by decide +kernel
theorem dL_mends_15 : decode cL_mends 15 = .ok (.iconst 0, 1) := by decide +kernel
theorem dL_mends_16 : decode cL_mends 16 = .ok (.ireturn, 1) := by decide +kernel
set_option maxRecDepth 20000 in
theorem ggL_pass_X3_pass : GoodIn wsL_pass wsX3_pass := goodIn_ca (goodIn_r _ [6, 7, 8, 9, 5, 10, 11, 12, 13, 14, 15, 16, 17, 18, 19, 20, 21, 22, 23, 24, 25, 26, 27, 28, 29, 30, 31, 32, 33, 34, 35, 36, 37, 38, 39, 40, 41, 42, 43, 44, 45, 46, 47, 48, 49, 50, 51, 52, 53, 54, 55, 56, 57, 58, 59, 60, 61, 62, 63, 64, 65, 66, 67, 68, 69, 70, 71, 72, 73, 74, 75, 76] (by decide +kernel) (by decide +kernel)) (goodIn_sub (fun _ h => List.mem_cons_of_mem _ (List.mem_append_right _ h)) (by decide +kernel))
set_option maxRecDepth 20000 in
theorem gL_pass_X3_pass : GoodIn wsL_pass (wsV RL 64 RX3 yX3_pass wsX3_pass) := goodIn_app (goodIn_of _ (by decide +kernel)) ggL_pass_X3_pass
theorem dL_pass_0 : decode cL_pass 0 = .ok (.aload_n 2, 1) := by decide +kernel
theorem dL_pass_1 : decode cL_pass 1 = .ok (.iconst 0, 1) := by decide +kernel
theorem dL_pass_2 : decode cL_pass 2 = .ok (.aload_n 0, 1) := by decide +kernel
theorem dL_pass_3 : decode cL_pass 3 = .ok (.iload_n 1, 1) := by decide +kernel
theorem dL_pass_4 : decode cL_pass 4 = .ok (.invokevirtual 64, 3) := by decide +kernel
theorem dL_pass_7 : decode cL_pass 7 = .ok (.i2l, 1) := by decide +kernel
theorem dL_pass_8 : decode cL_pass 8 = .ok (.lastore, 1) := by decide +kernel
theorem dL_pass_9 : decode cL_pass 9 = .ok (.goto 6, 3) := by decide +kernel
theorem dL_pass_12 : decode cL_pass 12 = .ok (.astore_n 3, 1) := by decide +kernel
theorem dL_pass_13 : decode cL_pass 13 = .ok (.iconst 1, 1) := by decide +kernel
theorem dL_pass_14 : decode cL_pass 14 = .ok (.ireturn, 1) := by decide +kernel
theorem dL_pass_15 : decode cL_pass 15 = .ok (.iconst 0, 1) := by decide +kernel
theorem dL_pass_16 : decode cL_pass 16 = .ok (.ireturn, 1) := by decide +kernel
set_option maxRecDepth 20000 in
theorem ggL_done_X3_done : GoodIn wsL_done wsX3_done := goodIn_ca (goodIn_r _ [6, 7, 8, 9, 10, 5, 11, 12, 13, 14, 15, 16, 17, 18, 19, 20, 21, 22, 23, 24, 25, 26, 27, 28, 29, 30, 31, 32, 33, 34, 35, 36, 37, 38, 39, 40, 41, 42, 43, 44, 45, 46, 47, 48, 49, 50, 51, 52, 53, 54, 55, 56, 57, 58, 59, 60, 61, 62, 63, 64, 65, 66, 67, 68, 69, 70, 71, 72, 73, 74, 75, 76, 77, 78, 79, 80, 81, 82, 83, 84, 85, 86, 87, 88, 89, 90, 91, 92, 93, 94, 95, 96, 97] (by decide +kernel) (by decide +kernel)) (goodIn_sub (fun _ h => List.mem_cons_of_mem _ (List.mem_append_right _ h)) (by decide +kernel))
set_option maxRecDepth 20000 in
theorem gL_done_X3_done : GoodIn wsL_done (wsV RL 67 RX3 yX3_done wsX3_done) := goodIn_app (goodIn_of _ (by decide +kernel)) ggL_done_X3_done
theorem dL_done_0 : decode cL_done 0 = .ok (.aload_n 2, 1) := by decide +kernel
theorem dL_done_1 : decode cL_done 1 = .ok (.iconst 0, 1) := by decide +kernel
theorem dL_done_2 : decode cL_done 2 = .ok (.aload_n 0, 1) := by decide +kernel
theorem dL_done_3 : decode cL_done 3 = .ok (.iload_n 1, 1) := by decide +kernel
theorem dL_done_4 : decode cL_done 4 = .ok (.invokevirtual 67, 3) := by decide +kernel
theorem dL_done_7 : decode cL_done 7 = .ok (.i2l, 1) := by decide +kernel
theorem dL_done_8 : decode cL_done 8 = .ok (.lastore, 1) := by decide +kernel
theorem dL_done_9 : decode cL_done 9 = .ok (.goto 6, 3) := by decide +kernel
theorem dL_done_12 : decode cL_done 12 = .ok (.astore_n 3, 1) := by decide +kernel
theorem dL_done_13 : decode cL_done 13 = .ok (.iconst 1, 1) := by decide +kernel
theorem dL_done_14 : decode cL_done 14 = .ok (.ireturn, 1) := by decide +kernel
theorem dL_done_15 : decode cL_done 15 = .ok (.iconst 0, 1) := by decide +kernel
theorem dL_done_16 : decode cL_done 16 = .ok (.ireturn, 1) := by decide +kernel
set_option maxRecDepth 20000 in
theorem ggL_foresee_X3_foresee : GoodIn wsL_foresee wsX3_foresee := goodIn_ca (goodIn_ca (goodIn_r _ [7, 8, 9, 10, 11, 6, 12, 13, 14, 15, 16, 17, 18, 19, 20, 21, 22, 23, 24, 25, 26, 27, 28, 29, 30, 31, 32, 33, 34, 35, 36, 37, 38, 39, 40, 41, 42, 43, 44, 45, 46, 47, 48, 49, 50, 51, 52, 53, 54, 55, 56, 57, 58, 59, 60, 61, 62, 63, 64, 65, 66, 67, 68, 69, 70, 71, 72, 73, 74, 75, 76, 77, 78, 79, 80, 81, 82, 83, 84, 85, 86, 87, 88, 89, 90, 91, 92, 93, 94, 95, 96, 97, 98, 99, 100, 101, 102, 103, 104, 105, 106, 107, 108, 109, 110, 111, 112, 113, 114, 115, 116, 117, 118, 119, 120, 121, 122, 123, 124, 125] (by decide +kernel) (by decide +kernel)) (goodIn_sub (fun _ h => List.mem_cons_of_mem _ (List.mem_append_left _ (List.mem_append_right _ h))) (by decide +kernel))) (goodIn_sub (fun _ h => List.mem_cons_of_mem _ (List.mem_append_right _ h)) (by decide +kernel))
set_option maxRecDepth 20000 in
theorem gL_foresee_X3_foresee : GoodIn wsL_foresee (wsV RL 70 RX3 yX3_foresee wsX3_foresee) := goodIn_app (goodIn_of _ (by decide +kernel)) ggL_foresee_X3_foresee
theorem dL_foresee_0 : decode cL_foresee 0 = .ok (.aload_n 3, 1) := by decide +kernel
theorem dL_foresee_1 : decode cL_foresee 1 = .ok (.iconst 0, 1) := by decide +kernel
theorem dL_foresee_2 : decode cL_foresee 2 = .ok (.aload_n 0, 1) := by decide +kernel
theorem dL_foresee_3 : decode cL_foresee 3 = .ok (.iload_n 1, 1) := by decide +kernel
theorem dL_foresee_4 : decode cL_foresee 4 = .ok (.iload_n 2, 1) := by decide +kernel
theorem dL_foresee_5 : decode cL_foresee 5 = .ok (.invokevirtual 70, 3) := by decide +kernel
theorem dL_foresee_8 : decode cL_foresee 8 = .ok (.i2l, 1) := by decide +kernel
theorem dL_foresee_9 : decode cL_foresee 9 = .ok (.lastore, 1) := by decide +kernel
theorem dL_foresee_10 : decode cL_foresee 10 = .ok (.goto 11, 3) := by decide +kernel
theorem dL_foresee_13 : decode cL_foresee 13 = .ok (.astore 4, 2) := by decide +kernel
theorem dL_foresee_15 : decode cL_foresee 15 = .ok (.iconst 1, 1) := by decide +kernel
theorem dL_foresee_16 : decode cL_foresee 16 = .ok (.ireturn, 1) := by decide +kernel
theorem dL_foresee_17 : decode cL_foresee 17 = .ok (.astore 4, 2) := by decide +kernel
theorem dL_foresee_19 : decode cL_foresee 19 = .ok (.iconst 2, 1) := by decide +kernel
theorem dL_foresee_20 : decode cL_foresee 20 = .ok (.ireturn, 1) := by decide +kernel
theorem dL_foresee_21 : decode cL_foresee 21 = .ok (.iconst 0, 1) := by decide +kernel
theorem dL_foresee_22 : decode cL_foresee 22 = .ok (.ireturn, 1) := by decide +kernel
set_option maxRecDepth 20000 in
theorem ggL_law_X3_init : GoodIn wsL_law wsX3_init := goodIn_r _ [9, 10, 11, 12, 13, 14, 15, 16, 17, 18, 19, 20, 21, 22, 23, 24, 25, 26, 27, 28, 29, 30, 31, 32, 33, 34, 35, 36, 37, 38, 39, 40, 41, 42, 43, 44, 45, 46, 47, 48, 49, 50, 587, 588, 589, 590, 591, 578, 579, 592, 593, 594, 595, 596, 597, 598, 599, 600, 601] (by decide +kernel) (by decide +kernel)
set_option maxRecDepth 20000 in
theorem gL_law_X3_init : GoodIn wsL_law (wsX3_init) := ggL_law_X3_init
set_option maxRecDepth 20000 in
theorem ggL_law_X4_init : GoodIn wsL_law wsX4_init := goodIn_r _ [53, 54, 11, 12, 36, 55, 56, 57, 58, 59, 60, 580, 581, 582, 583, 584, 585, 586] (by decide +kernel) (by decide +kernel)
set_option maxRecDepth 20000 in
theorem gL_law_X4_init : GoodIn wsL_law (wsX4_init) := ggL_law_X4_init
set_option maxRecDepth 20000 in
theorem ggL_law_L_plan : GoodIn wsL_law wsL_plan := goodIn_ca (goodIn_ca (goodIn_r _ [64, 65, 66, 67, 68, 69, 2, 70, 16, 71, 72, 73, 74, 75, 76, 77, 78, 79, 80, 81, 82, 83, 84, 85, 86, 87, 88, 89, 15, 90, 91, 92, 93, 94, 95, 96, 24, 25, 97, 98, 99, 100, 101, 102, 23, 103, 37, 104, 105, 106, 107, 578, 579, 587, 588, 589, 590, 591, 592, 593, 594, 595, 596, 597, 598, 599, 600] (by decide +kernel) (by decide +kernel)) (goodIn_sub (fun _ h => List.mem_append_left _ (List.mem_append_left _ (List.mem_append_right _ h))) (by decide +kernel))) (goodIn_sub (fun _ h => List.mem_append_left _ (List.mem_append_right _ h)) (by decide +kernel))
set_option maxRecDepth 20000 in
theorem gL_law_L_plan : GoodIn wsL_law (va_wsS RL 77 yL_plan wsL_plan) := goodIn_app (goodIn_of _ (by decide +kernel)) ggL_law_L_plan
set_option maxRecDepth 20000 in
theorem ggL_law_X4_plan : GoodIn wsL_law wsX4_plan := goodIn_r _ [111, 112, 57, 113, 114, 5, 115, 116, 117, 118, 119, 120, 121, 122, 123, 124, 125, 126, 127, 128, 580, 581, 582, 583, 584, 585, 586] (by decide +kernel) (by decide +kernel)
set_option maxRecDepth 20000 in
theorem gL_law_X4_plan : GoodIn wsL_law (wsV RL 82 RX4 yX4_plan wsX4_plan) := goodIn_app (goodIn_of _ (by decide +kernel)) ggL_law_X4_plan
set_option maxRecDepth 20000 in
theorem ggL_law_X4_thrown : GoodIn wsL_law wsX4_thrown := goodIn_r _ [132, 112, 580, 581, 582, 583, 584, 585, 586] (by decide +kernel) (by decide +kernel)
set_option maxRecDepth 20000 in
theorem gL_law_X4_thrown : GoodIn wsL_law (wsV RL 83 RX4 yX4_thrown wsX4_thrown) := goodIn_app (goodIn_of _ (by decide +kernel)) ggL_law_X4_thrown
set_option maxRecDepth 20000 in
theorem ggL_law_L_bring : GoodIn wsL_law wsL_bring := goodIn_ca (goodIn_r _ [135, 66, 136, 137, 138, 2, 139, 16, 84, 85, 86, 79, 80, 81, 82, 83, 140, 141, 142, 28, 143, 50, 144, 145, 146, 147, 104, 105, 106, 107, 578, 579, 587, 588, 589, 590, 591, 601] (by decide +kernel) (by decide +kernel)) (goodIn_sub (fun _ h => List.mem_append_left _ (List.mem_append_right _ h)) (by decide +kernel))
set_option maxRecDepth 20000 in
theorem gL_law_L_bring : GoodIn wsL_law (va_wsS RL 87 yL_bring wsL_bring) := goodIn_app (goodIn_of _ (by decide +kernel)) ggL_law_L_bring
set_option maxRecDepth 20000 in
theorem ggL_law_X4_bring : GoodIn wsL_law wsX4_bring := goodIn_r _ [151, 112, 59, 152, 145, 146, 147, 123, 124, 5, 125, 116, 117, 118, 119, 120, 121, 122, 580, 581, 582, 583, 584, 585, 586] (by decide +kernel) (by decide +kernel)
set_option maxRecDepth 20000 in
theorem gL_law_X4_bring : GoodIn wsL_law (wsV RL 90 RX4 yX4_bring wsX4_bring) := goodIn_app (goodIn_of _ (by decide +kernel)) ggL_law_X4_bring
set_option maxRecDepth 20000 in
theorem ggL_law_L_setSpeed : GoodIn wsL_law wsL_setSpeed := goodIn_ca (goodIn_ca (goodIn_r _ [155, 65, 66, 156, 157, 158, 2, 159, 16, 160, 161, 162, 74, 75, 76, 77, 78, 79, 80, 81, 82, 83, 163, 94, 95, 15, 96, 24, 25, 578, 579, 592, 593, 594, 595, 596, 597, 598, 599, 600, 587, 588, 589, 590, 591] (by decide +kernel) (by decide +kernel)) (goodIn_sub (fun _ h => List.mem_append_left _ (List.mem_append_left _ (List.mem_append_right _ h))) (by decide +kernel))) (goodIn_sub (fun _ h => List.mem_append_left _ (List.mem_append_right _ h)) (by decide +kernel))
set_option maxRecDepth 20000 in
theorem gL_law_L_setSpeed : GoodIn wsL_law (va_wsS RL 91 yL_setSpeed wsL_setSpeed) := goodIn_app (goodIn_of _ (by decide +kernel)) ggL_law_L_setSpeed
set_option maxRecDepth 20000 in
theorem ggL_law_X4_setSpeed : GoodIn wsL_law wsX4_setSpeed := goodIn_r _ [167, 112, 168, 169, 5, 170, 116, 117, 118, 119, 120, 121, 122, 171, 172, 173, 174, 55, 175, 176, 177, 178, 580, 581, 582, 583, 584, 585, 586] (by decide +kernel) (by decide +kernel)
set_option maxRecDepth 20000 in
theorem gL_law_X4_setSpeed : GoodIn wsL_law (wsV RL 93 RX4 yX4_setSpeed wsX4_setSpeed) := goodIn_app (goodIn_of _ (by decide +kernel)) ggL_law_X4_setSpeed
set_option maxRecDepth 20000 in
theorem ggL_law_L_tell : GoodIn wsL_law wsL_tell := goodIn_ca (goodIn_ca (goodIn_ca (goodIn_r _ [181, 65, 66, 182, 183, 184, 185, 2, 186, 187, 188, 16, 160, 161, 162, 74, 75, 76, 77, 78, 84, 85, 86, 79, 80, 81, 82, 83, 163, 94, 95, 15, 96, 24, 25, 189, 190, 191, 23, 192, 39, 42, 40, 106, 107, 578, 579, 592, 593, 594, 595, 596, 597, 598, 599, 600, 587, 588, 589, 590, 591] (by decide +kernel) (by decide +kernel)) (goodIn_sub (fun _ h => List.mem_append_right _ h) (by decide +kernel))) (goodIn_sub (fun _ h => List.mem_append_left _ (List.mem_append_left _ (List.mem_append_right _ h))) (by decide +kernel))) (goodIn_sub (fun _ h => List.mem_append_left _ (List.mem_append_right _ h)) (by decide +kernel))
set_option maxRecDepth 20000 in
theorem gL_law_L_tell : GoodIn wsL_law (va_wsS RL 94 yL_tell wsL_tell) := goodIn_app (goodIn_of _ (by decide +kernel)) ggL_law_L_tell
set_option maxRecDepth 20000 in
theorem ggL_law_X4_tell : GoodIn wsL_law wsX4_tell := goodIn_r _ [196, 112, 58, 168, 169, 5, 170, 116, 117, 118, 119, 120, 121, 122, 123, 124, 125, 171, 172, 173, 174, 55, 197, 198, 199, 200, 175, 176, 177, 178, 580, 581, 582, 583, 584, 585, 586] (by decide +kernel) (by decide +kernel)
set_option maxRecDepth 20000 in
theorem gL_law_X4_tell : GoodIn wsL_law (wsV RL 97 RX4 yX4_tell wsX4_tell) := goodIn_app (goodIn_of _ (by decide +kernel)) ggL_law_X4_tell
set_option maxRecDepth 20000 in
theorem ggL_law_L_hush : GoodIn wsL_law wsL_hush := goodIn_ca (goodIn_r _ [203, 65, 204, 205, 206, 2, 207, 16, 160, 161, 162, 74, 75, 76, 77, 78, 163, 94, 95, 15, 96, 24, 25, 208, 209, 210, 23, 211, 42, 40, 104, 105, 578, 579, 592, 593, 594, 595, 596, 597, 598, 599, 600, 587, 588, 589, 590, 591] (by decide +kernel) (by decide +kernel)) (goodIn_sub (fun _ h => List.mem_append_left _ (List.mem_append_left _ (List.mem_append_right _ h))) (by decide +kernel))
set_option maxRecDepth 20000 in
theorem gL_law_L_hush : GoodIn wsL_law (va_wsS RL 98 yL_hush wsL_hush) := goodIn_app (goodIn_of _ (by decide +kernel)) ggL_law_L_hush
set_option maxRecDepth 20000 in
theorem ggL_law_X4_hush : GoodIn wsL_law wsX4_hush := goodIn_r _ [215, 112, 168, 169, 5, 170, 116, 117, 118, 119, 120, 121, 122, 216, 217, 218, 219, 58, 171, 172, 173, 174, 55, 197, 198, 199, 200, 175, 176, 177, 178, 580, 581, 582, 583, 584, 585, 586] (by decide +kernel) (by decide +kernel)
set_option maxRecDepth 20000 in
theorem gL_law_X4_hush : GoodIn wsL_law (wsV RL 101 RX4 yX4_hush wsX4_hush) := goodIn_app (goodIn_of _ (by decide +kernel)) ggL_law_X4_hush
set_option maxRecDepth 20000 in
theorem ggL_law_L_unpick : GoodIn wsL_law wsL_unpick := goodIn_ca (goodIn_ca (goodIn_ca (goodIn_r _ [222, 65, 66, 182, 223, 224, 225, 2, 226, 187, 188, 16, 160, 161, 162, 74, 75, 76, 77, 78, 79, 80, 81, 82, 83, 163, 94, 95, 15, 96, 24, 25, 227, 228, 229, 23, 230, 43, 38, 104, 105, 231, 141, 142, 28, 143, 50, 144, 145, 146, 147, 106, 107, 578, 579, 592, 593, 594, 595, 596, 597, 598, 599, 600, 587, 588, 589, 590, 591, 601] (by decide +kernel) (by decide +kernel)) (goodIn_sub (fun _ h => List.mem_append_right _ h) (by decide +kernel))) (goodIn_sub (fun _ h => List.mem_append_left _ (List.mem_append_left _ (List.mem_append_right _ h))) (by decide +kernel))) (goodIn_sub (fun _ h => List.mem_append_left _ (List.mem_append_right _ h)) (by decide +kernel))
set_option maxRecDepth 20000 in
theorem gL_law_L_unpick : GoodIn wsL_law (va_wsS RL 102 yL_unpick wsL_unpick) := goodIn_app (goodIn_of _ (by decide +kernel)) ggL_law_L_unpick
set_option maxRecDepth 20000 in
theorem ggL_law_X4_unpick : GoodIn wsL_law wsX4_unpick := goodIn_r _ [235, 112, 56, 59, 152, 145, 146, 147, 60, 168, 169, 5, 170, 116, 117, 118, 119, 120, 121, 122, 171, 172, 173, 174, 55, 175, 176, 177, 178, 580, 581, 582, 583, 584, 585, 586] (by decide +kernel) (by decide +kernel)
set_option maxRecDepth 20000 in
theorem gL_law_X4_unpick : GoodIn wsL_law (wsV RL 104 RX4 yX4_unpick wsX4_unpick) := goodIn_app (goodIn_of _ (by decide +kernel)) ggL_law_X4_unpick
set_option maxRecDepth 20000 in
theorem ggL_law_L_cell : GoodIn wsL_law wsL_cell := goodIn_ca (goodIn_r _ [238, 65, 239, 240, 241, 2, 242, 16, 71, 72, 73, 74, 75, 76, 77, 78, 243, 244, 245, 15, 246, 247, 88, 89, 90, 91, 92, 93, 94, 95, 96, 24, 25, 98, 99, 248, 249, 250, 23, 251, 43, 38, 104, 105, 252, 253, 254, 255, 578, 579, 587, 588, 589, 590, 591, 592, 593, 594, 595, 596, 597, 598, 599, 600] (by decide +kernel) (by decide +kernel)) (goodIn_sub (fun _ h => List.mem_append_left _ (List.mem_append_left _ (List.mem_append_right _ h))) (by decide +kernel))
set_option maxRecDepth 20000 in
theorem gL_law_L_cell : GoodIn wsL_law (va_wsS RL 105 yL_cell wsL_cell) := goodIn_app (goodIn_of _ (by decide +kernel)) ggL_law_L_cell
set_option maxRecDepth 20000 in
theorem ggL_law_X4_cell : GoodIn wsL_law wsX4_cell := goodIn_r _ [259, 112, 57, 113, 114, 5, 115, 116, 117, 118, 260, 261, 262, 263, 56, 126, 127, 128, 171, 172, 173, 174, 55, 119, 120, 121, 122, 580, 581, 582, 583, 584, 585, 586] (by decide +kernel) (by decide +kernel)
set_option maxRecDepth 20000 in
theorem gL_law_X4_cell : GoodIn wsL_law (wsV RL 107 RX4 yX4_cell wsX4_cell) := goodIn_app (goodIn_of _ (by decide +kernel)) ggL_law_X4_cell
set_option maxRecDepth 20000 in
theorem ggL_law_L_sees : GoodIn wsL_law wsL_sees := goodIn_ca (goodIn_r _ [266, 65, 267, 268, 269, 2, 270, 16, 160, 161, 162, 74, 75, 76, 77, 78, 71, 72, 73, 271, 91, 92, 163, 94, 95, 15, 96, 24, 25, 272, 273, 274, 23, 275, 43, 243, 244, 245, 246, 247, 88, 89, 90, 93, 98, 99, 248, 249, 250, 251, 38, 104, 105, 578, 579, 587, 588, 589, 590, 591, 592, 593, 594, 595, 596, 597, 598, 599, 600] (by decide +kernel) (by decide +kernel)) (goodIn_sub (fun _ h => List.mem_append_left _ (List.mem_append_left _ (List.mem_append_right _ h))) (by decide +kernel))
set_option maxRecDepth 20000 in
theorem gL_law_L_sees : GoodIn wsL_law (va_wsS RL 108 yL_sees wsL_sees) := goodIn_app (goodIn_of _ (by decide +kernel)) ggL_law_L_sees
set_option maxRecDepth 20000 in
theorem ggL_law_X4_sees : GoodIn wsL_law wsX4_sees := goodIn_r _ [279, 112, 168, 169, 5, 170, 116, 117, 118, 113, 114, 115, 119, 120, 121, 122, 171, 172, 173, 174, 55, 260, 261, 262, 263, 56, 126, 127, 128, 580, 581, 582, 583, 584, 585, 586] (by decide +kernel) (by decide +kernel)
set_option maxRecDepth 20000 in
theorem gL_law_X4_sees : GoodIn wsL_law (wsV RL 110 RX4 yX4_sees wsX4_sees) := goodIn_app (goodIn_of _ (by decide +kernel)) ggL_law_X4_sees
set_option maxRecDepth 20000 in
theorem ggL_law_L_weaver : GoodIn wsL_law wsL_weaver := goodIn_ca (goodIn_r _ [282, 65, 283, 284, 285, 2, 286, 16, 160, 161, 162, 74, 75, 76, 77, 78, 163, 94, 95, 15, 96, 24, 25, 287, 288, 289, 23, 290, 41, 42, 43, 44, 291, 209, 210, 211, 40, 104, 105, 292, 293, 294, 295, 45, 296, 297, 298, 299, 578, 579, 587, 588, 589, 590, 591, 592, 593, 594, 595, 596, 597, 598, 599, 600] (by decide +kernel) (by decide +kernel)) (goodIn_sub (fun _ h => List.mem_append_left _ (List.mem_append_left _ (List.mem_append_right _ h))) (by decide +kernel))
set_option maxRecDepth 20000 in
theorem gL_law_L_weaver : GoodIn wsL_law (va_wsS RL 111 yL_weaver wsL_weaver) := goodIn_app (goodIn_of _ (by decide +kernel)) ggL_law_L_weaver
set_option maxRecDepth 20000 in
theorem ggL_law_X4_weaver : GoodIn wsL_law wsX4_weaver := goodIn_r _ [303, 112, 168, 169, 5, 170, 116, 117, 118, 304, 305, 306, 307, 171, 172, 173, 174, 55, 216, 217, 218, 219, 58, 197, 198, 199, 200, 308, 309, 310, 119, 120, 121, 122, 580, 581, 582, 583, 584, 585, 586] (by decide +kernel) (by decide +kernel)
set_option maxRecDepth 20000 in
theorem gL_law_X4_weaver : GoodIn wsL_law (wsV RL 113 RX4 yX4_weaver wsX4_weaver) := goodIn_app (goodIn_of _ (by decide +kernel)) ggL_law_X4_weaver
set_option maxRecDepth 20000 in
theorem ggL_law_L_run : GoodIn wsL_law wsL_run := goodIn_ca (goodIn_r _ [313, 65, 314, 315, 316, 2, 317, 16, 160, 161, 162, 74, 75, 76, 77, 78, 163, 94, 95, 15, 96, 24, 25, 318, 104, 105, 578, 579, 592, 593, 594, 595, 596, 597, 598, 599, 600, 587, 588, 589, 590, 591] (by decide +kernel) (by decide +kernel)) (goodIn_sub (fun _ h => List.mem_append_left _ (List.mem_append_left _ (List.mem_append_right _ h))) (by decide +kernel))
set_option maxRecDepth 20000 in
theorem gL_law_L_run : GoodIn wsL_law (va_wsS RL 114 yL_run wsL_run) := goodIn_app (goodIn_of _ (by decide +kernel)) ggL_law_L_run
set_option maxRecDepth 20000 in
theorem ggL_law_X4_run : GoodIn wsL_law wsX4_run := goodIn_r _ [322, 112, 58, 168, 169, 5, 170, 116, 117, 118, 171, 172, 173, 174, 55, 197, 198, 199, 200, 119, 120, 121, 122, 580, 581, 582, 583, 584, 585, 586] (by decide +kernel) (by decide +kernel)
set_option maxRecDepth 20000 in
theorem gL_law_X4_run : GoodIn wsL_law (wsV RL 116 RX4 yX4_run wsX4_run) := goodIn_app (goodIn_of _ (by decide +kernel)) ggL_law_X4_run
set_option maxRecDepth 20000 in
theorem ggL_law_L_count : GoodIn wsL_law wsL_count := goodIn_ca (goodIn_r _ [325, 65, 326, 327, 328, 2, 329, 16, 74, 75, 76, 77, 78, 330, 331, 332, 15, 333, 30, 29, 31, 334, 335, 336, 337, 24, 25, 338, 339, 340, 341, 342, 343, 344, 23, 345, 43, 38, 37, 104, 105, 346, 347, 348, 349, 350, 145, 146, 147, 351, 273, 274, 275, 352, 353, 354, 355, 98, 99, 356, 357, 358, 28, 359, 50, 360, 361, 362, 363, 578, 579, 587, 588, 589, 590, 591, 592, 593, 594, 595, 596, 597, 598, 599, 600, 601] (by decide +kernel) (by decide +kernel)) (goodIn_sub (fun _ h => List.mem_append_left _ (List.mem_append_left _ (List.mem_append_right _ h))) (by decide +kernel))
set_option maxRecDepth 20000 in
theorem gL_law_L_count : GoodIn wsL_law (va_wsS RL 117 yL_count wsL_count) := goodIn_app (goodIn_of _ (by decide +kernel)) ggL_law_L_count
set_option maxRecDepth 20000 in
theorem ggL_law_X4_count : GoodIn wsL_law wsX4_count := goodIn_r _ [367, 112, 116, 117, 5, 118, 368, 369, 370, 371, 60, 59, 171, 172, 173, 174, 55, 372, 373, 374, 375, 56, 57, 376, 377, 378, 379, 152, 145, 146, 147, 380, 381, 382, 383, 260, 261, 262, 263, 126, 127, 128, 119, 120, 121, 122, 580, 581, 582, 583, 584, 585, 586] (by decide +kernel) (by decide +kernel)
set_option maxRecDepth 20000 in
theorem gL_law_X4_count : GoodIn wsL_law (wsV RL 119 RX4 yX4_count wsX4_count) := goodIn_app (goodIn_of _ (by decide +kernel)) ggL_law_X4_count
set_option maxRecDepth 20000 in
theorem ggL_law_L_wool : GoodIn wsL_law wsL_wool := goodIn_ca (goodIn_r _ [386, 66, 387, 388, 389, 2, 390, 16, 84, 85, 86, 79, 80, 81, 82, 83, 318, 104, 105, 578, 579, 587, 588, 589, 590, 591, 601] (by decide +kernel) (by decide +kernel)) (goodIn_sub (fun _ h => List.mem_append_left _ (List.mem_append_right _ h)) (by decide +kernel))
set_option maxRecDepth 20000 in
theorem gL_law_L_wool : GoodIn wsL_law (va_wsS RL 120 yL_wool wsL_wool) := goodIn_app (goodIn_of _ (by decide +kernel)) ggL_law_L_wool
set_option maxRecDepth 20000 in
theorem ggL_law_X4_wool : GoodIn wsL_law wsX4_wool := goodIn_r _ [394, 112, 59, 123, 124, 5, 125, 116, 117, 118, 119, 120, 121, 122, 580, 581, 582, 583, 584, 585, 586] (by decide +kernel) (by decide +kernel)
set_option maxRecDepth 20000 in
theorem gL_law_X4_wool : GoodIn wsL_law (wsV RL 122 RX4 yX4_wool wsX4_wool) := goodIn_app (goodIn_of _ (by decide +kernel)) ggL_law_X4_wool
set_option maxRecDepth 20000 in
theorem ggL_law_L_advise : GoodIn wsL_law wsL_advise := goodIn_ca (goodIn_r _ [397, 65, 398, 399, 400, 2, 401, 16, 160, 161, 162, 74, 75, 76, 77, 78, 163, 94, 95, 15, 96, 24, 25, 402, 297, 298, 23, 299, 43, 318, 104, 105, 403, 404, 405, 406, 37, 578, 579, 592, 593, 594, 595, 596, 597, 598, 599, 600, 587, 588, 589, 590, 591] (by decide +kernel) (by decide +kernel)) (goodIn_sub (fun _ h => List.mem_append_left _ (List.mem_append_left _ (List.mem_append_right _ h))) (by decide +kernel))
set_option maxRecDepth 20000 in
theorem gL_law_L_advise : GoodIn wsL_law (va_wsS RL 123 yL_advise wsL_advise) := goodIn_app (goodIn_of _ (by decide +kernel)) ggL_law_L_advise
set_option maxRecDepth 20000 in
theorem ggL_law_X4_advise : GoodIn wsL_law wsX4_advise := goodIn_r _ [410, 112, 57, 168, 169, 5, 170, 116, 117, 118, 119, 120, 121, 122, 171, 172, 173, 174, 55, 411, 412, 413, 414, 580, 581, 582, 583, 584, 585, 586] (by decide +kernel) (by decide +kernel)
set_option maxRecDepth 20000 in
theorem gL_law_X4_advise : GoodIn wsL_law (wsV RL 125 RX4 yX4_advise wsX4_advise) := goodIn_app (goodIn_of _ (by decide +kernel)) ggL_law_X4_advise
set_option maxRecDepth 20000 in
theorem ggL_law_L_runs : GoodIn wsL_law wsL_runs := goodIn_ca (goodIn_r _ [417, 65, 418, 419, 420, 2, 421, 16, 160, 161, 162, 74, 75, 76, 77, 78, 163, 94, 95, 15, 96, 24, 25, 422, 423, 424, 23, 425, 43, 37, 296, 297, 298, 299, 104, 105, 578, 579, 587, 588, 589, 590, 591, 592, 593, 594, 595, 596, 597, 598, 599, 600] (by decide +kernel) (by decide +kernel)) (goodIn_sub (fun _ h => List.mem_append_left _ (List.mem_append_left _ (List.mem_append_right _ h))) (by decide +kernel))
set_option maxRecDepth 20000 in
theorem gL_law_L_runs : GoodIn wsL_law (va_wsS RL 126 yL_runs wsL_runs) := goodIn_app (goodIn_of _ (by decide +kernel)) ggL_law_L_runs
set_option maxRecDepth 20000 in
theorem ggL_law_X4_runs : GoodIn wsL_law wsX4_runs := goodIn_r _ [429, 112, 168, 169, 5, 170, 116, 117, 118, 119, 120, 121, 122, 171, 172, 173, 174, 55, 411, 412, 413, 414, 57, 580, 581, 582, 583, 584, 585, 586] (by decide +kernel) (by decide +kernel)
set_option maxRecDepth 20000 in
theorem gL_law_X4_runs : GoodIn wsL_law (wsV RL 128 RX4 yX4_runs wsX4_runs) := goodIn_app (goodIn_of _ (by decide +kernel)) ggL_law_X4_runs
set_option maxRecDepth 20000 in
theorem ggL_law_L_mends : GoodIn wsL_law wsL_mends := goodIn_ca (goodIn_r _ [432, 65, 433, 434, 435, 2, 436, 16, 160, 161, 162, 74, 75, 76, 77, 78, 163, 94, 95, 15, 96, 24, 25, 437, 438, 439, 23, 440, 43, 38, 37, 104, 105, 578, 579, 592, 593, 594, 595, 596, 597, 598, 599, 600, 587, 588, 589, 590, 591] (by decide +kernel) (by decide +kernel)) (goodIn_sub (fun _ h => List.mem_append_left _ (List.mem_append_left _ (List.mem_append_right _ h))) (by decide +kernel))
set_option maxRecDepth 20000 in
theorem gL_law_L_mends : GoodIn wsL_law (va_wsS RL 129 yL_mends wsL_mends) := goodIn_app (goodIn_of _ (by decide +kernel)) ggL_law_L_mends
set_option maxRecDepth 20000 in
theorem ggL_law_X4_mends : GoodIn wsL_law wsX4_mends := goodIn_r _ [444, 112, 56, 57, 168, 169, 5, 170, 116, 117, 118, 119, 120, 121, 122, 171, 172, 173, 174, 55, 580, 581, 582, 583, 584, 585, 586] (by decide +kernel) (by decide +kernel)
set_option maxRecDepth 20000 in
theorem gL_law_X4_mends : GoodIn wsL_law (wsV RL 131 RX4 yX4_mends wsX4_mends) := goodIn_app (goodIn_of _ (by decide +kernel)) ggL_law_X4_mends
set_option maxRecDepth 20000 in
theorem ggL_law_L_pass : GoodIn wsL_law wsL_pass := goodIn_ca (goodIn_r _ [447, 66, 448, 449, 450, 2, 451, 16, 79, 80, 81, 82, 83, 452, 453, 454, 15, 455, 24, 29, 25, 30, 456, 457, 458, 23, 459, 41, 460, 461, 462, 463, 42, 296, 297, 298, 299, 43, 464, 465, 466, 467, 39, 38, 44, 104, 105, 468, 469, 470, 28, 471, 50, 106, 107, 472, 473, 474, 475, 40, 578, 579, 587, 588, 589, 590, 591, 592, 593, 594, 595, 596, 597, 598, 599, 600, 601] (by decide +kernel) (by decide +kernel)) (goodIn_sub (fun _ h => List.mem_append_left _ (List.mem_append_right _ h)) (by decide +kernel))
set_option maxRecDepth 20000 in
theorem gL_law_L_pass : GoodIn wsL_law (va_wsS RL 132 yL_pass wsL_pass) := goodIn_app (goodIn_of _ (by decide +kernel)) ggL_law_L_pass
set_option maxRecDepth 20000 in
theorem ggL_law_X4_pass : GoodIn wsL_law wsX4_pass := goodIn_r _ [479, 112, 116, 117, 5, 118, 119, 120, 121, 122, 368, 369, 370, 371, 60, 59, 171, 172, 173, 174, 55, 372, 373, 374, 375, 56, 57, 376, 377, 378, 379, 152, 145, 146, 147, 380, 381, 382, 383, 260, 261, 262, 263, 126, 127, 128, 480, 481, 482, 483, 484, 485, 486, 487, 488, 489, 490, 491, 58, 197, 198, 199, 200, 175, 176, 177, 178, 492, 493, 494, 495, 496, 497, 498, 499, 580, 581, 582, 583, 584, 585, 586] (by decide +kernel) (by decide +kernel)
set_option maxRecDepth 20000 in
theorem gL_law_X4_pass : GoodIn wsL_law (wsV RL 134 RX4 yX4_pass wsX4_pass) := goodIn_app (goodIn_of _ (by decide +kernel)) ggL_law_X4_pass
set_option maxRecDepth 20000 in
theorem ggL_law_L_done : GoodIn wsL_law wsL_done := goodIn_ca (goodIn_r _ [502, 65, 503, 504, 505, 2, 506, 17, 16, 160, 161, 162, 74, 75, 76, 77, 78, 507, 508, 509, 15, 510, 24, 25, 29, 30, 31, 511, 512, 513, 23, 514, 37, 38, 39, 40, 41, 42, 43, 44, 515, 516, 163, 94, 95, 96, 517, 461, 462, 463, 296, 297, 298, 299, 452, 453, 454, 455, 456, 457, 458, 459, 460, 464, 465, 466, 467, 104, 105, 468, 469, 470, 28, 471, 50, 106, 107, 472, 473, 474, 475, 578, 579, 587, 588, 589, 590, 591, 601, 592, 593, 594, 595, 596, 597, 598, 599, 600] (by decide +kernel) (by decide +kernel)) (goodIn_sub (fun _ h => List.mem_append_left _ (List.mem_append_left _ (List.mem_append_right _ h))) (by decide +kernel))
set_option maxRecDepth 20000 in
theorem gL_law_L_done : GoodIn wsL_law (va_wsS RL 135 yL_done wsL_done) := goodIn_app (goodIn_of _ (by decide +kernel)) ggL_law_L_done
set_option maxRecDepth 20000 in
theorem ggL_law_X4_done : GoodIn wsL_law wsX4_done := goodIn_r _ [521, 112, 168, 169, 5, 170, 116, 117, 118, 119, 120, 121, 122, 522, 523, 524, 525, 526, 55, 527, 528, 529, 530, 531, 56, 58, 59, 60, 484, 485, 486, 487, 171, 172, 173, 174, 480, 481, 482, 483, 488, 489, 490, 491, 197, 198, 199, 200, 175, 176, 177, 178, 492, 493, 494, 495, 496, 497, 498, 499, 532, 533, 534, 535, 580, 581, 582, 583, 584, 585, 586] (by decide +kernel) (by decide +kernel)
set_option maxRecDepth 20000 in
theorem gL_law_X4_done : GoodIn wsL_law (wsV RL 137 RX4 yX4_done wsX4_done) := goodIn_app (goodIn_of _ (by decide +kernel)) ggL_law_X4_done
set_option maxRecDepth 20000 in
theorem ggL_law_L_foresee : GoodIn wsL_law wsL_foresee := goodIn_ca (goodIn_ca (goodIn_r _ [538, 66, 65, 539, 540, 541, 2, 542, 17, 16, 79, 80, 81, 82, 83, 74, 75, 76, 77, 78, 507, 508, 509, 15, 510, 24, 25, 29, 30, 31, 511, 512, 513, 23, 514, 37, 38, 39, 40, 41, 42, 43, 44, 515, 516, 452, 453, 454, 455, 456, 457, 458, 459, 460, 461, 462, 463, 296, 297, 298, 299, 464, 465, 466, 467, 104, 105, 468, 469, 470, 28, 471, 50, 106, 107, 472, 473, 474, 475, 543, 335, 336, 337, 544, 339, 340, 341, 342, 343, 344, 345, 545, 353, 354, 355, 346, 347, 348, 349, 350, 145, 146, 147, 351, 273, 274, 275, 98, 99, 578, 579, 587, 588, 589, 590, 591, 601, 592, 593, 594, 595, 596, 597, 598, 599, 600] (by decide +kernel) (by decide +kernel)) (goodIn_sub (fun _ h => List.mem_append_left _ (List.mem_append_right _ h)) (by decide +kernel))) (goodIn_sub (fun _ h => List.mem_append_left _ (List.mem_append_left _ (List.mem_append_right _ h))) (by decide +kernel))
set_option maxRecDepth 20000 in
theorem gL_law_L_foresee : GoodIn wsL_law (va_wsS RL 138 yL_foresee wsL_foresee) := goodIn_app (goodIn_of _ (by decide +kernel)) ggL_law_L_foresee
set_option maxRecDepth 20000 in
theorem ggL_law_X4_foresee : GoodIn wsL_law wsX4_foresee := goodIn_r _ [549, 112, 116, 117, 5, 118, 119, 120, 121, 122, 522, 523, 524, 525, 526, 55, 527, 528, 529, 530, 531, 56, 58, 59, 60, 480, 481, 482, 483, 171, 172, 173, 174, 484, 485, 486, 487, 488, 489, 490, 491, 197, 198, 199, 200, 175, 176, 177, 178, 492, 493, 494, 495, 496, 497, 498, 499, 368, 369, 370, 371, 372, 373, 374, 375, 57, 376, 377, 378, 379, 152, 145, 146, 147, 380, 381, 382, 383, 260, 261, 262, 263, 126, 127, 128, 532, 533, 534, 535, 580, 581, 582, 583, 584, 585, 586] (by decide +kernel) (by decide +kernel)
set_option maxRecDepth 20000 in
theorem gL_law_X4_foresee : GoodIn wsL_law (wsV RL 140 RX4 yX4_foresee wsX4_foresee) := goodIn_app (goodIn_of _ (by decide +kernel)) ggL_law_X4_foresee
set_option maxRecDepth 20000 in
theorem ggL_law_X3_share : GoodIn wsL_law wsX3_share := goodIn_r _ [553, 16, 543, 335, 336, 15, 337, 24, 25, 544, 339, 340, 341, 342, 343, 344, 23, 345, 43, 38, 37, 104, 2, 105, 578, 579, 587, 588, 589, 590, 591, 592, 593, 594, 595, 596, 597, 598, 599, 600] (by decide +kernel) (by decide +kernel)
set_option maxRecDepth 20000 in
theorem gL_law_X3_share : GoodIn wsL_law (wsV RL 141 RX3 yX3_share wsX3_share) := goodIn_app (goodIn_of _ (by decide +kernel)) ggL_law_X3_share
set_option maxRecDepth 20000 in
theorem ggL_law_X4_share : GoodIn wsL_law wsX4_share := goodIn_r _ [557, 112, 368, 369, 370, 5, 371, 60, 59, 171, 172, 173, 174, 55, 372, 373, 374, 375, 56, 57, 376, 377, 378, 379, 152, 145, 146, 147, 380, 381, 382, 383, 260, 261, 262, 263, 126, 127, 128, 580, 581, 582, 583, 584, 585, 586] (by decide +kernel) (by decide +kernel)
set_option maxRecDepth 20000 in
theorem gL_law_X4_share : GoodIn wsL_law (wsV RL 145 RX4 yX4_share wsX4_share) := goodIn_app (goodIn_of _ (by decide +kernel)) ggL_law_X4_share
set_option maxRecDepth 20000 in
theorem ggL_law_X3_digest : GoodIn wsL_law wsX3_digest := goodIn_r _ [561, 562, 16, 330, 331, 332, 15, 333, 30, 29, 31, 334, 335, 336, 337, 24, 25, 338, 339, 340, 341, 342, 343, 344, 23, 345, 43, 38, 37, 104, 2, 105, 346, 347, 348, 349, 350, 145, 146, 147, 351, 273, 274, 275, 352, 353, 354, 355, 98, 99, 356, 357, 358, 28, 359, 50, 360, 361, 362, 363, 563, 564, 565, 566, 243, 244, 245, 246, 247, 88, 89, 90, 91, 92, 93, 94, 95, 96, 248, 249, 250, 251, 252, 253, 254, 255, 163, 567, 568, 569, 570, 42, 39, 40, 571, 288, 289, 290, 41, 44, 291, 209, 210, 211, 292, 293, 294, 295, 45, 296, 297, 298, 299, 318, 578, 579, 587, 588, 589, 590, 591, 601, 592, 593, 594, 595, 596, 597, 598, 599, 600] (by decide +kernel) (by decide +kernel)
set_option maxRecDepth 20000 in
theorem gL_law_X3_digest : GoodIn wsL_law (wsV RL 146 RX3 yX3_digest wsX3_digest) := goodIn_app (goodIn_of _ (by decide +kernel)) ggL_law_X3_digest
set_option maxRecDepth 20000 in
theorem ggL_law_X4_digest : GoodIn wsL_law wsX4_digest := goodIn_r _ [575, 112, 576, 577, 57, 58, 59, 368, 369, 370, 5, 371, 60, 171, 172, 173, 174, 55, 372, 373, 374, 375, 56, 376, 377, 378, 379, 152, 145, 146, 147, 380, 381, 382, 383, 260, 261, 262, 263, 126, 127, 128, 304, 305, 306, 307, 216, 217, 218, 219, 197, 198, 199, 200, 308, 309, 310, 580, 581, 582, 583, 584, 585, 586] (by decide +kernel) (by decide +kernel)
set_option maxRecDepth 20000 in
theorem gL_law_X4_digest : GoodIn wsL_law (wsV RL 150 RX4 yX4_digest wsX4_digest) := goodIn_app (goodIn_of _ (by decide +kernel)) ggL_law_X4_digest
theorem dL_law_0 : decode cL_law 0 = .ok (.new 8, 3) := by decide +kernel
theorem dL_law_3 : decode cL_law 3 = .ok (.dup, 1) := by decide +kernel
theorem dL_law_4 : decode cL_law 4 = .ok (.invokespecial 73, 3) := by decide +kernel
theorem dL_law_7 : decode cL_law 7 = .ok (.astore_n 1, 1) := by decide +kernel
theorem dL_law_8 : decode cL_law 8 = .ok (.new 74, 3) := by decide +kernel
theorem dL_law_11 : decode cL_law 11 = .ok (.dup, 1) := by decide +kernel
theorem dL_law_12 : decode cL_law 12 = .ok (.invokespecial 76, 3) := by decide +kernel
theorem dL_law_15 : decode cL_law 15 = .ok (.astore_n 2, 1) := by decide +kernel
theorem dL_law_16 : decode cL_law 16 = .ok (.iconst 1, 1) := by decide +kernel
theorem dL_law_17 : decode cL_law 17 = .ok (.newarray .long, 2) := by decide +kernel
theorem dL_law_19 : decode cL_law 19 = .ok (.astore_n 3, 1) := by decide +kernel
theorem dL_law_20 : decode cL_law 20 = .ok (.iconst 0, 1) := by decide +kernel
theorem dL_law_21 : decode cL_law 21 = .ok (.istore 4, 2) := by decide +kernel
theorem dL_law_23 : decode cL_law 23 = .ok (.iload 4, 2) := by decide +kernel
theorem dL_law_25 : decode cL_law 25 = .ok (.aload_n 0, 1) := by decide +kernel
theorem dL_law_26 : decode cL_law 26 = .ok (.arraylength, 1) := by decide +kernel
theorem dL_law_27 : decode cL_law 27 = .ok (.bipush 6, 2) := by decide +kernel
theorem dL_law_29 : decode cL_law 29 = .ok (.isub, 1) := by decide +kernel
theorem dL_law_30 : decode cL_law 30 = .ok (.if_icmp .gt 1379, 3) := by decide +kernel
theorem dL_law_33 : decode cL_law 33 = .ok (.aload_n 0, 1) := by decide +kernel
theorem dL_law_34 : decode cL_law 34 = .ok (.iload 4, 2) := by decide +kernel
theorem dL_law_36 : decode cL_law 36 = .ok (.iaload, 1) := by decide +kernel
theorem dL_law_37 : decode cL_law 37 = .ok (.bipush 31, 2) := by decide +kernel
theorem dL_law_39 : decode cL_law 39 = .ok (.iand, 1) := by decide +kernel
theorem dL_law_40 : decode cL_law 40 = .ok (.tableswitch 1363 0 19 #[96, 200, 268, 336, 416, 472, 540, 620, 700, 768, 848, 904, 960, 1016, 1072, 1128, 1184, 1240, 1308, 1349], 96) := by decide +kernel
theorem dL_law_136 : decode cL_law 136 = .ok (.aload_n 1, 1) := by decide +kernel
theorem dL_law_137 : decode cL_law 137 = .ok (.aload_n 0, 1) := by decide +kernel
theorem dL_law_138 : decode cL_law 138 = .ok (.iload 4, 2) := by decide +kernel
theorem dL_law_140 : decode cL_law 140 = .ok (.iconst 1, 1) := by decide +kernel
theorem dL_law_141 : decode cL_law 141 = .ok (.iadd, 1) := by decide +kernel
theorem dL_law_142 : decode cL_law 142 = .ok (.iaload, 1) := by decide +kernel
theorem dL_law_143 : decode cL_law 143 = .ok (.aload_n 0, 1) := by decide +kernel
theorem dL_law_144 : decode cL_law 144 = .ok (.iload 4, 2) := by decide +kernel
theorem dL_law_146 : decode cL_law 146 = .ok (.iconst 2, 1) := by decide +kernel
theorem dL_law_147 : decode cL_law 147 = .ok (.iadd, 1) := by decide +kernel
theorem dL_law_148 : decode cL_law 148 = .ok (.iaload, 1) := by decide +kernel
theorem dL_law_149 : decode cL_law 149 = .ok (.aload_n 0, 1) := by decide +kernel
theorem dL_law_150 : decode cL_law 150 = .ok (.iload 4, 2) := by decide +kernel
theorem dL_law_152 : decode cL_law 152 = .ok (.iconst 3, 1) := by decide +kernel
theorem dL_law_153 : decode cL_law 153 = .ok (.iadd, 1) := by decide +kernel
theorem dL_law_154 : decode cL_law 154 = .ok (.iaload, 1) := by decide +kernel
theorem dL_law_155 : decode cL_law 155 = .ok (.aload_n 0, 1) := by decide +kernel
theorem dL_law_156 : decode cL_law 156 = .ok (.iload 4, 2) := by decide +kernel
theorem dL_law_158 : decode cL_law 158 = .ok (.iconst 4, 1) := by decide +kernel
theorem dL_law_159 : decode cL_law 159 = .ok (.iadd, 1) := by decide +kernel
theorem dL_law_160 : decode cL_law 160 = .ok (.iaload, 1) := by decide +kernel
theorem dL_law_161 : decode cL_law 161 = .ok (.aload_n 0, 1) := by decide +kernel
theorem dL_law_162 : decode cL_law 162 = .ok (.iload 4, 2) := by decide +kernel
theorem dL_law_164 : decode cL_law 164 = .ok (.iconst 5, 1) := by decide +kernel
theorem dL_law_165 : decode cL_law 165 = .ok (.iadd, 1) := by decide +kernel
theorem dL_law_166 : decode cL_law 166 = .ok (.iaload, 1) := by decide +kernel
theorem dL_law_167 : decode cL_law 167 = .ok (.aload_n 3, 1) := by decide +kernel
theorem dL_law_168 : decode cL_law 168 = .ok (.invokestatic 77, 3) := by decide +kernel
theorem dL_law_171 : decode cL_law 171 = .ok (.istore 5, 2) := by decide +kernel
theorem dL_law_173 : decode cL_law 173 = .ok (.aload_n 2, 1) := by decide +kernel
theorem dL_law_174 : decode cL_law 174 = .ok (.aload_n 0, 1) := by decide +kernel
theorem dL_law_175 : decode cL_law 175 = .ok (.iload 4, 2) := by decide +kernel
theorem dL_law_177 : decode cL_law 177 = .ok (.iconst 1, 1) := by decide +kernel
theorem dL_law_178 : decode cL_law 178 = .ok (.iadd, 1) := by decide +kernel
theorem dL_law_179 : decode cL_law 179 = .ok (.iaload, 1) := by decide +kernel
theorem dL_law_180 : decode cL_law 180 = .ok (.aload_n 0, 1) := by decide +kernel
theorem dL_law_181 : decode cL_law 181 = .ok (.iload 4, 2) := by decide +kernel
theorem dL_law_183 : decode cL_law 183 = .ok (.iconst 2, 1) := by decide +kernel
theorem dL_law_184 : decode cL_law 184 = .ok (.iadd, 1) := by decide +kernel
theorem dL_law_185 : decode cL_law 185 = .ok (.iaload, 1) := by decide +kernel
theorem dL_law_186 : decode cL_law 186 = .ok (.aload_n 0, 1) := by decide +kernel
theorem dL_law_187 : decode cL_law 187 = .ok (.iload 4, 2) := by decide +kernel
theorem dL_law_189 : decode cL_law 189 = .ok (.iconst 3, 1) := by decide +kernel
theorem dL_law_190 : decode cL_law 190 = .ok (.iadd, 1) := by decide +kernel
theorem dL_law_191 : decode cL_law 191 = .ok (.iaload, 1) := by decide +kernel
theorem dL_law_192 : decode cL_law 192 = .ok (.aload_n 0, 1) := by decide +kernel
theorem dL_law_193 : decode cL_law 193 = .ok (.iload 4, 2) := by decide +kernel
theorem dL_law_195 : decode cL_law 195 = .ok (.iconst 4, 1) := by decide +kernel
theorem dL_law_196 : decode cL_law 196 = .ok (.iadd, 1) := by decide +kernel
theorem dL_law_197 : decode cL_law 197 = .ok (.iaload, 1) := by decide +kernel
theorem dL_law_198 : decode cL_law 198 = .ok (.aload_n 0, 1) := by decide +kernel
theorem dL_law_199 : decode cL_law 199 = .ok (.iload 4, 2) := by decide +kernel
theorem dL_law_201 : decode cL_law 201 = .ok (.iconst 5, 1) := by decide +kernel
theorem dL_law_202 : decode cL_law 202 = .ok (.iadd, 1) := by decide +kernel
theorem dL_law_203 : decode cL_law 203 = .ok (.iaload, 1) := by decide +kernel
theorem dL_law_204 : decode cL_law 204 = .ok (.invokevirtual 82, 3) := by decide +kernel
theorem dL_law_207 : decode cL_law 207 = .ok (.istore 6, 2) := by decide +kernel
theorem dL_law_209 : decode cL_law 209 = .ok (.aload_n 2, 1) := by decide +kernel
theorem dL_law_210 : decode cL_law 210 = .ok (.invokevirtual 83, 3) := by decide +kernel
theorem dL_law_213 : decode cL_law 213 = .ok (.iload 5, 2) := by decide +kernel
theorem dL_law_215 : decode cL_law 215 = .ok (.if_icmp .eq 5, 3) := by decide +kernel
theorem dL_law_218 : decode cL_law 218 = .ok (.iconst 0, 1) := by decide +kernel
theorem dL_law_219 : decode cL_law 219 = .ok (.ireturn, 1) := by decide +kernel
theorem dL_law_220 : decode cL_law 220 = .ok (.iload 5, 2) := by decide +kernel
theorem dL_law_222 : decode cL_law 222 = .ok (.ifCond .ne 15, 3) := by decide +kernel
theorem dL_law_225 : decode cL_law 225 = .ok (.aload_n 3, 1) := by decide +kernel
theorem dL_law_226 : decode cL_law 226 = .ok (.iconst 0, 1) := by decide +kernel
theorem dL_law_227 : decode cL_law 227 = .ok (.laload, 1) := by decide +kernel
theorem dL_law_228 : decode cL_law 228 = .ok (.iload 6, 2) := by decide +kernel
theorem dL_law_230 : decode cL_law 230 = .ok (.i2l, 1) := by decide +kernel
theorem dL_law_231 : decode cL_law 231 = .ok (.lcmp, 1) := by decide +kernel
theorem dL_law_232 : decode cL_law 232 = .ok (.ifCond .eq 5, 3) := by decide +kernel
theorem dL_law_235 : decode cL_law 235 = .ok (.iconst 0, 1) := by decide +kernel
theorem dL_law_236 : decode cL_law 236 = .ok (.ireturn, 1) := by decide +kernel
theorem dL_law_237 : decode cL_law 237 = .ok (.goto 1166, 3) := by decide +kernel
theorem dL_law_240 : decode cL_law 240 = .ok (.aload_n 1, 1) := by decide +kernel
theorem dL_law_241 : decode cL_law 241 = .ok (.aload_n 0, 1) := by decide +kernel
theorem dL_law_242 : decode cL_law 242 = .ok (.iload 4, 2) := by decide +kernel
theorem dL_law_244 : decode cL_law 244 = .ok (.iconst 1, 1) := by decide +kernel
theorem dL_law_245 : decode cL_law 245 = .ok (.iadd, 1) := by decide +kernel
theorem dL_law_246 : decode cL_law 246 = .ok (.iaload, 1) := by decide +kernel
theorem dL_law_247 : decode cL_law 247 = .ok (.aload_n 0, 1) := by decide +kernel
theorem dL_law_248 : decode cL_law 248 = .ok (.iload 4, 2) := by decide +kernel
theorem dL_law_250 : decode cL_law 250 = .ok (.iconst 2, 1) := by decide +kernel
theorem dL_law_251 : decode cL_law 251 = .ok (.iadd, 1) := by decide +kernel
theorem dL_law_252 : decode cL_law 252 = .ok (.iaload, 1) := by decide +kernel
theorem dL_law_253 : decode cL_law 253 = .ok (.aload_n 3, 1) := by decide +kernel
theorem dL_law_254 : decode cL_law 254 = .ok (.invokestatic 87, 3) := by decide +kernel
theorem dL_law_257 : decode cL_law 257 = .ok (.istore 5, 2) := by decide +kernel
theorem dL_law_259 : decode cL_law 259 = .ok (.aload_n 2, 1) := by decide +kernel
theorem dL_law_260 : decode cL_law 260 = .ok (.aload_n 0, 1) := by decide +kernel
theorem dL_law_261 : decode cL_law 261 = .ok (.iload 4, 2) := by decide +kernel
theorem dL_law_263 : decode cL_law 263 = .ok (.iconst 1, 1) := by decide +kernel
theorem dL_law_264 : decode cL_law 264 = .ok (.iadd, 1) := by decide +kernel
theorem dL_law_265 : decode cL_law 265 = .ok (.iaload, 1) := by decide +kernel
theorem dL_law_266 : decode cL_law 266 = .ok (.aload_n 0, 1) := by decide +kernel
theorem dL_law_267 : decode cL_law 267 = .ok (.iload 4, 2) := by decide +kernel
theorem dL_law_269 : decode cL_law 269 = .ok (.iconst 2, 1) := by decide +kernel
theorem dL_law_270 : decode cL_law 270 = .ok (.iadd, 1) := by decide +kernel
theorem dL_law_271 : decode cL_law 271 = .ok (.iaload, 1) := by decide +kernel
theorem dL_law_272 : decode cL_law 272 = .ok (.invokevirtual 90, 3) := by decide +kernel
theorem dL_law_275 : decode cL_law 275 = .ok (.istore 6, 2) := by decide +kernel
theorem dL_law_277 : decode cL_law 277 = .ok (.aload_n 2, 1) := by decide +kernel
theorem dL_law_278 : decode cL_law 278 = .ok (.invokevirtual 83, 3) := by decide +kernel
theorem dL_law_281 : decode cL_law 281 = .ok (.iload 5, 2) := by decide +kernel
theorem dL_law_283 : decode cL_law 283 = .ok (.if_icmp .eq 5, 3) := by decide +kernel
theorem dL_law_286 : decode cL_law 286 = .ok (.iconst 0, 1) := by decide +kernel
theorem dL_law_287 : decode cL_law 287 = .ok (.ireturn, 1) := by decide +kernel
theorem dL_law_288 : decode cL_law 288 = .ok (.iload 5, 2) := by decide +kernel
theorem dL_law_290 : decode cL_law 290 = .ok (.ifCond .ne 15, 3) := by decide +kernel
theorem dL_law_293 : decode cL_law 293 = .ok (.aload_n 3, 1) := by decide +kernel
theorem dL_law_294 : decode cL_law 294 = .ok (.iconst 0, 1) := by decide +kernel
theorem dL_law_295 : decode cL_law 295 = .ok (.laload, 1) := by decide +kernel
theorem dL_law_296 : decode cL_law 296 = .ok (.iload 6, 2) := by decide +kernel
theorem dL_law_298 : decode cL_law 298 = .ok (.i2l, 1) := by decide +kernel
theorem dL_law_299 : decode cL_law 299 = .ok (.lcmp, 1) := by decide +kernel
theorem dL_law_300 : decode cL_law 300 = .ok (.ifCond .eq 5, 3) := by decide +kernel
theorem dL_law_303 : decode cL_law 303 = .ok (.iconst 0, 1) := by decide +kernel
theorem dL_law_304 : decode cL_law 304 = .ok (.ireturn, 1) := by decide +kernel
theorem dL_law_305 : decode cL_law 305 = .ok (.goto 1098, 3) := by decide +kernel
theorem dL_law_308 : decode cL_law 308 = .ok (.aload_n 1, 1) := by decide +kernel
theorem dL_law_309 : decode cL_law 309 = .ok (.aload_n 0, 1) := by decide +kernel
theorem dL_law_310 : decode cL_law 310 = .ok (.iload 4, 2) := by decide +kernel
theorem dL_law_312 : decode cL_law 312 = .ok (.iconst 1, 1) := by decide +kernel
theorem dL_law_313 : decode cL_law 313 = .ok (.iadd, 1) := by decide +kernel
theorem dL_law_314 : decode cL_law 314 = .ok (.iaload, 1) := by decide +kernel
theorem dL_law_315 : decode cL_law 315 = .ok (.aload_n 0, 1) := by decide +kernel
theorem dL_law_316 : decode cL_law 316 = .ok (.iload 4, 2) := by decide +kernel
theorem dL_law_318 : decode cL_law 318 = .ok (.iconst 2, 1) := by decide +kernel
theorem dL_law_319 : decode cL_law 319 = .ok (.iadd, 1) := by decide +kernel
theorem dL_law_320 : decode cL_law 320 = .ok (.iaload, 1) := by decide +kernel
theorem dL_law_321 : decode cL_law 321 = .ok (.aload_n 3, 1) := by decide +kernel
theorem dL_law_322 : decode cL_law 322 = .ok (.invokestatic 91, 3) := by decide +kernel
theorem dL_law_325 : decode cL_law 325 = .ok (.istore 5, 2) := by decide +kernel
theorem dL_law_327 : decode cL_law 327 = .ok (.aload_n 2, 1) := by decide +kernel
theorem dL_law_328 : decode cL_law 328 = .ok (.aload_n 0, 1) := by decide +kernel
theorem dL_law_329 : decode cL_law 329 = .ok (.iload 4, 2) := by decide +kernel
theorem dL_law_331 : decode cL_law 331 = .ok (.iconst 1, 1) := by decide +kernel
theorem dL_law_332 : decode cL_law 332 = .ok (.iadd, 1) := by decide +kernel
theorem dL_law_333 : decode cL_law 333 = .ok (.iaload, 1) := by decide +kernel
theorem dL_law_334 : decode cL_law 334 = .ok (.aload_n 0, 1) := by decide +kernel
theorem dL_law_335 : decode cL_law 335 = .ok (.iload 4, 2) := by decide +kernel
theorem dL_law_337 : decode cL_law 337 = .ok (.iconst 2, 1) := by decide +kernel
theorem dL_law_338 : decode cL_law 338 = .ok (.iadd, 1) := by decide +kernel
theorem dL_law_339 : decode cL_law 339 = .ok (.iaload, 1) := by decide +kernel
theorem dL_law_340 : decode cL_law 340 = .ok (.invokevirtual 93, 3) := by decide +kernel
theorem dL_law_343 : decode cL_law 343 = .ok (.istore 6, 2) := by decide +kernel
theorem dL_law_345 : decode cL_law 345 = .ok (.aload_n 2, 1) := by decide +kernel
theorem dL_law_346 : decode cL_law 346 = .ok (.invokevirtual 83, 3) := by decide +kernel
theorem dL_law_349 : decode cL_law 349 = .ok (.iload 5, 2) := by decide +kernel
theorem dL_law_351 : decode cL_law 351 = .ok (.if_icmp .eq 5, 3) := by decide +kernel
theorem dL_law_354 : decode cL_law 354 = .ok (.iconst 0, 1) := by decide +kernel
theorem dL_law_355 : decode cL_law 355 = .ok (.ireturn, 1) := by decide +kernel
theorem dL_law_356 : decode cL_law 356 = .ok (.iload 5, 2) := by decide +kernel
theorem dL_law_358 : decode cL_law 358 = .ok (.ifCond .ne 15, 3) := by decide +kernel
theorem dL_law_361 : decode cL_law 361 = .ok (.aload_n 3, 1) := by decide +kernel
theorem dL_law_362 : decode cL_law 362 = .ok (.iconst 0, 1) := by decide +kernel
theorem dL_law_363 : decode cL_law 363 = .ok (.laload, 1) := by decide +kernel
theorem dL_law_364 : decode cL_law 364 = .ok (.iload 6, 2) := by decide +kernel
theorem dL_law_366 : decode cL_law 366 = .ok (.i2l, 1) := by decide +kernel
theorem dL_law_367 : decode cL_law 367 = .ok (.lcmp, 1) := by decide +kernel
theorem dL_law_368 : decode cL_law 368 = .ok (.ifCond .eq 5, 3) := by decide +kernel
theorem dL_law_371 : decode cL_law 371 = .ok (.iconst 0, 1) := by decide +kernel
theorem dL_law_372 : decode cL_law 372 = .ok (.ireturn, 1) := by decide +kernel
theorem dL_law_373 : decode cL_law 373 = .ok (.goto 1030, 3) := by decide +kernel
theorem dL_law_376 : decode cL_law 376 = .ok (.aload_n 1, 1) := by decide +kernel
theorem dL_law_377 : decode cL_law 377 = .ok (.aload_n 0, 1) := by decide +kernel
theorem dL_law_378 : decode cL_law 378 = .ok (.iload 4, 2) := by decide +kernel
theorem dL_law_380 : decode cL_law 380 = .ok (.iconst 1, 1) := by decide +kernel
theorem dL_law_381 : decode cL_law 381 = .ok (.iadd, 1) := by decide +kernel
theorem dL_law_382 : decode cL_law 382 = .ok (.iaload, 1) := by decide +kernel
theorem dL_law_383 : decode cL_law 383 = .ok (.aload_n 0, 1) := by decide +kernel
theorem dL_law_384 : decode cL_law 384 = .ok (.iload 4, 2) := by decide +kernel
theorem dL_law_386 : decode cL_law 386 = .ok (.iconst 2, 1) := by decide +kernel
theorem dL_law_387 : decode cL_law 387 = .ok (.iadd, 1) := by decide +kernel
theorem dL_law_388 : decode cL_law 388 = .ok (.iaload, 1) := by decide +kernel
theorem dL_law_389 : decode cL_law 389 = .ok (.aload_n 0, 1) := by decide +kernel
theorem dL_law_390 : decode cL_law 390 = .ok (.iload 4, 2) := by decide +kernel
theorem dL_law_392 : decode cL_law 392 = .ok (.iconst 3, 1) := by decide +kernel
theorem dL_law_393 : decode cL_law 393 = .ok (.iadd, 1) := by decide +kernel
theorem dL_law_394 : decode cL_law 394 = .ok (.iaload, 1) := by decide +kernel
theorem dL_law_395 : decode cL_law 395 = .ok (.aload_n 3, 1) := by decide +kernel
theorem dL_law_396 : decode cL_law 396 = .ok (.invokestatic 94, 3) := by decide +kernel
theorem dL_law_399 : decode cL_law 399 = .ok (.istore 5, 2) := by decide +kernel
theorem dL_law_401 : decode cL_law 401 = .ok (.aload_n 2, 1) := by decide +kernel
theorem dL_law_402 : decode cL_law 402 = .ok (.aload_n 0, 1) := by decide +kernel
theorem dL_law_403 : decode cL_law 403 = .ok (.iload 4, 2) := by decide +kernel
theorem dL_law_405 : decode cL_law 405 = .ok (.iconst 1, 1) := by decide +kernel
theorem dL_law_406 : decode cL_law 406 = .ok (.iadd, 1) := by decide +kernel
theorem dL_law_407 : decode cL_law 407 = .ok (.iaload, 1) := by decide +kernel
theorem dL_law_408 : decode cL_law 408 = .ok (.aload_n 0, 1) := by decide +kernel
theorem dL_law_409 : decode cL_law 409 = .ok (.iload 4, 2) := by decide +kernel
theorem dL_law_411 : decode cL_law 411 = .ok (.iconst 2, 1) := by decide +kernel
theorem dL_law_412 : decode cL_law 412 = .ok (.iadd, 1) := by decide +kernel
theorem dL_law_413 : decode cL_law 413 = .ok (.iaload, 1) := by decide +kernel
theorem dL_law_414 : decode cL_law 414 = .ok (.aload_n 0, 1) := by decide +kernel
theorem dL_law_415 : decode cL_law 415 = .ok (.iload 4, 2) := by decide +kernel
theorem dL_law_417 : decode cL_law 417 = .ok (.iconst 3, 1) := by decide +kernel
theorem dL_law_418 : decode cL_law 418 = .ok (.iadd, 1) := by decide +kernel
theorem dL_law_419 : decode cL_law 419 = .ok (.iaload, 1) := by decide +kernel
theorem dL_law_420 : decode cL_law 420 = .ok (.invokevirtual 97, 3) := by decide +kernel
theorem dL_law_423 : decode cL_law 423 = .ok (.istore 6, 2) := by decide +kernel
theorem dL_law_425 : decode cL_law 425 = .ok (.aload_n 2, 1) := by decide +kernel
theorem dL_law_426 : decode cL_law 426 = .ok (.invokevirtual 83, 3) := by decide +kernel
theorem dL_law_429 : decode cL_law 429 = .ok (.iload 5, 2) := by decide +kernel
theorem dL_law_431 : decode cL_law 431 = .ok (.if_icmp .eq 5, 3) := by decide +kernel
theorem dL_law_434 : decode cL_law 434 = .ok (.iconst 0, 1) := by decide +kernel
theorem dL_law_435 : decode cL_law 435 = .ok (.ireturn, 1) := by decide +kernel
theorem dL_law_436 : decode cL_law 436 = .ok (.iload 5, 2) := by decide +kernel
theorem dL_law_438 : decode cL_law 438 = .ok (.ifCond .ne 15, 3) := by decide +kernel
theorem dL_law_441 : decode cL_law 441 = .ok (.aload_n 3, 1) := by decide +kernel
theorem dL_law_442 : decode cL_law 442 = .ok (.iconst 0, 1) := by decide +kernel
theorem dL_law_443 : decode cL_law 443 = .ok (.laload, 1) := by decide +kernel
theorem dL_law_444 : decode cL_law 444 = .ok (.iload 6, 2) := by decide +kernel
theorem dL_law_446 : decode cL_law 446 = .ok (.i2l, 1) := by decide +kernel
theorem dL_law_447 : decode cL_law 447 = .ok (.lcmp, 1) := by decide +kernel
theorem dL_law_448 : decode cL_law 448 = .ok (.ifCond .eq 5, 3) := by decide +kernel
theorem dL_law_451 : decode cL_law 451 = .ok (.iconst 0, 1) := by decide +kernel
theorem dL_law_452 : decode cL_law 452 = .ok (.ireturn, 1) := by decide +kernel
theorem dL_law_453 : decode cL_law 453 = .ok (.goto 950, 3) := by decide +kernel
theorem dL_law_456 : decode cL_law 456 = .ok (.aload_n 1, 1) := by decide +kernel
theorem dL_law_457 : decode cL_law 457 = .ok (.aload_n 0, 1) := by decide +kernel
theorem dL_law_458 : decode cL_law 458 = .ok (.iload 4, 2) := by decide +kernel
theorem dL_law_460 : decode cL_law 460 = .ok (.iconst 1, 1) := by decide +kernel
theorem dL_law_461 : decode cL_law 461 = .ok (.iadd, 1) := by decide +kernel
theorem dL_law_462 : decode cL_law 462 = .ok (.iaload, 1) := by decide +kernel
theorem dL_law_463 : decode cL_law 463 = .ok (.aload_n 3, 1) := by decide +kernel
theorem dL_law_464 : decode cL_law 464 = .ok (.invokestatic 98, 3) := by decide +kernel
theorem dL_law_467 : decode cL_law 467 = .ok (.istore 5, 2) := by decide +kernel
theorem dL_law_469 : decode cL_law 469 = .ok (.aload_n 2, 1) := by decide +kernel
theorem dL_law_470 : decode cL_law 470 = .ok (.aload_n 0, 1) := by decide +kernel
theorem dL_law_471 : decode cL_law 471 = .ok (.iload 4, 2) := by decide +kernel
theorem dL_law_473 : decode cL_law 473 = .ok (.iconst 1, 1) := by decide +kernel
theorem dL_law_474 : decode cL_law 474 = .ok (.iadd, 1) := by decide +kernel
theorem dL_law_475 : decode cL_law 475 = .ok (.iaload, 1) := by decide +kernel
theorem dL_law_476 : decode cL_law 476 = .ok (.invokevirtual 101, 3) := by decide +kernel
theorem dL_law_479 : decode cL_law 479 = .ok (.istore 6, 2) := by decide +kernel
theorem dL_law_481 : decode cL_law 481 = .ok (.aload_n 2, 1) := by decide +kernel
theorem dL_law_482 : decode cL_law 482 = .ok (.invokevirtual 83, 3) := by decide +kernel
theorem dL_law_485 : decode cL_law 485 = .ok (.iload 5, 2) := by decide +kernel
theorem dL_law_487 : decode cL_law 487 = .ok (.if_icmp .eq 5, 3) := by decide +kernel
theorem dL_law_490 : decode cL_law 490 = .ok (.iconst 0, 1) := by decide +kernel
theorem dL_law_491 : decode cL_law 491 = .ok (.ireturn, 1) := by decide +kernel
theorem dL_law_492 : decode cL_law 492 = .ok (.iload 5, 2) := by decide +kernel
theorem dL_law_494 : decode cL_law 494 = .ok (.ifCond .ne 15, 3) := by decide +kernel
theorem dL_law_497 : decode cL_law 497 = .ok (.aload_n 3, 1) := by decide +kernel
theorem dL_law_498 : decode cL_law 498 = .ok (.iconst 0, 1) := by decide +kernel
theorem dL_law_499 : decode cL_law 499 = .ok (.laload, 1) := by decide +kernel
theorem dL_law_500 : decode cL_law 500 = .ok (.iload 6, 2) := by decide +kernel
theorem dL_law_502 : decode cL_law 502 = .ok (.i2l, 1) := by decide +kernel
theorem dL_law_503 : decode cL_law 503 = .ok (.lcmp, 1) := by decide +kernel
theorem dL_law_504 : decode cL_law 504 = .ok (.ifCond .eq 5, 3) := by decide +kernel
theorem dL_law_507 : decode cL_law 507 = .ok (.iconst 0, 1) := by decide +kernel
theorem dL_law_508 : decode cL_law 508 = .ok (.ireturn, 1) := by decide +kernel
theorem dL_law_509 : decode cL_law 509 = .ok (.goto 894, 3) := by decide +kernel
theorem dL_law_512 : decode cL_law 512 = .ok (.aload_n 1, 1) := by decide +kernel
theorem dL_law_513 : decode cL_law 513 = .ok (.aload_n 0, 1) := by decide +kernel
theorem dL_law_514 : decode cL_law 514 = .ok (.iload 4, 2) := by decide +kernel
theorem dL_law_516 : decode cL_law 516 = .ok (.iconst 1, 1) := by decide +kernel
theorem dL_law_517 : decode cL_law 517 = .ok (.iadd, 1) := by decide +kernel
theorem dL_law_518 : decode cL_law 518 = .ok (.iaload, 1) := by decide +kernel
theorem dL_law_519 : decode cL_law 519 = .ok (.aload_n 0, 1) := by decide +kernel
theorem dL_law_520 : decode cL_law 520 = .ok (.iload 4, 2) := by decide +kernel
theorem dL_law_522 : decode cL_law 522 = .ok (.iconst 2, 1) := by decide +kernel
theorem dL_law_523 : decode cL_law 523 = .ok (.iadd, 1) := by decide +kernel
theorem dL_law_524 : decode cL_law 524 = .ok (.iaload, 1) := by decide +kernel
theorem dL_law_525 : decode cL_law 525 = .ok (.aload_n 3, 1) := by decide +kernel
theorem dL_law_526 : decode cL_law 526 = .ok (.invokestatic 102, 3) := by decide +kernel
theorem dL_law_529 : decode cL_law 529 = .ok (.istore 5, 2) := by decide +kernel
theorem dL_law_531 : decode cL_law 531 = .ok (.aload_n 2, 1) := by decide +kernel
theorem dL_law_532 : decode cL_law 532 = .ok (.aload_n 0, 1) := by decide +kernel
theorem dL_law_533 : decode cL_law 533 = .ok (.iload 4, 2) := by decide +kernel
theorem dL_law_535 : decode cL_law 535 = .ok (.iconst 1, 1) := by decide +kernel
theorem dL_law_536 : decode cL_law 536 = .ok (.iadd, 1) := by decide +kernel
theorem dL_law_537 : decode cL_law 537 = .ok (.iaload, 1) := by decide +kernel
theorem dL_law_538 : decode cL_law 538 = .ok (.aload_n 0, 1) := by decide +kernel
theorem dL_law_539 : decode cL_law 539 = .ok (.iload 4, 2) := by decide +kernel
theorem dL_law_541 : decode cL_law 541 = .ok (.iconst 2, 1) := by decide +kernel
theorem dL_law_542 : decode cL_law 542 = .ok (.iadd, 1) := by decide +kernel
theorem dL_law_543 : decode cL_law 543 = .ok (.iaload, 1) := by decide +kernel
theorem dL_law_544 : decode cL_law 544 = .ok (.invokevirtual 104, 3) := by decide +kernel
theorem dL_law_547 : decode cL_law 547 = .ok (.istore 6, 2) := by decide +kernel
theorem dL_law_549 : decode cL_law 549 = .ok (.aload_n 2, 1) := by decide +kernel
theorem dL_law_550 : decode cL_law 550 = .ok (.invokevirtual 83, 3) := by decide +kernel
theorem dL_law_553 : decode cL_law 553 = .ok (.iload 5, 2) := by decide +kernel
theorem dL_law_555 : decode cL_law 555 = .ok (.if_icmp .eq 5, 3) := by decide +kernel
theorem dL_law_558 : decode cL_law 558 = .ok (.iconst 0, 1) := by decide +kernel
theorem dL_law_559 : decode cL_law 559 = .ok (.ireturn, 1) := by decide +kernel
theorem dL_law_560 : decode cL_law 560 = .ok (.iload 5, 2) := by decide +kernel
theorem dL_law_562 : decode cL_law 562 = .ok (.ifCond .ne 15, 3) := by decide +kernel
theorem dL_law_565 : decode cL_law 565 = .ok (.aload_n 3, 1) := by decide +kernel
theorem dL_law_566 : decode cL_law 566 = .ok (.iconst 0, 1) := by decide +kernel
theorem dL_law_567 : decode cL_law 567 = .ok (.laload, 1) := by decide +kernel
theorem dL_law_568 : decode cL_law 568 = .ok (.iload 6, 2) := by decide +kernel
theorem dL_law_570 : decode cL_law 570 = .ok (.i2l, 1) := by decide +kernel
theorem dL_law_571 : decode cL_law 571 = .ok (.lcmp, 1) := by decide +kernel
theorem dL_law_572 : decode cL_law 572 = .ok (.ifCond .eq 5, 3) := by decide +kernel
theorem dL_law_575 : decode cL_law 575 = .ok (.iconst 0, 1) := by decide +kernel
theorem dL_law_576 : decode cL_law 576 = .ok (.ireturn, 1) := by decide +kernel
theorem dL_law_577 : decode cL_law 577 = .ok (.goto 826, 3) := by decide +kernel
theorem dL_law_580 : decode cL_law 580 = .ok (.aload_n 1, 1) := by decide +kernel
theorem dL_law_581 : decode cL_law 581 = .ok (.aload_n 0, 1) := by decide +kernel
theorem dL_law_582 : decode cL_law 582 = .ok (.iload 4, 2) := by decide +kernel
theorem dL_law_584 : decode cL_law 584 = .ok (.iconst 1, 1) := by decide +kernel
theorem dL_law_585 : decode cL_law 585 = .ok (.iadd, 1) := by decide +kernel
theorem dL_law_586 : decode cL_law 586 = .ok (.iaload, 1) := by decide +kernel
theorem dL_law_587 : decode cL_law 587 = .ok (.aload_n 0, 1) := by decide +kernel
theorem dL_law_588 : decode cL_law 588 = .ok (.iload 4, 2) := by decide +kernel
theorem dL_law_590 : decode cL_law 590 = .ok (.iconst 2, 1) := by decide +kernel
theorem dL_law_591 : decode cL_law 591 = .ok (.iadd, 1) := by decide +kernel
theorem dL_law_592 : decode cL_law 592 = .ok (.iaload, 1) := by decide +kernel
theorem dL_law_593 : decode cL_law 593 = .ok (.aload_n 0, 1) := by decide +kernel
theorem dL_law_594 : decode cL_law 594 = .ok (.iload 4, 2) := by decide +kernel
theorem dL_law_596 : decode cL_law 596 = .ok (.iconst 3, 1) := by decide +kernel
theorem dL_law_597 : decode cL_law 597 = .ok (.iadd, 1) := by decide +kernel
theorem dL_law_598 : decode cL_law 598 = .ok (.iaload, 1) := by decide +kernel
theorem dL_law_599 : decode cL_law 599 = .ok (.aload_n 3, 1) := by decide +kernel
theorem dL_law_600 : decode cL_law 600 = .ok (.invokestatic 105, 3) := by decide +kernel
theorem dL_law_603 : decode cL_law 603 = .ok (.istore 5, 2) := by decide +kernel
theorem dL_law_605 : decode cL_law 605 = .ok (.aload_n 2, 1) := by decide +kernel
theorem dL_law_606 : decode cL_law 606 = .ok (.aload_n 0, 1) := by decide +kernel
theorem dL_law_607 : decode cL_law 607 = .ok (.iload 4, 2) := by decide +kernel
theorem dL_law_609 : decode cL_law 609 = .ok (.iconst 1, 1) := by decide +kernel
theorem dL_law_610 : decode cL_law 610 = .ok (.iadd, 1) := by decide +kernel
theorem dL_law_611 : decode cL_law 611 = .ok (.iaload, 1) := by decide +kernel
theorem dL_law_612 : decode cL_law 612 = .ok (.aload_n 0, 1) := by decide +kernel
theorem dL_law_613 : decode cL_law 613 = .ok (.iload 4, 2) := by decide +kernel
theorem dL_law_615 : decode cL_law 615 = .ok (.iconst 2, 1) := by decide +kernel
theorem dL_law_616 : decode cL_law 616 = .ok (.iadd, 1) := by decide +kernel
theorem dL_law_617 : decode cL_law 617 = .ok (.iaload, 1) := by decide +kernel
theorem dL_law_618 : decode cL_law 618 = .ok (.aload_n 0, 1) := by decide +kernel
theorem dL_law_619 : decode cL_law 619 = .ok (.iload 4, 2) := by decide +kernel
theorem dL_law_621 : decode cL_law 621 = .ok (.iconst 3, 1) := by decide +kernel
theorem dL_law_622 : decode cL_law 622 = .ok (.iadd, 1) := by decide +kernel
theorem dL_law_623 : decode cL_law 623 = .ok (.iaload, 1) := by decide +kernel
theorem dL_law_624 : decode cL_law 624 = .ok (.invokevirtual 107, 3) := by decide +kernel
theorem dL_law_627 : decode cL_law 627 = .ok (.istore 6, 2) := by decide +kernel
theorem dL_law_629 : decode cL_law 629 = .ok (.aload_n 2, 1) := by decide +kernel
theorem dL_law_630 : decode cL_law 630 = .ok (.invokevirtual 83, 3) := by decide +kernel
theorem dL_law_633 : decode cL_law 633 = .ok (.iload 5, 2) := by decide +kernel
theorem dL_law_635 : decode cL_law 635 = .ok (.if_icmp .eq 5, 3) := by decide +kernel
theorem dL_law_638 : decode cL_law 638 = .ok (.iconst 0, 1) := by decide +kernel
theorem dL_law_639 : decode cL_law 639 = .ok (.ireturn, 1) := by decide +kernel
theorem dL_law_640 : decode cL_law 640 = .ok (.iload 5, 2) := by decide +kernel
theorem dL_law_642 : decode cL_law 642 = .ok (.ifCond .ne 15, 3) := by decide +kernel
theorem dL_law_645 : decode cL_law 645 = .ok (.aload_n 3, 1) := by decide +kernel
theorem dL_law_646 : decode cL_law 646 = .ok (.iconst 0, 1) := by decide +kernel
theorem dL_law_647 : decode cL_law 647 = .ok (.laload, 1) := by decide +kernel
theorem dL_law_648 : decode cL_law 648 = .ok (.iload 6, 2) := by decide +kernel
theorem dL_law_650 : decode cL_law 650 = .ok (.i2l, 1) := by decide +kernel
theorem dL_law_651 : decode cL_law 651 = .ok (.lcmp, 1) := by decide +kernel
theorem dL_law_652 : decode cL_law 652 = .ok (.ifCond .eq 5, 3) := by decide +kernel
theorem dL_law_655 : decode cL_law 655 = .ok (.iconst 0, 1) := by decide +kernel
theorem dL_law_656 : decode cL_law 656 = .ok (.ireturn, 1) := by decide +kernel
theorem dL_law_657 : decode cL_law 657 = .ok (.goto 746, 3) := by decide +kernel
theorem dL_law_660 : decode cL_law 660 = .ok (.aload_n 1, 1) := by decide +kernel
theorem dL_law_661 : decode cL_law 661 = .ok (.aload_n 0, 1) := by decide +kernel
theorem dL_law_662 : decode cL_law 662 = .ok (.iload 4, 2) := by decide +kernel
theorem dL_law_664 : decode cL_law 664 = .ok (.iconst 1, 1) := by decide +kernel
theorem dL_law_665 : decode cL_law 665 = .ok (.iadd, 1) := by decide +kernel
theorem dL_law_666 : decode cL_law 666 = .ok (.iaload, 1) := by decide +kernel
theorem dL_law_667 : decode cL_law 667 = .ok (.aload_n 0, 1) := by decide +kernel
theorem dL_law_668 : decode cL_law 668 = .ok (.iload 4, 2) := by decide +kernel
theorem dL_law_670 : decode cL_law 670 = .ok (.iconst 2, 1) := by decide +kernel
theorem dL_law_671 : decode cL_law 671 = .ok (.iadd, 1) := by decide +kernel
theorem dL_law_672 : decode cL_law 672 = .ok (.iaload, 1) := by decide +kernel
theorem dL_law_673 : decode cL_law 673 = .ok (.aload_n 0, 1) := by decide +kernel
theorem dL_law_674 : decode cL_law 674 = .ok (.iload 4, 2) := by decide +kernel
theorem dL_law_676 : decode cL_law 676 = .ok (.iconst 3, 1) := by decide +kernel
theorem dL_law_677 : decode cL_law 677 = .ok (.iadd, 1) := by decide +kernel
theorem dL_law_678 : decode cL_law 678 = .ok (.iaload, 1) := by decide +kernel
theorem dL_law_679 : decode cL_law 679 = .ok (.aload_n 3, 1) := by decide +kernel
theorem dL_law_680 : decode cL_law 680 = .ok (.invokestatic 108, 3) := by decide +kernel
theorem dL_law_683 : decode cL_law 683 = .ok (.istore 5, 2) := by decide +kernel
theorem dL_law_685 : decode cL_law 685 = .ok (.aload_n 2, 1) := by decide +kernel
theorem dL_law_686 : decode cL_law 686 = .ok (.aload_n 0, 1) := by decide +kernel
theorem dL_law_687 : decode cL_law 687 = .ok (.iload 4, 2) := by decide +kernel
theorem dL_law_689 : decode cL_law 689 = .ok (.iconst 1, 1) := by decide +kernel
theorem dL_law_690 : decode cL_law 690 = .ok (.iadd, 1) := by decide +kernel
theorem dL_law_691 : decode cL_law 691 = .ok (.iaload, 1) := by decide +kernel
theorem dL_law_692 : decode cL_law 692 = .ok (.aload_n 0, 1) := by decide +kernel
theorem dL_law_693 : decode cL_law 693 = .ok (.iload 4, 2) := by decide +kernel
theorem dL_law_695 : decode cL_law 695 = .ok (.iconst 2, 1) := by decide +kernel
theorem dL_law_696 : decode cL_law 696 = .ok (.iadd, 1) := by decide +kernel
theorem dL_law_697 : decode cL_law 697 = .ok (.iaload, 1) := by decide +kernel
theorem dL_law_698 : decode cL_law 698 = .ok (.aload_n 0, 1) := by decide +kernel
theorem dL_law_699 : decode cL_law 699 = .ok (.iload 4, 2) := by decide +kernel
theorem dL_law_701 : decode cL_law 701 = .ok (.iconst 3, 1) := by decide +kernel
theorem dL_law_702 : decode cL_law 702 = .ok (.iadd, 1) := by decide +kernel
theorem dL_law_703 : decode cL_law 703 = .ok (.iaload, 1) := by decide +kernel
theorem dL_law_704 : decode cL_law 704 = .ok (.invokevirtual 110, 3) := by decide +kernel
theorem dL_law_707 : decode cL_law 707 = .ok (.istore 6, 2) := by decide +kernel
theorem dL_law_709 : decode cL_law 709 = .ok (.aload_n 2, 1) := by decide +kernel
theorem dL_law_710 : decode cL_law 710 = .ok (.invokevirtual 83, 3) := by decide +kernel
theorem dL_law_713 : decode cL_law 713 = .ok (.iload 5, 2) := by decide +kernel
theorem dL_law_715 : decode cL_law 715 = .ok (.if_icmp .eq 5, 3) := by decide +kernel
theorem dL_law_718 : decode cL_law 718 = .ok (.iconst 0, 1) := by decide +kernel
theorem dL_law_719 : decode cL_law 719 = .ok (.ireturn, 1) := by decide +kernel
theorem dL_law_720 : decode cL_law 720 = .ok (.iload 5, 2) := by decide +kernel
theorem dL_law_722 : decode cL_law 722 = .ok (.ifCond .ne 15, 3) := by decide +kernel
theorem dL_law_725 : decode cL_law 725 = .ok (.aload_n 3, 1) := by decide +kernel
theorem dL_law_726 : decode cL_law 726 = .ok (.iconst 0, 1) := by decide +kernel
theorem dL_law_727 : decode cL_law 727 = .ok (.laload, 1) := by decide +kernel
theorem dL_law_728 : decode cL_law 728 = .ok (.iload 6, 2) := by decide +kernel
theorem dL_law_730 : decode cL_law 730 = .ok (.i2l, 1) := by decide +kernel
theorem dL_law_731 : decode cL_law 731 = .ok (.lcmp, 1) := by decide +kernel
theorem dL_law_732 : decode cL_law 732 = .ok (.ifCond .eq 5, 3) := by decide +kernel
theorem dL_law_735 : decode cL_law 735 = .ok (.iconst 0, 1) := by decide +kernel
theorem dL_law_736 : decode cL_law 736 = .ok (.ireturn, 1) := by decide +kernel
theorem dL_law_737 : decode cL_law 737 = .ok (.goto 666, 3) := by decide +kernel
theorem dL_law_740 : decode cL_law 740 = .ok (.aload_n 1, 1) := by decide +kernel
theorem dL_law_741 : decode cL_law 741 = .ok (.aload_n 0, 1) := by decide +kernel
theorem dL_law_742 : decode cL_law 742 = .ok (.iload 4, 2) := by decide +kernel
theorem dL_law_744 : decode cL_law 744 = .ok (.iconst 1, 1) := by decide +kernel
theorem dL_law_745 : decode cL_law 745 = .ok (.iadd, 1) := by decide +kernel
theorem dL_law_746 : decode cL_law 746 = .ok (.iaload, 1) := by decide +kernel
theorem dL_law_747 : decode cL_law 747 = .ok (.aload_n 0, 1) := by decide +kernel
theorem dL_law_748 : decode cL_law 748 = .ok (.iload 4, 2) := by decide +kernel
theorem dL_law_750 : decode cL_law 750 = .ok (.iconst 2, 1) := by decide +kernel
theorem dL_law_751 : decode cL_law 751 = .ok (.iadd, 1) := by decide +kernel
theorem dL_law_752 : decode cL_law 752 = .ok (.iaload, 1) := by decide +kernel
theorem dL_law_753 : decode cL_law 753 = .ok (.aload_n 3, 1) := by decide +kernel
theorem dL_law_754 : decode cL_law 754 = .ok (.invokestatic 111, 3) := by decide +kernel
theorem dL_law_757 : decode cL_law 757 = .ok (.istore 5, 2) := by decide +kernel
theorem dL_law_759 : decode cL_law 759 = .ok (.aload_n 2, 1) := by decide +kernel
theorem dL_law_760 : decode cL_law 760 = .ok (.aload_n 0, 1) := by decide +kernel
theorem dL_law_761 : decode cL_law 761 = .ok (.iload 4, 2) := by decide +kernel
theorem dL_law_763 : decode cL_law 763 = .ok (.iconst 1, 1) := by decide +kernel
theorem dL_law_764 : decode cL_law 764 = .ok (.iadd, 1) := by decide +kernel
theorem dL_law_765 : decode cL_law 765 = .ok (.iaload, 1) := by decide +kernel
theorem dL_law_766 : decode cL_law 766 = .ok (.aload_n 0, 1) := by decide +kernel
theorem dL_law_767 : decode cL_law 767 = .ok (.iload 4, 2) := by decide +kernel
theorem dL_law_769 : decode cL_law 769 = .ok (.iconst 2, 1) := by decide +kernel
theorem dL_law_770 : decode cL_law 770 = .ok (.iadd, 1) := by decide +kernel
theorem dL_law_771 : decode cL_law 771 = .ok (.iaload, 1) := by decide +kernel
theorem dL_law_772 : decode cL_law 772 = .ok (.invokevirtual 113, 3) := by decide +kernel
theorem dL_law_775 : decode cL_law 775 = .ok (.istore 6, 2) := by decide +kernel
theorem dL_law_777 : decode cL_law 777 = .ok (.aload_n 2, 1) := by decide +kernel
theorem dL_law_778 : decode cL_law 778 = .ok (.invokevirtual 83, 3) := by decide +kernel
theorem dL_law_781 : decode cL_law 781 = .ok (.iload 5, 2) := by decide +kernel
theorem dL_law_783 : decode cL_law 783 = .ok (.if_icmp .eq 5, 3) := by decide +kernel
theorem dL_law_786 : decode cL_law 786 = .ok (.iconst 0, 1) := by decide +kernel
theorem dL_law_787 : decode cL_law 787 = .ok (.ireturn, 1) := by decide +kernel
theorem dL_law_788 : decode cL_law 788 = .ok (.iload 5, 2) := by decide +kernel
theorem dL_law_790 : decode cL_law 790 = .ok (.ifCond .ne 15, 3) := by decide +kernel
theorem dL_law_793 : decode cL_law 793 = .ok (.aload_n 3, 1) := by decide +kernel
theorem dL_law_794 : decode cL_law 794 = .ok (.iconst 0, 1) := by decide +kernel
theorem dL_law_795 : decode cL_law 795 = .ok (.laload, 1) := by decide +kernel
theorem dL_law_796 : decode cL_law 796 = .ok (.iload 6, 2) := by decide +kernel
theorem dL_law_798 : decode cL_law 798 = .ok (.i2l, 1) := by decide +kernel
theorem dL_law_799 : decode cL_law 799 = .ok (.lcmp, 1) := by decide +kernel
theorem dL_law_800 : decode cL_law 800 = .ok (.ifCond .eq 5, 3) := by decide +kernel
theorem dL_law_803 : decode cL_law 803 = .ok (.iconst 0, 1) := by decide +kernel
theorem dL_law_804 : decode cL_law 804 = .ok (.ireturn, 1) := by decide +kernel
theorem dL_law_805 : decode cL_law 805 = .ok (.goto 598, 3) := by decide +kernel
theorem dL_law_808 : decode cL_law 808 = .ok (.aload_n 1, 1) := by decide +kernel
theorem dL_law_809 : decode cL_law 809 = .ok (.aload_n 0, 1) := by decide +kernel
theorem dL_law_810 : decode cL_law 810 = .ok (.iload 4, 2) := by decide +kernel
theorem dL_law_812 : decode cL_law 812 = .ok (.iconst 1, 1) := by decide +kernel
theorem dL_law_813 : decode cL_law 813 = .ok (.iadd, 1) := by decide +kernel
theorem dL_law_814 : decode cL_law 814 = .ok (.iaload, 1) := by decide +kernel
theorem dL_law_815 : decode cL_law 815 = .ok (.aload_n 0, 1) := by decide +kernel
theorem dL_law_816 : decode cL_law 816 = .ok (.iload 4, 2) := by decide +kernel
theorem dL_law_818 : decode cL_law 818 = .ok (.iconst 2, 1) := by decide +kernel
theorem dL_law_819 : decode cL_law 819 = .ok (.iadd, 1) := by decide +kernel
theorem dL_law_820 : decode cL_law 820 = .ok (.iaload, 1) := by decide +kernel
theorem dL_law_821 : decode cL_law 821 = .ok (.aload_n 0, 1) := by decide +kernel
theorem dL_law_822 : decode cL_law 822 = .ok (.iload 4, 2) := by decide +kernel
theorem dL_law_824 : decode cL_law 824 = .ok (.iconst 3, 1) := by decide +kernel
theorem dL_law_825 : decode cL_law 825 = .ok (.iadd, 1) := by decide +kernel
theorem dL_law_826 : decode cL_law 826 = .ok (.iaload, 1) := by decide +kernel
theorem dL_law_827 : decode cL_law 827 = .ok (.aload_n 3, 1) := by decide +kernel
theorem dL_law_828 : decode cL_law 828 = .ok (.invokestatic 114, 3) := by decide +kernel
theorem dL_law_831 : decode cL_law 831 = .ok (.istore 5, 2) := by decide +kernel
theorem dL_law_833 : decode cL_law 833 = .ok (.aload_n 2, 1) := by decide +kernel
theorem dL_law_834 : decode cL_law 834 = .ok (.aload_n 0, 1) := by decide +kernel
theorem dL_law_835 : decode cL_law 835 = .ok (.iload 4, 2) := by decide +kernel
theorem dL_law_837 : decode cL_law 837 = .ok (.iconst 1, 1) := by decide +kernel
theorem dL_law_838 : decode cL_law 838 = .ok (.iadd, 1) := by decide +kernel
theorem dL_law_839 : decode cL_law 839 = .ok (.iaload, 1) := by decide +kernel
theorem dL_law_840 : decode cL_law 840 = .ok (.aload_n 0, 1) := by decide +kernel
theorem dL_law_841 : decode cL_law 841 = .ok (.iload 4, 2) := by decide +kernel
theorem dL_law_843 : decode cL_law 843 = .ok (.iconst 2, 1) := by decide +kernel
theorem dL_law_844 : decode cL_law 844 = .ok (.iadd, 1) := by decide +kernel
theorem dL_law_845 : decode cL_law 845 = .ok (.iaload, 1) := by decide +kernel
theorem dL_law_846 : decode cL_law 846 = .ok (.aload_n 0, 1) := by decide +kernel
theorem dL_law_847 : decode cL_law 847 = .ok (.iload 4, 2) := by decide +kernel
theorem dL_law_849 : decode cL_law 849 = .ok (.iconst 3, 1) := by decide +kernel
theorem dL_law_850 : decode cL_law 850 = .ok (.iadd, 1) := by decide +kernel
theorem dL_law_851 : decode cL_law 851 = .ok (.iaload, 1) := by decide +kernel
theorem dL_law_852 : decode cL_law 852 = .ok (.invokevirtual 116, 3) := by decide +kernel
theorem dL_law_855 : decode cL_law 855 = .ok (.istore 6, 2) := by decide +kernel
theorem dL_law_857 : decode cL_law 857 = .ok (.aload_n 2, 1) := by decide +kernel
theorem dL_law_858 : decode cL_law 858 = .ok (.invokevirtual 83, 3) := by decide +kernel
theorem dL_law_861 : decode cL_law 861 = .ok (.iload 5, 2) := by decide +kernel
theorem dL_law_863 : decode cL_law 863 = .ok (.if_icmp .eq 5, 3) := by decide +kernel
theorem dL_law_866 : decode cL_law 866 = .ok (.iconst 0, 1) := by decide +kernel
theorem dL_law_867 : decode cL_law 867 = .ok (.ireturn, 1) := by decide +kernel
theorem dL_law_868 : decode cL_law 868 = .ok (.iload 5, 2) := by decide +kernel
theorem dL_law_870 : decode cL_law 870 = .ok (.ifCond .ne 15, 3) := by decide +kernel
theorem dL_law_873 : decode cL_law 873 = .ok (.aload_n 3, 1) := by decide +kernel
theorem dL_law_874 : decode cL_law 874 = .ok (.iconst 0, 1) := by decide +kernel
theorem dL_law_875 : decode cL_law 875 = .ok (.laload, 1) := by decide +kernel
theorem dL_law_876 : decode cL_law 876 = .ok (.iload 6, 2) := by decide +kernel
theorem dL_law_878 : decode cL_law 878 = .ok (.i2l, 1) := by decide +kernel
theorem dL_law_879 : decode cL_law 879 = .ok (.lcmp, 1) := by decide +kernel
theorem dL_law_880 : decode cL_law 880 = .ok (.ifCond .eq 5, 3) := by decide +kernel
theorem dL_law_883 : decode cL_law 883 = .ok (.iconst 0, 1) := by decide +kernel
theorem dL_law_884 : decode cL_law 884 = .ok (.ireturn, 1) := by decide +kernel
theorem dL_law_885 : decode cL_law 885 = .ok (.goto 518, 3) := by decide +kernel
theorem dL_law_888 : decode cL_law 888 = .ok (.aload_n 1, 1) := by decide +kernel
theorem dL_law_889 : decode cL_law 889 = .ok (.aload_n 0, 1) := by decide +kernel
theorem dL_law_890 : decode cL_law 890 = .ok (.iload 4, 2) := by decide +kernel
theorem dL_law_892 : decode cL_law 892 = .ok (.iconst 1, 1) := by decide +kernel
theorem dL_law_893 : decode cL_law 893 = .ok (.iadd, 1) := by decide +kernel
theorem dL_law_894 : decode cL_law 894 = .ok (.iaload, 1) := by decide +kernel
theorem dL_law_895 : decode cL_law 895 = .ok (.aload_n 3, 1) := by decide +kernel
theorem dL_law_896 : decode cL_law 896 = .ok (.invokestatic 117, 3) := by decide +kernel
theorem dL_law_899 : decode cL_law 899 = .ok (.istore 5, 2) := by decide +kernel
theorem dL_law_901 : decode cL_law 901 = .ok (.aload_n 2, 1) := by decide +kernel
theorem dL_law_902 : decode cL_law 902 = .ok (.aload_n 0, 1) := by decide +kernel
theorem dL_law_903 : decode cL_law 903 = .ok (.iload 4, 2) := by decide +kernel
theorem dL_law_905 : decode cL_law 905 = .ok (.iconst 1, 1) := by decide +kernel
theorem dL_law_906 : decode cL_law 906 = .ok (.iadd, 1) := by decide +kernel
theorem dL_law_907 : decode cL_law 907 = .ok (.iaload, 1) := by decide +kernel
theorem dL_law_908 : decode cL_law 908 = .ok (.invokevirtual 119, 3) := by decide +kernel
theorem dL_law_911 : decode cL_law 911 = .ok (.istore 6, 2) := by decide +kernel
theorem dL_law_913 : decode cL_law 913 = .ok (.aload_n 2, 1) := by decide +kernel
theorem dL_law_914 : decode cL_law 914 = .ok (.invokevirtual 83, 3) := by decide +kernel
theorem dL_law_917 : decode cL_law 917 = .ok (.iload 5, 2) := by decide +kernel
theorem dL_law_919 : decode cL_law 919 = .ok (.if_icmp .eq 5, 3) := by decide +kernel
theorem dL_law_922 : decode cL_law 922 = .ok (.iconst 0, 1) := by decide +kernel
theorem dL_law_923 : decode cL_law 923 = .ok (.ireturn, 1) := by decide +kernel
theorem dL_law_924 : decode cL_law 924 = .ok (.iload 5, 2) := by decide +kernel
theorem dL_law_926 : decode cL_law 926 = .ok (.ifCond .ne 15, 3) := by decide +kernel
theorem dL_law_929 : decode cL_law 929 = .ok (.aload_n 3, 1) := by decide +kernel
theorem dL_law_930 : decode cL_law 930 = .ok (.iconst 0, 1) := by decide +kernel
theorem dL_law_931 : decode cL_law 931 = .ok (.laload, 1) := by decide +kernel
theorem dL_law_932 : decode cL_law 932 = .ok (.iload 6, 2) := by decide +kernel
theorem dL_law_934 : decode cL_law 934 = .ok (.i2l, 1) := by decide +kernel
theorem dL_law_935 : decode cL_law 935 = .ok (.lcmp, 1) := by decide +kernel
theorem dL_law_936 : decode cL_law 936 = .ok (.ifCond .eq 5, 3) := by decide +kernel
theorem dL_law_939 : decode cL_law 939 = .ok (.iconst 0, 1) := by decide +kernel
theorem dL_law_940 : decode cL_law 940 = .ok (.ireturn, 1) := by decide +kernel
theorem dL_law_941 : decode cL_law 941 = .ok (.goto 462, 3) := by decide +kernel
theorem dL_law_944 : decode cL_law 944 = .ok (.aload_n 1, 1) := by decide +kernel
theorem dL_law_945 : decode cL_law 945 = .ok (.aload_n 0, 1) := by decide +kernel
theorem dL_law_946 : decode cL_law 946 = .ok (.iload 4, 2) := by decide +kernel
theorem dL_law_948 : decode cL_law 948 = .ok (.iconst 1, 1) := by decide +kernel
theorem dL_law_949 : decode cL_law 949 = .ok (.iadd, 1) := by decide +kernel
theorem dL_law_950 : decode cL_law 950 = .ok (.iaload, 1) := by decide +kernel
theorem dL_law_951 : decode cL_law 951 = .ok (.aload_n 3, 1) := by decide +kernel
theorem dL_law_952 : decode cL_law 952 = .ok (.invokestatic 120, 3) := by decide +kernel
theorem dL_law_955 : decode cL_law 955 = .ok (.istore 5, 2) := by decide +kernel
theorem dL_law_957 : decode cL_law 957 = .ok (.aload_n 2, 1) := by decide +kernel
theorem dL_law_958 : decode cL_law 958 = .ok (.aload_n 0, 1) := by decide +kernel
theorem dL_law_959 : decode cL_law 959 = .ok (.iload 4, 2) := by decide +kernel
theorem dL_law_961 : decode cL_law 961 = .ok (.iconst 1, 1) := by decide +kernel
theorem dL_law_962 : decode cL_law 962 = .ok (.iadd, 1) := by decide +kernel
theorem dL_law_963 : decode cL_law 963 = .ok (.iaload, 1) := by decide +kernel
theorem dL_law_964 : decode cL_law 964 = .ok (.invokevirtual 122, 3) := by decide +kernel
theorem dL_law_967 : decode cL_law 967 = .ok (.istore 6, 2) := by decide +kernel
theorem dL_law_969 : decode cL_law 969 = .ok (.aload_n 2, 1) := by decide +kernel
theorem dL_law_970 : decode cL_law 970 = .ok (.invokevirtual 83, 3) := by decide +kernel
theorem dL_law_973 : decode cL_law 973 = .ok (.iload 5, 2) := by decide +kernel
theorem dL_law_975 : decode cL_law 975 = .ok (.if_icmp .eq 5, 3) := by decide +kernel
theorem dL_law_978 : decode cL_law 978 = .ok (.iconst 0, 1) := by decide +kernel
theorem dL_law_979 : decode cL_law 979 = .ok (.ireturn, 1) := by decide +kernel
theorem dL_law_980 : decode cL_law 980 = .ok (.iload 5, 2) := by decide +kernel
theorem dL_law_982 : decode cL_law 982 = .ok (.ifCond .ne 15, 3) := by decide +kernel
theorem dL_law_985 : decode cL_law 985 = .ok (.aload_n 3, 1) := by decide +kernel
theorem dL_law_986 : decode cL_law 986 = .ok (.iconst 0, 1) := by decide +kernel
theorem dL_law_987 : decode cL_law 987 = .ok (.laload, 1) := by decide +kernel
theorem dL_law_988 : decode cL_law 988 = .ok (.iload 6, 2) := by decide +kernel
theorem dL_law_990 : decode cL_law 990 = .ok (.i2l, 1) := by decide +kernel
theorem dL_law_991 : decode cL_law 991 = .ok (.lcmp, 1) := by decide +kernel
theorem dL_law_992 : decode cL_law 992 = .ok (.ifCond .eq 5, 3) := by decide +kernel
theorem dL_law_995 : decode cL_law 995 = .ok (.iconst 0, 1) := by decide +kernel
theorem dL_law_996 : decode cL_law 996 = .ok (.ireturn, 1) := by decide +kernel
theorem dL_law_997 : decode cL_law 997 = .ok (.goto 406, 3) := by decide +kernel
theorem dL_law_1000 : decode cL_law 1000 = .ok (.aload_n 1, 1) := by decide +kernel
theorem dL_law_1001 : decode cL_law 1001 = .ok (.aload_n 0, 1) := by decide +kernel
theorem dL_law_1002 : decode cL_law 1002 = .ok (.iload 4, 2) := by decide +kernel
theorem dL_law_1004 : decode cL_law 1004 = .ok (.iconst 1, 1) := by decide +kernel
theorem dL_law_1005 : decode cL_law 1005 = .ok (.iadd, 1) := by decide +kernel
theorem dL_law_1006 : decode cL_law 1006 = .ok (.iaload, 1) := by decide +kernel
theorem dL_law_1007 : decode cL_law 1007 = .ok (.aload_n 3, 1) := by decide +kernel
theorem dL_law_1008 : decode cL_law 1008 = .ok (.invokestatic 123, 3) := by decide +kernel
theorem dL_law_1011 : decode cL_law 1011 = .ok (.istore 5, 2) := by decide +kernel
theorem dL_law_1013 : decode cL_law 1013 = .ok (.aload_n 2, 1) := by decide +kernel
theorem dL_law_1014 : decode cL_law 1014 = .ok (.aload_n 0, 1) := by decide +kernel
theorem dL_law_1015 : decode cL_law 1015 = .ok (.iload 4, 2) := by decide +kernel
theorem dL_law_1017 : decode cL_law 1017 = .ok (.iconst 1, 1) := by decide +kernel
theorem dL_law_1018 : decode cL_law 1018 = .ok (.iadd, 1) := by decide +kernel
theorem dL_law_1019 : decode cL_law 1019 = .ok (.iaload, 1) := by decide +kernel
theorem dL_law_1020 : decode cL_law 1020 = .ok (.invokevirtual 125, 3) := by decide +kernel
theorem dL_law_1023 : decode cL_law 1023 = .ok (.istore 6, 2) := by decide +kernel
theorem dL_law_1025 : decode cL_law 1025 = .ok (.aload_n 2, 1) := by decide +kernel
theorem dL_law_1026 : decode cL_law 1026 = .ok (.invokevirtual 83, 3) := by decide +kernel
theorem dL_law_1029 : decode cL_law 1029 = .ok (.iload 5, 2) := by decide +kernel
theorem dL_law_1031 : decode cL_law 1031 = .ok (.if_icmp .eq 5, 3) := by decide +kernel
theorem dL_law_1034 : decode cL_law 1034 = .ok (.iconst 0, 1) := by decide +kernel
theorem dL_law_1035 : decode cL_law 1035 = .ok (.ireturn, 1) := by decide +kernel
theorem dL_law_1036 : decode cL_law 1036 = .ok (.iload 5, 2) := by decide +kernel
theorem dL_law_1038 : decode cL_law 1038 = .ok (.ifCond .ne 15, 3) := by decide +kernel
theorem dL_law_1041 : decode cL_law 1041 = .ok (.aload_n 3, 1) := by decide +kernel
theorem dL_law_1042 : decode cL_law 1042 = .ok (.iconst 0, 1) := by decide +kernel
theorem dL_law_1043 : decode cL_law 1043 = .ok (.laload, 1) := by decide +kernel
theorem dL_law_1044 : decode cL_law 1044 = .ok (.iload 6, 2) := by decide +kernel
theorem dL_law_1046 : decode cL_law 1046 = .ok (.i2l, 1) := by decide +kernel
theorem dL_law_1047 : decode cL_law 1047 = .ok (.lcmp, 1) := by decide +kernel
theorem dL_law_1048 : decode cL_law 1048 = .ok (.ifCond .eq 5, 3) := by decide +kernel
theorem dL_law_1051 : decode cL_law 1051 = .ok (.iconst 0, 1) := by decide +kernel
theorem dL_law_1052 : decode cL_law 1052 = .ok (.ireturn, 1) := by decide +kernel
theorem dL_law_1053 : decode cL_law 1053 = .ok (.goto 350, 3) := by decide +kernel
theorem dL_law_1056 : decode cL_law 1056 = .ok (.aload_n 1, 1) := by decide +kernel
theorem dL_law_1057 : decode cL_law 1057 = .ok (.aload_n 0, 1) := by decide +kernel
theorem dL_law_1058 : decode cL_law 1058 = .ok (.iload 4, 2) := by decide +kernel
theorem dL_law_1060 : decode cL_law 1060 = .ok (.iconst 1, 1) := by decide +kernel
theorem dL_law_1061 : decode cL_law 1061 = .ok (.iadd, 1) := by decide +kernel
theorem dL_law_1062 : decode cL_law 1062 = .ok (.iaload, 1) := by decide +kernel
theorem dL_law_1063 : decode cL_law 1063 = .ok (.aload_n 3, 1) := by decide +kernel
theorem dL_law_1064 : decode cL_law 1064 = .ok (.invokestatic 126, 3) := by decide +kernel
theorem dL_law_1067 : decode cL_law 1067 = .ok (.istore 5, 2) := by decide +kernel
theorem dL_law_1069 : decode cL_law 1069 = .ok (.aload_n 2, 1) := by decide +kernel
theorem dL_law_1070 : decode cL_law 1070 = .ok (.aload_n 0, 1) := by decide +kernel
theorem dL_law_1071 : decode cL_law 1071 = .ok (.iload 4, 2) := by decide +kernel
theorem dL_law_1073 : decode cL_law 1073 = .ok (.iconst 1, 1) := by decide +kernel
theorem dL_law_1074 : decode cL_law 1074 = .ok (.iadd, 1) := by decide +kernel
theorem dL_law_1075 : decode cL_law 1075 = .ok (.iaload, 1) := by decide +kernel
theorem dL_law_1076 : decode cL_law 1076 = .ok (.invokevirtual 128, 3) := by decide +kernel
theorem dL_law_1079 : decode cL_law 1079 = .ok (.istore 6, 2) := by decide +kernel
theorem dL_law_1081 : decode cL_law 1081 = .ok (.aload_n 2, 1) := by decide +kernel
theorem dL_law_1082 : decode cL_law 1082 = .ok (.invokevirtual 83, 3) := by decide +kernel
theorem dL_law_1085 : decode cL_law 1085 = .ok (.iload 5, 2) := by decide +kernel
theorem dL_law_1087 : decode cL_law 1087 = .ok (.if_icmp .eq 5, 3) := by decide +kernel
theorem dL_law_1090 : decode cL_law 1090 = .ok (.iconst 0, 1) := by decide +kernel
theorem dL_law_1091 : decode cL_law 1091 = .ok (.ireturn, 1) := by decide +kernel
theorem dL_law_1092 : decode cL_law 1092 = .ok (.iload 5, 2) := by decide +kernel
theorem dL_law_1094 : decode cL_law 1094 = .ok (.ifCond .ne 15, 3) := by decide +kernel
theorem dL_law_1097 : decode cL_law 1097 = .ok (.aload_n 3, 1) := by decide +kernel
theorem dL_law_1098 : decode cL_law 1098 = .ok (.iconst 0, 1) := by decide +kernel
theorem dL_law_1099 : decode cL_law 1099 = .ok (.laload, 1) := by decide +kernel
theorem dL_law_1100 : decode cL_law 1100 = .ok (.iload 6, 2) := by decide +kernel
theorem dL_law_1102 : decode cL_law 1102 = .ok (.i2l, 1) := by decide +kernel
theorem dL_law_1103 : decode cL_law 1103 = .ok (.lcmp, 1) := by decide +kernel
theorem dL_law_1104 : decode cL_law 1104 = .ok (.ifCond .eq 5, 3) := by decide +kernel
theorem dL_law_1107 : decode cL_law 1107 = .ok (.iconst 0, 1) := by decide +kernel
theorem dL_law_1108 : decode cL_law 1108 = .ok (.ireturn, 1) := by decide +kernel
theorem dL_law_1109 : decode cL_law 1109 = .ok (.goto 294, 3) := by decide +kernel
theorem dL_law_1112 : decode cL_law 1112 = .ok (.aload_n 1, 1) := by decide +kernel
theorem dL_law_1113 : decode cL_law 1113 = .ok (.aload_n 0, 1) := by decide +kernel
theorem dL_law_1114 : decode cL_law 1114 = .ok (.iload 4, 2) := by decide +kernel
theorem dL_law_1116 : decode cL_law 1116 = .ok (.iconst 1, 1) := by decide +kernel
theorem dL_law_1117 : decode cL_law 1117 = .ok (.iadd, 1) := by decide +kernel
theorem dL_law_1118 : decode cL_law 1118 = .ok (.iaload, 1) := by decide +kernel
theorem dL_law_1119 : decode cL_law 1119 = .ok (.aload_n 3, 1) := by decide +kernel
theorem dL_law_1120 : decode cL_law 1120 = .ok (.invokestatic 129, 3) := by decide +kernel
theorem dL_law_1123 : decode cL_law 1123 = .ok (.istore 5, 2) := by decide +kernel
theorem dL_law_1125 : decode cL_law 1125 = .ok (.aload_n 2, 1) := by decide +kernel
theorem dL_law_1126 : decode cL_law 1126 = .ok (.aload_n 0, 1) := by decide +kernel
theorem dL_law_1127 : decode cL_law 1127 = .ok (.iload 4, 2) := by decide +kernel
theorem dL_law_1129 : decode cL_law 1129 = .ok (.iconst 1, 1) := by decide +kernel
theorem dL_law_1130 : decode cL_law 1130 = .ok (.iadd, 1) := by decide +kernel
theorem dL_law_1131 : decode cL_law 1131 = .ok (.iaload, 1) := by decide +kernel
theorem dL_law_1132 : decode cL_law 1132 = .ok (.invokevirtual 131, 3) := by decide +kernel
theorem dL_law_1135 : decode cL_law 1135 = .ok (.istore 6, 2) := by decide +kernel
theorem dL_law_1137 : decode cL_law 1137 = .ok (.aload_n 2, 1) := by decide +kernel
theorem dL_law_1138 : decode cL_law 1138 = .ok (.invokevirtual 83, 3) := by decide +kernel
theorem dL_law_1141 : decode cL_law 1141 = .ok (.iload 5, 2) := by decide +kernel
theorem dL_law_1143 : decode cL_law 1143 = .ok (.if_icmp .eq 5, 3) := by decide +kernel
theorem dL_law_1146 : decode cL_law 1146 = .ok (.iconst 0, 1) := by decide +kernel
theorem dL_law_1147 : decode cL_law 1147 = .ok (.ireturn, 1) := by decide +kernel
theorem dL_law_1148 : decode cL_law 1148 = .ok (.iload 5, 2) := by decide +kernel
theorem dL_law_1150 : decode cL_law 1150 = .ok (.ifCond .ne 15, 3) := by decide +kernel
theorem dL_law_1153 : decode cL_law 1153 = .ok (.aload_n 3, 1) := by decide +kernel
theorem dL_law_1154 : decode cL_law 1154 = .ok (.iconst 0, 1) := by decide +kernel
theorem dL_law_1155 : decode cL_law 1155 = .ok (.laload, 1) := by decide +kernel
theorem dL_law_1156 : decode cL_law 1156 = .ok (.iload 6, 2) := by decide +kernel
theorem dL_law_1158 : decode cL_law 1158 = .ok (.i2l, 1) := by decide +kernel
theorem dL_law_1159 : decode cL_law 1159 = .ok (.lcmp, 1) := by decide +kernel
theorem dL_law_1160 : decode cL_law 1160 = .ok (.ifCond .eq 5, 3) := by decide +kernel
theorem dL_law_1163 : decode cL_law 1163 = .ok (.iconst 0, 1) := by decide +kernel
theorem dL_law_1164 : decode cL_law 1164 = .ok (.ireturn, 1) := by decide +kernel
theorem dL_law_1165 : decode cL_law 1165 = .ok (.goto 238, 3) := by decide +kernel
theorem dL_law_1168 : decode cL_law 1168 = .ok (.aload_n 1, 1) := by decide +kernel
theorem dL_law_1169 : decode cL_law 1169 = .ok (.aload_n 0, 1) := by decide +kernel
theorem dL_law_1170 : decode cL_law 1170 = .ok (.iload 4, 2) := by decide +kernel
theorem dL_law_1172 : decode cL_law 1172 = .ok (.iconst 1, 1) := by decide +kernel
theorem dL_law_1173 : decode cL_law 1173 = .ok (.iadd, 1) := by decide +kernel
theorem dL_law_1174 : decode cL_law 1174 = .ok (.iaload, 1) := by decide +kernel
theorem dL_law_1175 : decode cL_law 1175 = .ok (.aload_n 3, 1) := by decide +kernel
theorem dL_law_1176 : decode cL_law 1176 = .ok (.invokestatic 132, 3) := by decide +kernel
theorem dL_law_1179 : decode cL_law 1179 = .ok (.istore 5, 2) := by decide +kernel
theorem dL_law_1181 : decode cL_law 1181 = .ok (.aload_n 2, 1) := by decide +kernel
theorem dL_law_1182 : decode cL_law 1182 = .ok (.aload_n 0, 1) := by decide +kernel
theorem dL_law_1183 : decode cL_law 1183 = .ok (.iload 4, 2) := by decide +kernel
theorem dL_law_1185 : decode cL_law 1185 = .ok (.iconst 1, 1) := by decide +kernel
theorem dL_law_1186 : decode cL_law 1186 = .ok (.iadd, 1) := by decide +kernel
theorem dL_law_1187 : decode cL_law 1187 = .ok (.iaload, 1) := by decide +kernel
theorem dL_law_1188 : decode cL_law 1188 = .ok (.invokevirtual 134, 3) := by decide +kernel
theorem dL_law_1191 : decode cL_law 1191 = .ok (.istore 6, 2) := by decide +kernel
theorem dL_law_1193 : decode cL_law 1193 = .ok (.aload_n 2, 1) := by decide +kernel
theorem dL_law_1194 : decode cL_law 1194 = .ok (.invokevirtual 83, 3) := by decide +kernel
theorem dL_law_1197 : decode cL_law 1197 = .ok (.iload 5, 2) := by decide +kernel
theorem dL_law_1199 : decode cL_law 1199 = .ok (.if_icmp .eq 5, 3) := by decide +kernel
theorem dL_law_1202 : decode cL_law 1202 = .ok (.iconst 0, 1) := by decide +kernel
theorem dL_law_1203 : decode cL_law 1203 = .ok (.ireturn, 1) := by decide +kernel
theorem dL_law_1204 : decode cL_law 1204 = .ok (.iload 5, 2) := by decide +kernel
theorem dL_law_1206 : decode cL_law 1206 = .ok (.ifCond .ne 15, 3) := by decide +kernel
theorem dL_law_1209 : decode cL_law 1209 = .ok (.aload_n 3, 1) := by decide +kernel
theorem dL_law_1210 : decode cL_law 1210 = .ok (.iconst 0, 1) := by decide +kernel
theorem dL_law_1211 : decode cL_law 1211 = .ok (.laload, 1) := by decide +kernel
theorem dL_law_1212 : decode cL_law 1212 = .ok (.iload 6, 2) := by decide +kernel
theorem dL_law_1214 : decode cL_law 1214 = .ok (.i2l, 1) := by decide +kernel
theorem dL_law_1215 : decode cL_law 1215 = .ok (.lcmp, 1) := by decide +kernel
theorem dL_law_1216 : decode cL_law 1216 = .ok (.ifCond .eq 5, 3) := by decide +kernel
theorem dL_law_1219 : decode cL_law 1219 = .ok (.iconst 0, 1) := by decide +kernel
theorem dL_law_1220 : decode cL_law 1220 = .ok (.ireturn, 1) := by decide +kernel
theorem dL_law_1221 : decode cL_law 1221 = .ok (.goto 182, 3) := by decide +kernel
theorem dL_law_1224 : decode cL_law 1224 = .ok (.aload_n 1, 1) := by decide +kernel
theorem dL_law_1225 : decode cL_law 1225 = .ok (.aload_n 0, 1) := by decide +kernel
theorem dL_law_1226 : decode cL_law 1226 = .ok (.iload 4, 2) := by decide +kernel
theorem dL_law_1228 : decode cL_law 1228 = .ok (.iconst 1, 1) := by decide +kernel
theorem dL_law_1229 : decode cL_law 1229 = .ok (.iadd, 1) := by decide +kernel
theorem dL_law_1230 : decode cL_law 1230 = .ok (.iaload, 1) := by decide +kernel
theorem dL_law_1231 : decode cL_law 1231 = .ok (.aload_n 3, 1) := by decide +kernel
theorem dL_law_1232 : decode cL_law 1232 = .ok (.invokestatic 135, 3) := by decide +kernel
theorem dL_law_1235 : decode cL_law 1235 = .ok (.istore 5, 2) := by decide +kernel
theorem dL_law_1237 : decode cL_law 1237 = .ok (.aload_n 2, 1) := by decide +kernel
theorem dL_law_1238 : decode cL_law 1238 = .ok (.aload_n 0, 1) := by decide +kernel
theorem dL_law_1239 : decode cL_law 1239 = .ok (.iload 4, 2) := by decide +kernel
theorem dL_law_1241 : decode cL_law 1241 = .ok (.iconst 1, 1) := by decide +kernel
theorem dL_law_1242 : decode cL_law 1242 = .ok (.iadd, 1) := by decide +kernel
theorem dL_law_1243 : decode cL_law 1243 = .ok (.iaload, 1) := by decide +kernel
theorem dL_law_1244 : decode cL_law 1244 = .ok (.invokevirtual 137, 3) := by decide +kernel
theorem dL_law_1247 : decode cL_law 1247 = .ok (.istore 6, 2) := by decide +kernel
theorem dL_law_1249 : decode cL_law 1249 = .ok (.aload_n 2, 1) := by decide +kernel
theorem dL_law_1250 : decode cL_law 1250 = .ok (.invokevirtual 83, 3) := by decide +kernel
theorem dL_law_1253 : decode cL_law 1253 = .ok (.iload 5, 2) := by decide +kernel
theorem dL_law_1255 : decode cL_law 1255 = .ok (.if_icmp .eq 5, 3) := by decide +kernel
theorem dL_law_1258 : decode cL_law 1258 = .ok (.iconst 0, 1) := by decide +kernel
theorem dL_law_1259 : decode cL_law 1259 = .ok (.ireturn, 1) := by decide +kernel
theorem dL_law_1260 : decode cL_law 1260 = .ok (.iload 5, 2) := by decide +kernel
theorem dL_law_1262 : decode cL_law 1262 = .ok (.ifCond .ne 15, 3) := by decide +kernel
theorem dL_law_1265 : decode cL_law 1265 = .ok (.aload_n 3, 1) := by decide +kernel
theorem dL_law_1266 : decode cL_law 1266 = .ok (.iconst 0, 1) := by decide +kernel
theorem dL_law_1267 : decode cL_law 1267 = .ok (.laload, 1) := by decide +kernel
theorem dL_law_1268 : decode cL_law 1268 = .ok (.iload 6, 2) := by decide +kernel
theorem dL_law_1270 : decode cL_law 1270 = .ok (.i2l, 1) := by decide +kernel
theorem dL_law_1271 : decode cL_law 1271 = .ok (.lcmp, 1) := by decide +kernel
theorem dL_law_1272 : decode cL_law 1272 = .ok (.ifCond .eq 5, 3) := by decide +kernel
theorem dL_law_1275 : decode cL_law 1275 = .ok (.iconst 0, 1) := by decide +kernel
theorem dL_law_1276 : decode cL_law 1276 = .ok (.ireturn, 1) := by decide +kernel
theorem dL_law_1277 : decode cL_law 1277 = .ok (.goto 126, 3) := by decide +kernel
theorem dL_law_1280 : decode cL_law 1280 = .ok (.aload_n 1, 1) := by decide +kernel
theorem dL_law_1281 : decode cL_law 1281 = .ok (.aload_n 0, 1) := by decide +kernel
theorem dL_law_1282 : decode cL_law 1282 = .ok (.iload 4, 2) := by decide +kernel
theorem dL_law_1284 : decode cL_law 1284 = .ok (.iconst 1, 1) := by decide +kernel
theorem dL_law_1285 : decode cL_law 1285 = .ok (.iadd, 1) := by decide +kernel
theorem dL_law_1286 : decode cL_law 1286 = .ok (.iaload, 1) := by decide +kernel
theorem dL_law_1287 : decode cL_law 1287 = .ok (.aload_n 0, 1) := by decide +kernel
theorem dL_law_1288 : decode cL_law 1288 = .ok (.iload 4, 2) := by decide +kernel
theorem dL_law_1290 : decode cL_law 1290 = .ok (.iconst 2, 1) := by decide +kernel
theorem dL_law_1291 : decode cL_law 1291 = .ok (.iadd, 1) := by decide +kernel
theorem dL_law_1292 : decode cL_law 1292 = .ok (.iaload, 1) := by decide +kernel
theorem dL_law_1293 : decode cL_law 1293 = .ok (.aload_n 3, 1) := by decide +kernel
theorem dL_law_1294 : decode cL_law 1294 = .ok (.invokestatic 138, 3) := by decide +kernel
theorem dL_law_1297 : decode cL_law 1297 = .ok (.istore 5, 2) := by decide +kernel
theorem dL_law_1299 : decode cL_law 1299 = .ok (.aload_n 2, 1) := by decide +kernel
theorem dL_law_1300 : decode cL_law 1300 = .ok (.aload_n 0, 1) := by decide +kernel
theorem dL_law_1301 : decode cL_law 1301 = .ok (.iload 4, 2) := by decide +kernel
theorem dL_law_1303 : decode cL_law 1303 = .ok (.iconst 1, 1) := by decide +kernel
theorem dL_law_1304 : decode cL_law 1304 = .ok (.iadd, 1) := by decide +kernel
theorem dL_law_1305 : decode cL_law 1305 = .ok (.iaload, 1) := by decide +kernel
theorem dL_law_1306 : decode cL_law 1306 = .ok (.aload_n 0, 1) := by decide +kernel
theorem dL_law_1307 : decode cL_law 1307 = .ok (.iload 4, 2) := by decide +kernel
theorem dL_law_1309 : decode cL_law 1309 = .ok (.iconst 2, 1) := by decide +kernel
theorem dL_law_1310 : decode cL_law 1310 = .ok (.iadd, 1) := by decide +kernel
theorem dL_law_1311 : decode cL_law 1311 = .ok (.iaload, 1) := by decide +kernel
theorem dL_law_1312 : decode cL_law 1312 = .ok (.invokevirtual 140, 3) := by decide +kernel
theorem dL_law_1315 : decode cL_law 1315 = .ok (.istore 6, 2) := by decide +kernel
theorem dL_law_1317 : decode cL_law 1317 = .ok (.aload_n 2, 1) := by decide +kernel
theorem dL_law_1318 : decode cL_law 1318 = .ok (.invokevirtual 83, 3) := by decide +kernel
theorem dL_law_1321 : decode cL_law 1321 = .ok (.iload 5, 2) := by decide +kernel
theorem dL_law_1323 : decode cL_law 1323 = .ok (.if_icmp .eq 5, 3) := by decide +kernel
theorem dL_law_1326 : decode cL_law 1326 = .ok (.iconst 0, 1) := by decide +kernel
theorem dL_law_1327 : decode cL_law 1327 = .ok (.ireturn, 1) := by decide +kernel
theorem dL_law_1328 : decode cL_law 1328 = .ok (.iload 5, 2) := by decide +kernel
theorem dL_law_1330 : decode cL_law 1330 = .ok (.ifCond .ne 15, 3) := by decide +kernel
theorem dL_law_1333 : decode cL_law 1333 = .ok (.aload_n 3, 1) := by decide +kernel
theorem dL_law_1334 : decode cL_law 1334 = .ok (.iconst 0, 1) := by decide +kernel
theorem dL_law_1335 : decode cL_law 1335 = .ok (.laload, 1) := by decide +kernel
theorem dL_law_1336 : decode cL_law 1336 = .ok (.iload 6, 2) := by decide +kernel
theorem dL_law_1338 : decode cL_law 1338 = .ok (.i2l, 1) := by decide +kernel
theorem dL_law_1339 : decode cL_law 1339 = .ok (.lcmp, 1) := by decide +kernel
theorem dL_law_1340 : decode cL_law 1340 = .ok (.ifCond .eq 5, 3) := by decide +kernel
theorem dL_law_1343 : decode cL_law 1343 = .ok (.iconst 0, 1) := by decide +kernel
theorem dL_law_1344 : decode cL_law 1344 = .ok (.ireturn, 1) := by decide +kernel
theorem dL_law_1345 : decode cL_law 1345 = .ok (.goto 58, 3) := by decide +kernel
theorem dL_law_1348 : decode cL_law 1348 = .ok (.aload_n 1, 1) := by decide +kernel
theorem dL_law_1349 : decode cL_law 1349 = .ok (.invokevirtual 141, 3) := by decide +kernel
theorem dL_law_1352 : decode cL_law 1352 = .ok (.dstore 5, 2) := by decide +kernel
theorem dL_law_1354 : decode cL_law 1354 = .ok (.aload_n 2, 1) := by decide +kernel
theorem dL_law_1355 : decode cL_law 1355 = .ok (.invokevirtual 145, 3) := by decide +kernel
theorem dL_law_1358 : decode cL_law 1358 = .ok (.dstore 7, 2) := by decide +kernel
theorem dL_law_1360 : decode cL_law 1360 = .ok (.dload 5, 2) := by decide +kernel
theorem dL_law_1362 : decode cL_law 1362 = .ok (.dload 7, 2) := by decide +kernel
theorem dL_law_1364 : decode cL_law 1364 = .ok (.dcmp .l, 1) := by decide +kernel
theorem dL_law_1365 : decode cL_law 1365 = .ok (.ifCond .eq 21, 3) := by decide +kernel
theorem dL_law_1368 : decode cL_law 1368 = .ok (.dload 5, 2) := by decide +kernel
theorem dL_law_1370 : decode cL_law 1370 = .ok (.dload 5, 2) := by decide +kernel
theorem dL_law_1372 : decode cL_law 1372 = .ok (.dcmp .l, 1) := by decide +kernel
theorem dL_law_1373 : decode cL_law 1373 = .ok (.ifCond .eq 11, 3) := by decide +kernel
theorem dL_law_1376 : decode cL_law 1376 = .ok (.dload 7, 2) := by decide +kernel
theorem dL_law_1378 : decode cL_law 1378 = .ok (.dload 7, 2) := by decide +kernel
theorem dL_law_1380 : decode cL_law 1380 = .ok (.dcmp .l, 1) := by decide +kernel
theorem dL_law_1381 : decode cL_law 1381 = .ok (.ifCond .ne 5, 3) := by decide +kernel
theorem dL_law_1384 : decode cL_law 1384 = .ok (.iconst 0, 1) := by decide +kernel
theorem dL_law_1385 : decode cL_law 1385 = .ok (.ireturn, 1) := by decide +kernel
theorem dL_law_1386 : decode cL_law 1386 = .ok (.goto 17, 3) := by decide +kernel
theorem dL_law_1389 : decode cL_law 1389 = .ok (.aload_n 1, 1) := by decide +kernel
theorem dL_law_1390 : decode cL_law 1390 = .ok (.invokevirtual 146, 3) := by decide +kernel
theorem dL_law_1393 : decode cL_law 1393 = .ok (.aload_n 2, 1) := by decide +kernel
theorem dL_law_1394 : decode cL_law 1394 = .ok (.invokevirtual 150, 3) := by decide +kernel
theorem dL_law_1397 : decode cL_law 1397 = .ok (.lcmp, 1) := by decide +kernel
theorem dL_law_1398 : decode cL_law 1398 = .ok (.ifCond .eq 5, 3) := by decide +kernel
theorem dL_law_1401 : decode cL_law 1401 = .ok (.iconst 0, 1) := by decide +kernel
theorem dL_law_1402 : decode cL_law 1402 = .ok (.ireturn, 1) := by decide +kernel
theorem dL_law_1403 : decode cL_law 1403 = .ok (.iinc 4 6, 3) := by decide +kernel
theorem dL_law_1406 : decode cL_law 1406 = .ok (.goto (-1383), 3) := by decide +kernel
theorem dL_law_1409 : decode cL_law 1409 = .ok (.iconst 1, 1) := by decide +kernel
theorem dL_law_1410 : decode cL_law 1410 = .ok (.ireturn, 1) := by decide +kernel
abbrev vwCl : List vw_C := [(RX0, TX0, 1), (RX1, TX1, 5), (RX2, TX2, 9), (RX3, TX3, 2), (RX4, TX4, 7)]
/-! ===== END printed: names (the pool's part left out) ===== -/
