/-! a double handed back, and what else the model's last calls want -/
section KE2
variable {p : Program} {l : Launch} {e : Env} {R : Room} {s : State} {m : MethodId} {args : Array Value} {below : List Frame} {meth : Method} {c : Code} {H : Heap} {locs : List Loc} {cells slots mc ms pc : Nat} {cc : ByteArray} {ls : Array Slot} {G : kG} {ws w1 : va_W} {A : Nat → Prop}
theorem k_dret {S : Type} {post : UInt64 → S → Prop} {wf : S → va_W} {v : UInt64} {Qs : State → Prop} (u : S) (hx : p.tables.exec = Jvm.exec) (hb : c.code = cc) (hr : meth.sig.returnType = some .double) (hlocks : meth.locks = false) (hP : va_P G.1 vwCl w1 H) (hD : va_D A w1) (hS : va_S A s.heap H locs) (hAe : A = va_A ws s.heap.size) (hQ : Qs = MQ below (kQd G ws post wf s.heap.size) args s mc ms A) (hc : cells ≤ mc) (hs : slots ≤ ms) (hdg : decode cc pc = .ok (.dreturn, 1)) (hw : w1 = wf u) (hpost : post v u) :
    W p l e R s m args below meth c H locs cells slots Qs (F0 m pc ls [.double v]) := by
  refine W.widen hc hs ?_
  subst hw
  rw [hQ]
  exact W.dret (v := v) hx hb hr (fun t ht _ => ⟨⟨v, u, rfl, hpost, by rw [ht]; exact hP, by rw [← hAe]; exact hD⟩, by rw [← hAe]; exact hS.F ht⟩) hS.2.2 hdg hlocks
end KE2
section KR2
variable {p : Program} {l : Launch} {e : Env} {R : Room} {s : State} {m : MethodId} {args : Array Value} {below : List Frame} {meth : Method} {c : Code} {H : Heap} {locs : List Loc} {cells slots mc ms pc : Nat} {rest st0 : List Value} {ls : Array Slot} {G : kG} {ws wc : va_W} {A : Nat → Prop} {a : Array Value} {Qs : State → Prop}
theorem k_calld {S : Type} {post : UInt64 → S → Prop} {wf : S → va_W} (wn : S → va_W) (wr : va_W) (hr : va_Run p l e R s m args below meth c H locs cells slots mc ms (F0 m pc ls st0) rest (kQd G wc post wf H.size a) (va_A wc H.size))
    (hP : va_P G.1 vwCl ws H) (hD : va_D A ws) (hS : va_S A s.heap H locs) (hA : ∀ q, s.heap.size ≤ q → A q) (isC isR isN : List Nat) (hC : isC.map (fun i => ws[i]?) = wc.map some) (hR : isR.map (fun i => ws[i]?) = wr.map some) (hnR : va_nd isR = true) (hdis : ∀ i ∈ isR, i ∉ isC) (hN : ∀ u, isN.map (fun i => (wr ++ wf u)[i]?) = (wn u).map some) (hnN : va_nd isN = true)
    (kk : ∀ (r : UInt64) (u : S) (H1 : Heap) (locs1 : List Loc), post r u → va_P G.1 vwCl (wn u) H1 → va_D A (wn u) → va_S A s.heap H1 locs1 → W p l e R s m args below meth c H1 locs1 (cells + mc) (slots + ms) Qs (F0 m (pc + 3) ls (.double r :: rest))) : W p l e R s m args below meth c H locs cells slots Qs (F0 m pc ls st0) :=
  va_calld hr hS (fun q _ h => va_free hD hS hA isC hC q h) (va_free hD hS hA isC hC) (fun r u t H1 locs1 ht _ hp hB _ hk hS1 => by
    obtain ⟨h1, h2⟩ := k_join (wr := wr) (wn := wn) hP hD hS hA isC isR isN hC hR hnR hdis (hN u) hnN ht hB hk
    exact kk r u H1 locs1 hp h1 h2 hS1)
end KR2
theorem sh_all : ((List.range 121).all fun a => (List.range 121).all fun b => b == 0 || decide (FP.ddiv (FP.i2d (nI a)) (FP.i2d (nI b)) &&& 0x7fffffffffffffff ≤ 0x7ff0000000000000)) = true := by decide +kernel
/-- no share of knots is other than a number -/
theorem sh_ok {a b : Nat} (ha : a ≤ 120) (hb : b ≤ 120) (h0 : 0 < b) : vf_n64 (FP.ddiv (FP.i2d (nI a)) (FP.i2d (nI b))) := by
  have h := List.all_eq_true.mp (List.all_eq_true.mp sh_all a (List.mem_range.mpr (by omega))) b (List.mem_range.mpr (by omega))
  have e : (b == 0) = false := by simp; omega
  rw [e, Bool.false_or] at h
  unfold vf_n64
  exact of_decide_eq_true h
def shR (w0 w1 : Wv) : UInt64 := if vM w0 + vM w1 = 0 then FP.dconst0 else FP.ddiv (FP.i2d (nI (vM w0 + vM w1 - ofN w0 w1))) (FP.i2d (nI (vM w0 + vM w1)))
theorem shR_z {w0 w1 : Wv} (h : vM w0 + vM w1 = 0) : FP.dconst0 = shR w0 w1 := (if_pos h).symm
theorem shR_n {w0 w1 : Wv} (h : ¬ vM w0 + vM w1 = 0) : FP.ddiv (FP.i2d (nI (vM w0 + vM w1 - ofN w0 w1))) (FP.i2d (nI (vM w0 + vM w1))) = shR w0 w1 := (if_neg h).symm
/-- the share is a number -/
theorem shR_num {w0 w1 : Wv} (h0 : vM w0 ≤ 60) (h1 : vM w1 ≤ 60) : vf_n64 (shR w0 w1) := by
  unfold shR
  split
  · unfold vf_n64
    decide +kernel
  · exact sh_ok (by omega) (by omega) (by omega)
/-! hours keep the plan -/
theorem wkF_plan : ∀ (n : Nat) (w : Wv) (B : Nat → Nat), vP (wkF n w B).1 = vP w := by
  intro n
  induction n with
  | zero => intro w B; rfl
  | succ n ih =>
    intro w B
    by_cases c : 0 < vT w ∧ vM w < 60 ∧ takeBy B (vC w 0) < 8
    · rw [wkF_s c.1 c.2.1 c.2.2]
      exact ih (knW w B) (takeB B (vC w 0))
    · rw [wkF_n c]
theorem hr1_plan (s : Rg) : vP (hr1 s).1.1 = vP s.1 ∧ vP (hr1 s).1.2.1 = vP s.2.1 := ⟨wkF_plan _ _ _, wkF_plan _ _ _⟩
theorem hrs_plan : ∀ (n : Nat) (s : Rg), vP (hrs n s).1.1 = vP s.1 ∧ vP (hrs n s).1.2.1 = vP s.2.1
  | 0, _ => ⟨rfl, rfl⟩
  | n + 1, s => by
    rw [hrs]
    have h := hrs_plan n (hr1 s).1
    have h1 := hr1_plan s
    exact ⟨h.1.trans h1.1, h.2.trans h1.2⟩
theorem plF_of {a b c d : Wv} (h1 : vP a = vP c) (h2 : vP b = vP d) : plF a b = plF c d := by unfold plF; rw [h1, h2]
section KCL
variable {p : Program} {l : Launch} {e : Env} {R : Room} {s : State} {m : MethodId} {args : Array Value} {below : List Frame} {meth : Method} {c : Code} {H H0 : Heap} {locs : List Loc} {cells slots : Nat} {Q : State → Prop}
variable {cc : ByteArray} {pc : Nat} {ls : Array Slot} {rest : List Value} {G : kG} {A : Nat → Prop} {a : Nat} {ws : va_W}
theorem k_clone (hexec : p.tables.exec = Jvm.exec) (hb : c.code = cc) (hml : c.maxLocals = ls.size) {own : String} {index : Nat} (hown : s.vm.findClass own = some m.cls)
    (hlink : (Cond.methodLink own index ⟨"[I", "clone", "()Ljava/lang/Object;"⟩).before args s = true) (hsame : (Cond.sameMethod "[I" "java/lang/Object" "clone" "()Ljava/lang/Object;").before args s = true)
    (hnat : (Cond.native ⟨"java/lang/Object", "clone", "()Ljava/lang/Object;"⟩).before args s = true) (hinst : (Cond.instanceMethod ⟨"java/lang/Object", "clone", "()Ljava/lang/Object;"⟩).before args s = true)
    (hsel : (Cond.selects "[I" ⟨"[I", "clone", "()Ljava/lang/Object;"⟩ ⟨"java/lang/Object", "clone", "()Ljava/lang/Object;"⟩).before args s = true)
    (hK : kK G s) (hP : va_P G.1 vwCl ws H) (hD : va_D A ws) (hS : va_S A H0 H locs) (hA : ∀ q, H0.size ≤ q → A q) (q0 : Nat) {n : Nat} {f : Nat → Int32} (ha : ws[q0]? = some (kC G a n f))
    (hframes : 1 ≤ R.frames) (hlocals : (rest.map fun v => v.category).sum + 14 ≤ R.locals) (hcells : cells + 1 ≤ R.cells) (hslots : slots + n ≤ R.slots) (hdg : decode cc pc = .ok (.invokevirtual index, 3))
    (kk : ∀ (q : Nat) (H1 : Heap), va_P G.1 vwCl (ws ++ [kC G q n f]) H1 → va_D A (ws ++ [kC G q n f]) → va_S A H0 H1 locs →
      W p l e R s m args below meth c H1 locs (cells + 1) (slots + n) Q (F0 m (pc + 3) ls (.ref q :: rest))) : W p l e R s m args below meth c H locs cells slots Q (F0 m pc ls (.ref a :: rest)) :=
  va_clone (D := G.1) hexec hb hml hown hlink hsame hnat hinst hsel (hK.2.2.2.1 ("[I", "java/lang/Cloneable") (List.mem_of_getElem? (i := 3) rfl)) hK.1 hP hD hS hA q0 0 ha rfl (k_nmI hK) (va_fit (fun _ _ => rfl)) hframes hlocals hcells hslots hdg (fun q H1 _ hP hD hS => kk q H1 hP hD hS)
end KCL
