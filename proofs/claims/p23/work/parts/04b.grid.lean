/-! an array of int arrays -/
theorem k_nmI {G : kG} {s : State} (hK : kK G s) : s.vm.findClass "[I" = some G.2.1 := by
  have h : s.vm.findClass ("[" ++ FieldType.int.toString) = some G.2.1 := (hK.1.2 0 (G.2.1, .int) rfl).2
  have e : ("[" ++ FieldType.int.toString) = "[I" := by decide +kernel
  rw [e] at h
  exact h
theorem k_gk {G : kG} {s : State} (hK : kK G s) : ∃ (kA kC : Class), s.vm.classes[G.2.2.2]? = some kA ∧ kA.kind = .array G.2.1 (.array .int) ∧ s.vm.classes[G.2.1]? = some kC := by
  obtain ⟨comp, c, k, h1, h2, h3, h4, h5⟩ := arrayOverA_spec hK.2.2.2.2.2.2.2.1
  have e1 : c = G.2.2.2 := Option.some.inj (h5.symm.trans (hK.1.2 2 (G.2.2.2, .array .int) rfl).2)
  have e2 : comp = G.2.1 := by
    have h := k_nmI hK
    have e : (FieldType.array .int).toString = "[I" := by decide +kernel
    rw [e] at h1
    exact Option.some.inj (h1.symm.trans h)
  obtain ⟨kC, hkC, -⟩ := Vm.findClass_spec h1
  rw [e1] at h3
  rw [e2] at h4 hkC
  exact ⟨k, kC, h3, h4, hkC⟩
section KGD
variable {p : Program} {l : Launch} {e : Env} {R : Room} {s : State} {m : MethodId} {args : Array Value} {below : List Frame} {meth : Method} {c : Code} {H H0 : Heap} {locs : List Loc} {cells slots : Nat} {Q : State → Prop}
variable {cc : ByteArray} {pc : Nat} {ls : Array Slot} {rest : List Value} {G : kG} {A : Nat → Prop} {a : Nat} {ws : va_W}
set_option maxHeartbeats 4000000 in
theorem k_newg (hexec : p.tables.exec = Jvm.exec) (hb : c.code = cc) {own : String} {index : Nat} (hown : s.vm.findClass own = some m.cls) (hclink : (Cond.classLink own index "[I").before args s = true) (hK : kK G s) (hP : va_P G.1 vwCl ws H) (hD : va_D A ws) (hS : va_S A H0 H locs) (hA : ∀ q, H0.size ≤ q → A q)
    {n : Int32} {N' : Nat} (hn : ¬ n < 0) (hN : n.toNatClampNeg = N') (hbytes : N' * 4 ≤ 536870912) (hcells : cells + 1 ≤ R.cells) (hslots : slots + N' ≤ R.slots) (hdg : decode cc pc = .ok (.anewarray index, 3))
    (kk : ∀ (q : Nat) (H1 : Heap), va_P G.1 vwCl (ws ++ [kGd G q N' (fun _ => none)]) H1 → va_D A (ws ++ [kGd G q N' (fun _ => none)]) → va_S A H0 H1 locs →
      W p l e R s m args below meth c H1 locs (cells + 1) (slots + N') Q (F0 m (pc + 3) ls (.ref q :: rest))) : W p l e R s m args below meth c H locs cells slots Q (F0 m pc ls (.int n :: rest)) := by
  subst hN
  have e0 : (FieldType.array .int).toString = "[I" := by decide +kernel
  have hcl2 : (Cond.classLink own index (FieldType.array .int).toString).before args s = true := by rw [e0]; exact hclink
  have hov : (Cond.arrayOver (.array .int)).before args s = true := hK.2.2.2.2.2.2.2.1.use
  have hra : s.vm.findClass ("[" ++ (FieldType.array .int).toString) = some G.2.2.2 := (hK.1.2 2 (G.2.2.2, .array .int) rfl).2
  clear hK hclink
  refine W.anewA (t := .int) hexec hb hown hcl2 hov rfl hdg rfl hn hbytes hcells hslots fun cA kA comp f1 f2 f3 f4 => ?_
  have hc : cA = G.2.2.2 := Option.some.inj (f1.symm.trans hra)
  subst hc
  generalize hH1 : H.push ({ cls := G.2.2.2, slots := Array.replicate n.toNatClampNeg .null, vm := .none } : Cell) = H1
  have z1 : H1.size = H.size + 1 := by rw [← hH1, Array.size_push]
  have e1 : H1[H.size]? = some (arrV G.2.2.2 n.toNatClampNeg (fun _ => .null)) := by rw [← hH1, Array.getElem?_push_size, ← arrV_new]
  have o1 : ∀ q : Nat, q < H.size → H1[q]? = H[q]? := fun q hq => by rw [← hH1, Array.getElem?_push, if_neg (Nat.ne_of_lt hq)]
  have hk : ∀ (k : Nat) (x : Nat × va_E), ws[k]? = some x → H1[x.1]? = H[x.1]? := fun k x hx => o1 x.1 ((hP k x hx).lt)
  refine kk H.size H1 ((hP.kept hk).app (fun k x hx => ?_)) (hD.push hP rfl (hA _ hS.1)) ⟨Nat.le_trans hS.1 (by omega), fun x h1 h2 => (o1 x (Nat.lt_of_lt_of_le h1 hS.1)).trans (hS.2.1 x h1 h2), hS.2.2⟩
  have hz : k < 1 := (List.getElem?_eq_some_iff.mp hx).1
  rw [show k = 0 by omega] at hx
  cases hx
  show H1[H.size]? = some (vp_cell _ _)
  rw [vp_cell_q]
  exact e1
theorem k_aldg (hexec : p.tables.exec = Jvm.exec) (hb : c.code = cc) (hK : kK G s) (hP : va_P G.1 vwCl ws H) (q0 k : Nat) {n x : Nat} {f : Nat → Option Nat} (ha : ws[q0]? = some (kGd G a n f)) {i : Int32} (hin : vp_in i n) (hi : i.toNatClampNeg = k) (hx : f k = some x) (hdg : decode cc pc = .ok (.aaload, 1))
    (kk : W p l e R s m args below meth c H locs cells slots Q (F0 m (pc + 1) ls (.ref x :: rest))) : W p l e R s m args below meth c H locs cells slots Q (F0 m pc ls (.int i :: .ref a :: rest)) := by
  have hlt : i.toNatClampNeg < n := Nat.not_le.mp fun q => hin (Or.inr q)
  have hv : va_rf (f i.toNatClampNeg) = .ref x := by rw [hi, hx]; rfl
  exact W.aald (v := .ref x) (ty := .array .int) hexec hb (hP q0 _ ha) ((hK.1.2 2 (G.2.2.2, .array .int) rfl).1 n (fun j => va_rf (f j))) rfl (fun q => by cases q) (by show ¬ (i < 0 ∨ (arrV _ _ _).slots.size ≤ _); rw [arrV_size]; exact hin) (by show (arrV _ _ _).slots[_]? = _; rw [arrV_read _ _ hlt, hv]) rfl rfl hdg kk
theorem k_astg (hexec : p.tables.exec = Jvm.exec) (hb : c.code = cc) (hK : kK G s) (hP : va_P G.1 vwCl ws H) (hD : va_D A ws) (hS : va_S A H0 H locs) (q0 qk k : Nat) {n v nv : Nat} {fv : Nat → Int32} {f : Nat → Option Nat} (ha : ws[q0]? = some (kGd G a n f)) (hv : ws[qk]? = some (kC G v nv fv)) {i : Int32} (hin : vp_in i n) (hi : i.toNatClampNeg = k) (hdg : decode cc pc = .ok (.aastore, 1))
    (kk : ∀ (H1 : Heap) (locs1 : List Loc), va_P G.1 vwCl (ws.set q0 (kGd G a n (va_up f k (some v)))) H1 → va_D A (ws.set q0 (kGd G a n (va_up f k (some v)))) → va_S A H0 H1 locs1 → W p l e R s m args below meth c H1 locs1 cells slots Q (F0 m (pc + 1) ls rest)) : W p l e R s m args below meth c H locs cells slots Q (F0 m pc ls (.ref v :: .int i :: .ref a :: rest)) := by
  subst hi
  have hlt : i.toNatClampNeg < n := Nat.not_le.mp fun q => hin (Or.inr q)
  have h0 : ¬ i < 0 := fun q => hin (Or.inl q)
  obtain ⟨kA, kC, k1, k2, k3⟩ := k_gk hK
  refine W.aast hexec hb (hP q0 _ ha) (fun q h => by cases h) (fun h => by cases h) k1 k2 rfl k3 ⟨h0, by show _ < (arrV _ _ _).slots.size; rw [arrV_size]; exact hlt⟩ (hP qk _ hv) (fun q h => by cases h) k3 (va_asg _ _) rfl rfl hdg fun H1 e z oq => ?_
  refine kk H1 _ (hP.set hD ha ?_ oq) (hD.set ha) (hS.put z oq (hD.2 q0 _ ha))
  show H1[a]? = some (vp_cell _ _)
  rw [e]
  rw [vp_cell_q, vp_cell_q, arrV_store]
  congr 2
  funext q
  by_cases hq : q = i.toNatClampNeg
  · subst hq
    simp [updV, va_up, va_rf]
  · simp [updV, va_up, hq]
end KGD
