/-! rows of int[][][], and arrays of arrays made at once -/
theorem k_nmJ {G : kG} {s : State} (hK : kK G s) : s.vm.findClass (FieldType.array (.array .int)).toString = some G.2.2.2 := (hK.1.2 2 (G.2.2.2, .array .int) rfl).2
theorem k_hk {G : kG} {s : State} (hK : kK G s) : ∃ (kA kC : Class), s.vm.classes[G.2.2.1]? = some kA ∧ kA.kind = .array G.2.2.2 (.array (.array .int)) ∧ s.vm.classes[G.2.2.2]? = some kC := by
  obtain ⟨comp, c, k, h1, h2, h3, h4, h5⟩ := arrayOverA_spec hK.2.2.2.2.2.2.2.2
  have e1 : c = G.2.2.1 := Option.some.inj (h5.symm.trans (hK.1.2 1 (G.2.2.1, .array (.array .int)) rfl).2)
  have e2 : comp = G.2.2.2 := Option.some.inj (h1.symm.trans (k_nmJ hK))
  obtain ⟨kC, hkC, -⟩ := Vm.findClass_spec h1
  rw [e1] at h3
  rw [e2] at h4 hkC
  exact ⟨k, kC, h3, h4, hkC⟩
section KHD
variable {p : Program} {l : Launch} {e : Env} {R : Room} {s : State} {m : MethodId} {args : Array Value} {below : List Frame} {meth : Method} {c : Code} {H H0 : Heap} {locs : List Loc} {cells slots : Nat} {Q : State → Prop}
variable {cc : ByteArray} {pc : Nat} {ls : Array Slot} {rest : List Value} {G : kG} {A : Nat → Prop} {a : Nat} {ws : va_W}
theorem k_ald3 (hexec : p.tables.exec = Jvm.exec) (hb : c.code = cc) (hK : kK G s) (hP : va_P G.1 vwCl ws H) (q0 k : Nat) {n x : Nat} {f : Nat → Option Nat} (ha : ws[q0]? = some (kH G a n f)) {i : Int32} (hin : vp_in i n) (hi : i.toNatClampNeg = k) (hx : f k = some x) (hdg : decode cc pc = .ok (.aaload, 1))
    (kk : W p l e R s m args below meth c H locs cells slots Q (F0 m (pc + 1) ls (.ref x :: rest))) : W p l e R s m args below meth c H locs cells slots Q (F0 m pc ls (.int i :: .ref a :: rest)) := by
  have hlt : i.toNatClampNeg < n := Nat.not_le.mp fun q => hin (Or.inr q)
  have hv : va_rf (f i.toNatClampNeg) = .ref x := by rw [hi, hx]; rfl
  exact W.aald (v := .ref x) (ty := .array (.array .int)) hexec hb (hP q0 _ ha) ((hK.1.2 1 (G.2.2.1, .array (.array .int)) rfl).1 n (fun j => va_rf (f j))) rfl (fun q => by cases q) (by show ¬ (i < 0 ∨ (arrV _ _ _).slots.size ≤ _); rw [arrV_size]; exact hin) (by show (arrV _ _ _).slots[_]? = _; rw [arrV_read _ _ hlt, hv]) rfl rfl hdg kk
theorem k_ast3 (hexec : p.tables.exec = Jvm.exec) (hb : c.code = cc) (hK : kK G s) (hP : va_P G.1 vwCl ws H) (hD : va_D A ws) (hS : va_S A H0 H locs) (q0 qk k : Nat) {n v nv : Nat} {fv : Nat → Option Nat} {f : Nat → Option Nat} (ha : ws[q0]? = some (kH G a n f)) (hv : ws[qk]? = some (kGd G v nv fv)) {i : Int32} (hin : vp_in i n) (hi : i.toNatClampNeg = k) (hdg : decode cc pc = .ok (.aastore, 1))
    (kk : ∀ (H1 : Heap) (locs1 : List Loc), va_P G.1 vwCl (ws.set q0 (kH G a n (va_up f k (some v)))) H1 → va_D A (ws.set q0 (kH G a n (va_up f k (some v)))) → va_S A H0 H1 locs1 → W p l e R s m args below meth c H1 locs1 cells slots Q (F0 m (pc + 1) ls rest)) : W p l e R s m args below meth c H locs cells slots Q (F0 m pc ls (.ref v :: .int i :: .ref a :: rest)) := by
  subst hi
  have hlt : i.toNatClampNeg < n := Nat.not_le.mp fun q => hin (Or.inr q)
  have h0 : ¬ i < 0 := fun q => hin (Or.inl q)
  obtain ⟨kA, kC, k1, k2, k3⟩ := k_hk hK
  refine W.aast hexec hb (hP q0 _ ha) (fun q h => by cases h) (fun h => by cases h) k1 k2 rfl k3 ⟨h0, by show _ < (arrV _ _ _).slots.size; rw [arrV_size]; exact hlt⟩ (hP qk _ hv) (fun q h => by cases h) k3 (va_asg _ _) rfl rfl hdg fun H1 e z oq => ?_
  refine kk H1 _ (hP.set hD ha ?_ oq) (hD.set ha) (hS.put z oq (hD.2 q0 _ ha))
  show H1[a]? = some (vp_cell _ _)
  rw [e]
  rw [vp_cell_q, vp_cell_q, arrV_store]
  congr 2
  funext q
  by_cases hq : q = i.toNatClampNeg
  · subst hq
    simp [updV, va_up, va_rf]
  · simp [updV, va_up, hq]
theorem k_mnl {n : Nat} {r : Nat → Nat} {f0 : Nat → va_E} {e : va_E} : va_pl ([] ++ (List.range n).map r) (vr_up f0 ((List.range n).map r) e) = fam n r (fun _ => e) := by
  unfold va_pl fam
  rw [List.nil_append, List.map_map]
  apply List.map_congr_left
  intro i hi
  show (r i, vr_up f0 _ e (r i)) = (r i, e)
  rw [vr_up_in (List.mem_map.mpr ⟨i, hi, rfl⟩)]
set_option maxHeartbeats 4000000 in
theorem k_mnaI (hexec : p.tables.exec = Jvm.exec) (hb : c.code = cc) {own : String} {index : Nat} (hown : s.vm.findClass own = some m.cls) (hclink : (Cond.classLink own index "[[I").before args s = true) (harr : (Cond.arrayClass .int).before args s = true) (hK : kK G s) (hP : va_P G.1 vwCl ws H) (hD : va_D A ws) (hS : va_S A H0 H locs) (hA : ∀ q, H0.size ≤ q → A q)
    (hcells : cells + 13 ≤ R.cells) (hslots : slots + 132 ≤ R.slots) (hdg : decode cc pc = .ok (.multianewarray index 2, 4))
    (kk : ∀ (q : Nat) (r : Nat → Nat) (H1 : Heap), va_P G.1 vwCl ((ws ++ [kGd G q 12 (oA 12 r)]) ++ fam 12 r (fun _ => cI G 10 (fun _ => 0))) H1 → va_D A ((ws ++ [kGd G q 12 (oA 12 r)]) ++ fam 12 r (fun _ => cI G 10 (fun _ => 0))) → va_S A H0 H1 locs →
      W p l e R s m args below meth c H1 locs (cells + 13) (slots + 132) Q (F0 m (pc + 4) ls (.ref q :: rest))) : W p l e R s m args below meth c H locs cells slots Q (F0 m pc ls (.int (nI 10) :: .int (nI 12) :: rest)) := by
  have e0 : ("[" ++ (FieldType.array .int).toString) = "[[I" := by decide +kernel
  have e1 : (FieldType.array .int).toString = "[I" := by decide +kernel
  have hcl2 : (Cond.classLink own index ("[" ++ (FieldType.array .int).toString)).before args s = true := by rw [e0]; exact hclink
  have hcy : s.vm.findClass (FieldType.array .int).toString = some G.2.1 := by rw [e1]; exact k_nmI hK
  have e9 : ws ++ va_pl [] (fun _ => cI G 0 (fun _ => 0)) = ws := List.append_nil ws
  refine va_mna (X := ws) (L := []) (f := fun _ => cI G 0 (fun _ => 0)) (N' := 12) (K' := 10) (z := (10, .inl (fun _ => 0))) hexec hb hown hcl2 hK.2.2.2.2.2.2.2.1 harr hcy hK.1 (by rw [e9]; exact hP) (by rw [e9]; exact hD) hS hA (by decide) (by decide) (by decide) (by decide) (by decide) (by decide) (by decide) rfl rfl (by omega) (by omega) (fun c9 => ?_) hdg (fun q r cA H1 hr hrL hK1 hP1 hD1 hS1 => ?_)
  · show ({ cls := c9, slots := Array.replicate 10 (.int 0), vm := .none } : Cell) = _
    rw [arrV_new, vp_cell_i]
  · have hc : cA = G.2.2.2 := Option.some.inj (((hK1.2 3 (cA, .array .int) rfl).2).symm.trans (hK.1.2 2 (G.2.2.2, .array .int) rfl).2)
    subst hc
    rw [k_mnl] at hP1 hD1
    exact kk q r H1 hP1 hD1 hS1
set_option maxHeartbeats 4000000 in
theorem k_mnaR (hexec : p.tables.exec = Jvm.exec) (hb : c.code = cc) {own : String} {index : Nat} (hown : s.vm.findClass own = some m.cls) (hclink : (Cond.classLink own index "[[[I").before args s = true) (harr : (Cond.arrayClass (.array .int)).before args s = true) (hK : kK G s) (hP : va_P G.1 vwCl ws H) (hD : va_D A ws) (hS : va_S A H0 H locs) (hA : ∀ q, H0.size ≤ q → A q)
    (hcells : cells + 3 ≤ R.cells) (hslots : slots + 2 ≤ R.slots) (hdg : decode cc pc = .ok (.multianewarray index 2, 4))
    (kk : ∀ (q x y : Nat) (H1 : Heap), va_P G.1 vwCl ((ws ++ [kH G q 2 (oR x y)]) ++ [kGd G x 0 (fun _ => none), kGd G y 0 (fun _ => none)]) H1 → va_D A ((ws ++ [kH G q 2 (oR x y)]) ++ [kGd G x 0 (fun _ => none), kGd G y 0 (fun _ => none)]) → va_S A H0 H1 locs →
      W p l e R s m args below meth c H1 locs (cells + 3) (slots + 2) Q (F0 m (pc + 4) ls (.ref q :: rest))) : W p l e R s m args below meth c H locs cells slots Q (F0 m pc ls (.int (nI 0) :: .int (nI 2) :: rest)) := by
  have e0 : ("[" ++ (FieldType.array (.array .int)).toString) = "[[[I" := by decide +kernel
  have hcl2 : (Cond.classLink own index ("[" ++ (FieldType.array (.array .int)).toString)).before args s = true := by rw [e0]; exact hclink
  have e9 : ws ++ va_pl [] (fun _ => cI G 0 (fun _ => 0)) = ws := List.append_nil ws
  refine va_mna (X := ws) (L := []) (f := fun _ => cI G 0 (fun _ => 0)) (N' := 2) (K' := 0) (z := (0, .inr (.inr (.inr (.inr (fun _ => none)))))) hexec hb hown hcl2 hK.2.2.2.2.2.2.2.2 harr (k_nmJ hK) hK.1 (by rw [e9]; exact hP) (by rw [e9]; exact hD) hS hA (by decide) (by decide) (by decide) (by decide) (by decide) (by decide) (by decide) rfl rfl (by omega) (by omega) (fun c9 => ?_) hdg (fun q r cA H1 hr hrL hK1 hP1 hD1 hS1 => ?_)
  · show ({ cls := c9, slots := Array.replicate 0 .null, vm := .none } : Cell) = _
    rw [arrV_new, vp_cell_q]; rfl
  · have hc : cA = G.2.2.1 := Option.some.inj (((hK1.2 3 (cA, .array (.array .int)) rfl).2).symm.trans (hK.1.2 1 (G.2.2.1, .array (.array .int)) rfl).2)
    subst hc
    have e3 : (fun i => if i < 2 then some (r i) else none) = oR (r 0) (r 1) := by
      funext i
      unfold oR
      match i with
      | 0 => rfl
      | 1 => rfl
      | i + 2 => rw [if_neg (by omega), if_neg (by omega), if_neg (by omega)]
    rw [k_mnl, e3] at hP1 hD1
    exact kk q (r 0) (r 1) H1 hP1 hD1 hS1
end KHD
theorem k_layp {h t c F : va_W} : (((h ++ t) ++ c) ++ F).Perm ((h ++ c) ++ (t ++ F)) := by
  rw [List.append_assoc (h ++ t), List.append_assoc h, List.append_assoc h]
  exact List.Perm.append_left h (List.perm_append_comm_assoc _ _ _)
theorem k_layq {h t c F : va_W} : (((h ++ t) ++ c) ++ F).Perm ((h ++ (c ++ F)) ++ t) := by
  rw [List.append_assoc (h ++ t), List.append_assoc h, List.append_assoc h]
  exact List.Perm.append_left h List.perm_append_comm
theorem sT_ini {G : kG} {ra pa qa qb : Nat → Nat} {RA RB : Fn2} : fam 12 ra (fun _ => cI G 10 (fun _ => 0)) ++ fam 12 pa (fun _ => cI G 10 (fun _ => 0)) = sT G ra pa qa qb (fun _ _ => 0) (fun _ _ => 0) 0 RA 0 RB := by
  unfold sT
  rw [fam_0, fam_0, List.append_nil, List.append_nil]
