theorem nI_m1 {n : Nat} (h : n < 2 ^ 31) : ¬ nI n = (-1) := fun e => nI_pos h (by rw [e]; decide)
set_option maxHeartbeats 4000000 in
set_option maxRecDepth 100000 in
theorem c_offPlan (l : Launch) (G : kG) (a0 : Nat) (a1 : Nat) (a2 : Nat) (a3 : Nat) (a4 : Nat) (sd : Nat) (pf : Nat → Nat) (kf : Nat → Nat) (cf : Nat → Nat) (nf : Nat → Nat) (sp : Nat) (td : Nat) (md : Nat) (ot : Nat) (hw : wOk (pf, kf, cf, nf, sp, td, md, ot)) : kM l G yX2_offPlan wsX2_offPlan ({ frames := 1, cells := 0, slots := 0, locals := 21 } : Room) [.ref a0] [kO a0 2 [.int (nI sd), .ref a1, .ref a2, .ref a3, .ref a4, .int (nI sp), .int (nI td), .int (nI md), .int (nI ot)], kC G a1 60 (nR pf), kC G a2 60 (nR kf), kC G a3 20 (nR cf), kC G a4 20 (nR nf)] (kQi G [kO a0 2 [.int (nI sd), .ref a1, .ref a2, .ref a3, .ref a4, .int (nI sp), .int (nI td), .int (nI md), .int (nI ot)], kC G a1 60 (nR pf), kC G a2 60 (nR kf), kC G a3 20 (nR cf), kC G a4 20 (nR nf)] (fun (r : Int32) (_ : Unit) => r = nI (offN kf pf md)) (fun (_ : Unit) => [kO a0 2 [.int (nI sd), .ref a1, .ref a2, .ref a3, .ref a4, .int (nI sp), .int (nI td), .int (nI md), .int (nI ot)], kC G a1 60 (nR pf), kC G a2 60 (nR kf), kC G a3 20 (nR cf), kC G a4 20 (nR nf)])) := by
  refine k_ofW (cc := cX2_offPlan) (maxL := 3) (rt := (some .int)) (by decide) rfl (Nat.le_of_ble_eq_true rfl) ?_
  intro p e s m args below meth c A ls Qs H locs hQ hAe hx hb hr hml hts hown hlocks hin hK hZ hP hD hS hA hl
  have hown : s.vm.findClass RX2 = some m.cls := hown
  have hl : lv_has ls 3 [(0, .ref a0)] := hl
  have ws1 : 1 ≤ sp := hw.1
  have ws2 : sp ≤ 6 := hw.2.1
  have wt : td ≤ 20 := hw.2.2.1
  have wm : md ≤ 60 := hw.2.2.2.1
  have wpb : ∀ i, i < 60 → pf i < 8 := hw.2.2.2.2.1
  have wkb : ∀ i, i < 60 → kf i < 8 := hw.2.2.2.2.2.1
  have wcb : ∀ i, i < td → cf i < 8 := hw.2.2.2.2.2.2.1
  have wnb : ∀ i, i < td → 1 ≤ nf i ∧ nf i ≤ 60 := hw.2.2.2.2.2.2.2
  have hq_0 : ∀ w ∈ wsX20, w ∈ wsX2_offPlan := by decide +kernel
  have hq_1 : (Cond.fieldLink RX2 31 "KnotRugs$Weaver" "made" "I").before args s = true := hts _ (by decide +kernel)
  have hq_2 : (Cond.fieldLink RX2 15 "KnotRugs$Weaver" "knotted" "[I").before args s = true := hts _ (by decide +kernel)
  have hq_3 : va_Nw (.methodLinkNest RX2 44 yX3_at RX3) s := hK.2.1 (RX2, 44, yX3_at) (List.mem_of_getElem? (i := 8) rfl)
  have hq_4 : (Cond.initialized RX3).before args s = true := hts _ (by decide +kernel)
  have hq_5 : (Cond.static yX3_at).before args s = true := hts _ (by decide +kernel)
  have hq_6 : (Cond.fieldLink RX2 9 "KnotRugs$Weaver" "planned" "[I").before args s = true := hts _ (by decide +kernel)
  refine lv_iconst (v := nI 0) hx hb dX2_offPlan_0 (by decide) ?_
  refine lv_istore_n (lv' := [(1, .int (nI 0)), (0, .ref a0)]) hx hb dX2_offPlan_1 rfl hl (by decide) rfl (fun ls hl => ?_)
  refine lv_iconst (v := nI 0) hx hb dX2_offPlan_2 (by decide) ?_
  refine lv_istore_n (lv' := [(2, .int (nI 0)), (1, .int (nI 0)), (0, .ref a0)]) hx hb dX2_offPlan_3 rfl hl (by decide) rfl (fun ls hl => ?_)
  have loop_4 : ∀ (fu_4 : Nat) (i : Nat) (z : Nat), i ≤ md → z = offN kf pf i → md < i + fu_4 → ∀ (H : Heap) (locs : List Loc) (ls : Array Slot), va_P G.1 vwCl [kO a0 2 [.int (nI sd), .ref a1, .ref a2, .ref a3, .ref a4, .int (nI sp), .int (nI td), .int (nI md), .int (nI ot)], kC G a1 60 (nR pf), kC G a2 60 (nR kf), kC G a3 20 (nR cf), kC G a4 20 (nR nf)] H → va_D A [kO a0 2 [.int (nI sd), .ref a1, .ref a2, .ref a3, .ref a4, .int (nI sp), .int (nI td), .int (nI md), .int (nI ot)], kC G a1 60 (nR pf), kC G a2 60 (nR kf), kC G a3 20 (nR cf), kC G a4 20 (nR nf)] → va_S A s.heap H locs → lv_has ls 3 [(0, .ref a0), (1, .int (nI z)), (2, .int (nI i))] → W p l e ({ frames := 1, cells := 0, slots := 0, locals := 21 } : Room) s m args below meth c H locs 0 0 Qs (F0 m 4 ls []) := by
    intro fu_4
    induction fu_4 with
    | zero =>
      intro i z hi hz hf
      exact absurd hf (by omega)
    | succ fu_4 ih_4 =>
      intro i z hi hz hf H locs ls hP hD hS hl
      refine lv_iload_n hx hb dX2_offPlan_4 rfl (lv_at hl 2 rfl) ?_
      refine lv_aload_n hx hb dX2_offPlan_5 rfl (lv_at hl 0 rfl) ?_
      refine va_get (D := G.1) (ci := 2) (v := .int (nI md)) (C := RX2) (T := TX2) (N := 9) hx hb hts hq_0 hown hK.1 hP 0 rfl rfl 7 (by decide) hq_1 (fun _ h9 => h9) rfl dX2_offPlan_6 ?_
      refine lv_icmp_ge (tgt := 40) hx hb dX2_offPlan_9 (by decide) (fun c_9 => ?_) (fun c_9 => ?_)
      · have c_9 : md ≤ i := (nI_leI (a := md) (b := i) (by omega) (by omega)).mp c_9
        have hi9 : i = md := by omega
        refine lv_iload_n hx hb dX2_offPlan_40 rfl (lv_at hl 1 rfl) ?_
        exact k_iret (ws := [kO a0 2 [.int (nI sd), .ref a1, .ref a2, .ref a3, .ref a4, .int (nI sp), .int (nI td), .int (nI md), .int (nI ot)], kC G a1 60 (nR pf), kC G a2 60 (nR kf), kC G a3 20 (nR cf), kC G a4 20 (nR nf)]) (()) hx hb hr hlocks hP hD hS hAe hQ (Nat.le_of_ble_eq_true rfl) (Nat.le_of_ble_eq_true rfl) dX2_offPlan_41 (rfl) (by rw [hz, hi9])
      · have c_9 : ¬ (md ≤ i) := fun h9 => c_9 ((nI_leI (a := md) (b := i) (by omega) (by omega)).mpr h9)
        refine lv_aload_n hx hb dX2_offPlan_12 rfl (lv_at hl 0 rfl) ?_
        refine va_get (D := G.1) (ci := 2) (v := .ref a2) (C := RX2) (T := TX2) (N := 9) hx hb hts hq_0 hown hK.1 hP 0 rfl rfl 2 (by decide) hq_2 (fun _ h9 => h9) rfl dX2_offPlan_13 ?_
        refine lv_iload_n hx hb dX2_offPlan_16 rfl (lv_at hl 2 rfl) ?_
        refine k_calli (fun _ => [kO a0 2 [.int (nI sd), .ref a1, .ref a2, .ref a3, .ref a4, .int (nI sp), .int (nI td), .int (nI md), .int (nI ot)], kC G a1 60 (nR pf), kC G a2 60 (nR kf), kC G a3 20 (nR cf), kC G a4 20 (nR nf)]) [kO a0 2 [.int (nI sd), .ref a1, .ref a2, .ref a3, .ref a4, .int (nI sp), .int (nI td), .int (nI md), .int (nI ot)], kC G a1 60 (nR pf), kC G a3 20 (nR cf), kC G a4 20 (nR nf)] (k_runSN (As := [.ref a2, .int (nI i)]) (rest := []) (wc := [kC G a2 60 (nR kf)]) ⟨hx, hb, hml, hown, hts⟩ (c_at l G a2 60 kf i (by omega) (by decide)) ⟨va_cnB (host := RX3) (index := 44) (own := RX2) 2 hts gX2_offPlan_X3_at_n44 rfl rfl rfl hq_3 hq_4 (by decide +kernel) ⟨Nat.le_of_ble_eq_true rfl, Nat.le_of_ble_eq_true rfl⟩, hq_5, trivial⟩ hK hZ hP hD hS hA [2] rfl rfl rfl hl.1 rfl (Nat.le_of_ble_eq_true rfl) dX2_offPlan_17 ⟨Nat.le_of_ble_eq_true rfl, Nat.le_of_ble_eq_true rfl⟩) hP hD hS hA [2] [0, 1, 3, 4] [0, 1, 4, 2, 3] rfl rfl rfl (by decide) (fun _ => rfl) rfl (fun r_17 u_17 H locs hp_17 hP hD hS => ?_)
        have hp_17 : r_17 = nI (kf i) := hp_17
        subst hp_17
        have hki : kf i < 8 := wkb i (by omega)
        have hpi : pf i < 8 := wpb i (by omega)
        refine lv_aload_n hx hb dX2_offPlan_20 rfl (lv_at hl 0 rfl) ?_
        refine va_get (D := G.1) (ci := 2) (v := .ref a1) (C := RX2) (T := TX2) (N := 9) hx hb hts hq_0 hown hK.1 hP 0 rfl rfl 1 (by decide) hq_6 (fun _ h9 => h9) rfl dX2_offPlan_21 ?_
        refine lv_iload_n hx hb dX2_offPlan_24 rfl (lv_at hl 2 rfl) ?_
        refine k_calli (fun _ => [kO a0 2 [.int (nI sd), .ref a1, .ref a2, .ref a3, .ref a4, .int (nI sp), .int (nI td), .int (nI md), .int (nI ot)], kC G a1 60 (nR pf), kC G a2 60 (nR kf), kC G a3 20 (nR cf), kC G a4 20 (nR nf)]) [kO a0 2 [.int (nI sd), .ref a1, .ref a2, .ref a3, .ref a4, .int (nI sp), .int (nI td), .int (nI md), .int (nI ot)], kC G a2 60 (nR kf), kC G a3 20 (nR cf), kC G a4 20 (nR nf)] (k_runSN (As := [.ref a1, .int (nI i)]) (rest := [.int (nI (kf i))]) (wc := [kC G a1 60 (nR pf)]) ⟨hx, hb, hml, hown, hts⟩ (c_at l G a1 60 pf i (by omega) (by decide)) ⟨va_cnB (host := RX3) (index := 44) (own := RX2) 2 hts gX2_offPlan_X3_at_n44 rfl rfl rfl hq_3 hq_4 (by decide +kernel) ⟨Nat.le_of_ble_eq_true rfl, Nat.le_of_ble_eq_true rfl⟩, hq_5, trivial⟩ hK hZ hP hD hS hA [1] rfl rfl rfl hl.1 rfl (Nat.le_of_ble_eq_true rfl) dX2_offPlan_25 ⟨Nat.le_of_ble_eq_true rfl, Nat.le_of_ble_eq_true rfl⟩) hP hD hS hA [1] [0, 2, 3, 4] [0, 4, 1, 2, 3] rfl rfl rfl (by decide) (fun _ => rfl) rfl (fun r_25 u_25 H locs hp_25 hP hD hS => ?_)
        have hp_25 : r_25 = nI (pf i) := hp_25
        subst hp_25
        refine lv_icmp_eq (tgt := 34) hx hb dX2_offPlan_28 (by decide) (fun c_28 => ?_) (fun c_28 => ?_)
        · have c_28 : (kf i) = (pf i) := (nI_eq (a := (kf i)) (b := (pf i)) (by omega) (by omega)).mp c_28
          refine lv_iinc (v := nI (i + 1)) (lv' := [(2, .int (nI (i + 1))), (0, .ref a0), (1, .int (nI z))]) hx hb dX2_offPlan_34 hl (k := 2) rfl (nI_add i 1) (by decide) rfl (fun ls hl => ?_)
          refine lv_goto (tgt := 4) hx hb dX2_offPlan_37 (by decide) ?_
          exact ih_4 (i + 1) z (by omega) (by rw [hz]; first | exact (offN_s c_28).symm | exact (offN_d c_28).symm) (by omega) _ _ _ hP hD hS (lv_sub hl [1, 2, 0] rfl)
        · have c_28 : ¬ ((kf i) = (pf i)) := fun h9 => c_28 ((nI_eq (a := (kf i)) (b := (pf i)) (by omega) (by omega)).mpr h9)
          refine lv_iinc (v := nI (z + 1)) (lv' := [(1, .int (nI (z + 1))), (0, .ref a0), (2, .int (nI i))]) hx hb dX2_offPlan_31 hl (k := 1) rfl (nI_add z 1) (by decide) rfl (fun ls hl => ?_)
          refine lv_iinc (v := nI (i + 1)) (lv' := [(2, .int (nI (i + 1))), (1, .int (nI (z + 1))), (0, .ref a0)]) hx hb dX2_offPlan_34 hl (k := 2) rfl (nI_add i 1) (by decide) rfl (fun ls hl => ?_)
          refine lv_goto (tgt := 4) hx hb dX2_offPlan_37 (by decide) ?_
          exact ih_4 (i + 1) (z + 1) (by omega) (by rw [hz]; first | exact (offN_s c_28).symm | exact (offN_d c_28).symm) (by omega) _ _ _ hP hD hS (lv_sub hl [2, 1, 0] rfl)
  exact loop_4 (md + 1) 0 0 (by omega) rfl (by omega) H locs ls hP hD hS (lv_sub hl [2, 1, 0] rfl)
set_option maxHeartbeats 4000000 in
set_option maxRecDepth 100000 in
theorem c_firstOffPlan (l : Launch) (G : kG) (a0 : Nat) (a1 : Nat) (a2 : Nat) (a3 : Nat) (a4 : Nat) (sd : Nat) (pf : Nat → Nat) (kf : Nat → Nat) (cf : Nat → Nat) (nf : Nat → Nat) (sp : Nat) (td : Nat) (md : Nat) (ot : Nat) (hw : wOk (pf, kf, cf, nf, sp, td, md, ot)) : kM l G yX2_firstOffPlan wsX2_firstOffPlan ({ frames := 1, cells := 0, slots := 0, locals := 21 } : Room) [.ref a0] [kO a0 2 [.int (nI sd), .ref a1, .ref a2, .ref a3, .ref a4, .int (nI sp), .int (nI td), .int (nI md), .int (nI ot)], kC G a1 60 (nR pf), kC G a2 60 (nR kf), kC G a3 20 (nR cf), kC G a4 20 (nR nf)] (kQi G [kO a0 2 [.int (nI sd), .ref a1, .ref a2, .ref a3, .ref a4, .int (nI sp), .int (nI td), .int (nI md), .int (nI ot)], kC G a1 60 (nR pf), kC G a2 60 (nR kf), kC G a3 20 (nR cf), kC G a4 20 (nR nf)] (fun (r : Int32) (_ : Unit) => r = nI (foN kf pf md)) (fun (_ : Unit) => [kO a0 2 [.int (nI sd), .ref a1, .ref a2, .ref a3, .ref a4, .int (nI sp), .int (nI td), .int (nI md), .int (nI ot)], kC G a1 60 (nR pf), kC G a2 60 (nR kf), kC G a3 20 (nR cf), kC G a4 20 (nR nf)])) := by
  refine k_ofW (cc := cX2_firstOffPlan) (maxL := 2) (rt := (some .int)) (by decide) rfl (Nat.le_of_ble_eq_true rfl) ?_
  intro p e s m args below meth c A ls Qs H locs hQ hAe hx hb hr hml hts hown hlocks hin hK hZ hP hD hS hA hl
  have hown : s.vm.findClass RX2 = some m.cls := hown
  have hl : lv_has ls 2 [(0, .ref a0)] := hl
  have ws1 : 1 ≤ sp := hw.1
  have ws2 : sp ≤ 6 := hw.2.1
  have wt : td ≤ 20 := hw.2.2.1
  have wm : md ≤ 60 := hw.2.2.2.1
  have wpb : ∀ i, i < 60 → pf i < 8 := hw.2.2.2.2.1
  have wkb : ∀ i, i < 60 → kf i < 8 := hw.2.2.2.2.2.1
  have wcb : ∀ i, i < td → cf i < 8 := hw.2.2.2.2.2.2.1
  have wnb : ∀ i, i < td → 1 ≤ nf i ∧ nf i ≤ 60 := hw.2.2.2.2.2.2.2
  have hq_0 : ∀ w ∈ wsX20, w ∈ wsX2_firstOffPlan := by decide +kernel
  have hq_1 : (Cond.fieldLink RX2 31 "KnotRugs$Weaver" "made" "I").before args s = true := hts _ (by decide +kernel)
  have hq_2 : (Cond.fieldLink RX2 15 "KnotRugs$Weaver" "knotted" "[I").before args s = true := hts _ (by decide +kernel)
  have hq_3 : va_Nw (.methodLinkNest RX2 44 yX3_at RX3) s := hK.2.1 (RX2, 44, yX3_at) (List.mem_of_getElem? (i := 8) rfl)
  have hq_4 : (Cond.initialized RX3).before args s = true := hts _ (by decide +kernel)
  have hq_5 : (Cond.static yX3_at).before args s = true := hts _ (by decide +kernel)
  have hq_6 : (Cond.fieldLink RX2 9 "KnotRugs$Weaver" "planned" "[I").before args s = true := hts _ (by decide +kernel)
  refine lv_iconst (v := nI 0) hx hb dX2_firstOffPlan_0 (by decide) ?_
  refine lv_istore_n (lv' := [(1, .int (nI 0)), (0, .ref a0)]) hx hb dX2_firstOffPlan_1 rfl hl (by decide) rfl (fun ls hl => ?_)
  have loop_2 : ∀ (fu_2 : Nat) (i : Nat), i ≤ md → foF kf pf (md - i) i = foN kf pf md → md < i + fu_2 → ∀ (H : Heap) (locs : List Loc) (ls : Array Slot), va_P G.1 vwCl [kO a0 2 [.int (nI sd), .ref a1, .ref a2, .ref a3, .ref a4, .int (nI sp), .int (nI td), .int (nI md), .int (nI ot)], kC G a1 60 (nR pf), kC G a2 60 (nR kf), kC G a3 20 (nR cf), kC G a4 20 (nR nf)] H → va_D A [kO a0 2 [.int (nI sd), .ref a1, .ref a2, .ref a3, .ref a4, .int (nI sp), .int (nI td), .int (nI md), .int (nI ot)], kC G a1 60 (nR pf), kC G a2 60 (nR kf), kC G a3 20 (nR cf), kC G a4 20 (nR nf)] → va_S A s.heap H locs → lv_has ls 2 [(0, .ref a0), (1, .int (nI i))] → W p l e ({ frames := 1, cells := 0, slots := 0, locals := 21 } : Room) s m args below meth c H locs 0 0 Qs (F0 m 2 ls []) := by
    intro fu_2
    induction fu_2 with
    | zero =>
      intro i hi hv hf
      exact absurd hf (by omega)
    | succ fu_2 ih_2 =>
      intro i hi hv hf H locs ls hP hD hS hl
      refine lv_iload_n hx hb dX2_firstOffPlan_2 rfl (lv_at hl 1 rfl) ?_
      refine lv_aload_n hx hb dX2_firstOffPlan_3 rfl (lv_at hl 0 rfl) ?_
      refine va_get (D := G.1) (ci := 2) (v := .int (nI md)) (C := RX2) (T := TX2) (N := 9) hx hb hts hq_0 hown hK.1 hP 0 rfl rfl 7 (by decide) hq_1 (fun _ h9 => h9) rfl dX2_firstOffPlan_4 ?_
      refine lv_icmp_ge (tgt := 35) hx hb dX2_firstOffPlan_7 (by decide) (fun c_7 => ?_) (fun c_7 => ?_)
      · have c_7 : md ≤ i := (nI_leI (a := md) (b := i) (by omega) (by omega)).mp c_7
        have he : i = foN kf pf md := fo_e (by omega) hv
        refine lv_iload_n hx hb dX2_firstOffPlan_35 rfl (lv_at hl 1 rfl) ?_
        exact k_iret (ws := [kO a0 2 [.int (nI sd), .ref a1, .ref a2, .ref a3, .ref a4, .int (nI sp), .int (nI td), .int (nI md), .int (nI ot)], kC G a1 60 (nR pf), kC G a2 60 (nR kf), kC G a3 20 (nR cf), kC G a4 20 (nR nf)]) (()) hx hb hr hlocks hP hD hS hAe hQ (Nat.le_of_ble_eq_true rfl) (Nat.le_of_ble_eq_true rfl) dX2_firstOffPlan_36 (rfl) (by rw [he])
      · have c_7 : ¬ (md ≤ i) := fun h9 => c_7 ((nI_leI (a := md) (b := i) (by omega) (by omega)).mpr h9)
        refine lv_aload_n hx hb dX2_firstOffPlan_10 rfl (lv_at hl 0 rfl) ?_
        refine va_get (D := G.1) (ci := 2) (v := .ref a2) (C := RX2) (T := TX2) (N := 9) hx hb hts hq_0 hown hK.1 hP 0 rfl rfl 2 (by decide) hq_2 (fun _ h9 => h9) rfl dX2_firstOffPlan_11 ?_
        refine lv_iload_n hx hb dX2_firstOffPlan_14 rfl (lv_at hl 1 rfl) ?_
        refine k_calli (fun _ => [kO a0 2 [.int (nI sd), .ref a1, .ref a2, .ref a3, .ref a4, .int (nI sp), .int (nI td), .int (nI md), .int (nI ot)], kC G a1 60 (nR pf), kC G a2 60 (nR kf), kC G a3 20 (nR cf), kC G a4 20 (nR nf)]) [kO a0 2 [.int (nI sd), .ref a1, .ref a2, .ref a3, .ref a4, .int (nI sp), .int (nI td), .int (nI md), .int (nI ot)], kC G a1 60 (nR pf), kC G a3 20 (nR cf), kC G a4 20 (nR nf)] (k_runSN (As := [.ref a2, .int (nI i)]) (rest := []) (wc := [kC G a2 60 (nR kf)]) ⟨hx, hb, hml, hown, hts⟩ (c_at l G a2 60 kf i (by omega) (by decide)) ⟨va_cnB (host := RX3) (index := 44) (own := RX2) 2 hts gX2_firstOffPlan_X3_at_n44 rfl rfl rfl hq_3 hq_4 (by decide +kernel) ⟨Nat.le_of_ble_eq_true rfl, Nat.le_of_ble_eq_true rfl⟩, hq_5, trivial⟩ hK hZ hP hD hS hA [2] rfl rfl rfl hl.1 rfl (Nat.le_of_ble_eq_true rfl) dX2_firstOffPlan_15 ⟨Nat.le_of_ble_eq_true rfl, Nat.le_of_ble_eq_true rfl⟩) hP hD hS hA [2] [0, 1, 3, 4] [0, 1, 4, 2, 3] rfl rfl rfl (by decide) (fun _ => rfl) rfl (fun r_15 u_15 H locs hp_15 hP hD hS => ?_)
        have hp_15 : r_15 = nI (kf i) := hp_15
        subst hp_15
        have hki : kf i < 8 := wkb i (by omega)
        have hpi : pf i < 8 := wpb i (by omega)
        refine lv_aload_n hx hb dX2_firstOffPlan_18 rfl (lv_at hl 0 rfl) ?_
        refine va_get (D := G.1) (ci := 2) (v := .ref a1) (C := RX2) (T := TX2) (N := 9) hx hb hts hq_0 hown hK.1 hP 0 rfl rfl 1 (by decide) hq_6 (fun _ h9 => h9) rfl dX2_firstOffPlan_19 ?_
        refine lv_iload_n hx hb dX2_firstOffPlan_22 rfl (lv_at hl 1 rfl) ?_
        refine k_calli (fun _ => [kO a0 2 [.int (nI sd), .ref a1, .ref a2, .ref a3, .ref a4, .int (nI sp), .int (nI td), .int (nI md), .int (nI ot)], kC G a1 60 (nR pf), kC G a2 60 (nR kf), kC G a3 20 (nR cf), kC G a4 20 (nR nf)]) [kO a0 2 [.int (nI sd), .ref a1, .ref a2, .ref a3, .ref a4, .int (nI sp), .int (nI td), .int (nI md), .int (nI ot)], kC G a2 60 (nR kf), kC G a3 20 (nR cf), kC G a4 20 (nR nf)] (k_runSN (As := [.ref a1, .int (nI i)]) (rest := [.int (nI (kf i))]) (wc := [kC G a1 60 (nR pf)]) ⟨hx, hb, hml, hown, hts⟩ (c_at l G a1 60 pf i (by omega) (by decide)) ⟨va_cnB (host := RX3) (index := 44) (own := RX2) 2 hts gX2_firstOffPlan_X3_at_n44 rfl rfl rfl hq_3 hq_4 (by decide +kernel) ⟨Nat.le_of_ble_eq_true rfl, Nat.le_of_ble_eq_true rfl⟩, hq_5, trivial⟩ hK hZ hP hD hS hA [1] rfl rfl rfl hl.1 rfl (Nat.le_of_ble_eq_true rfl) dX2_firstOffPlan_23 ⟨Nat.le_of_ble_eq_true rfl, Nat.le_of_ble_eq_true rfl⟩) hP hD hS hA [1] [0, 2, 3, 4] [0, 4, 1, 2, 3] rfl rfl rfl (by decide) (fun _ => rfl) rfl (fun r_23 u_23 H locs hp_23 hP hD hS => ?_)
        have hp_23 : r_23 = nI (pf i) := hp_23
        subst hp_23
        refine lv_icmp_ne (tgt := 35) hx hb dX2_firstOffPlan_26 (by decide) (fun c_26 => ?_) (fun c_26 => ?_)
        · have c_26 : ¬ ((kf i) = (pf i)) := fun h9 => c_26 ((nI_eq (a := (kf i)) (b := (pf i)) (by omega) (by omega)).mpr h9)
          have he : i = foN kf pf md := fo_d (by omega) hv c_26
          refine lv_iload_n hx hb dX2_firstOffPlan_35 rfl (lv_at hl 1 rfl) ?_
          exact k_iret (ws := [kO a0 2 [.int (nI sd), .ref a1, .ref a2, .ref a3, .ref a4, .int (nI sp), .int (nI td), .int (nI md), .int (nI ot)], kC G a1 60 (nR pf), kC G a2 60 (nR kf), kC G a3 20 (nR cf), kC G a4 20 (nR nf)]) (()) hx hb hr hlocks hP hD hS hAe hQ (Nat.le_of_ble_eq_true rfl) (Nat.le_of_ble_eq_true rfl) dX2_firstOffPlan_36 (rfl) (by rw [he])
        · have c_26 : (kf i) = (pf i) := (nI_eq (a := (kf i)) (b := (pf i)) (by omega) (by omega)).mp c_26
          refine lv_iinc (v := nI (i + 1)) (lv' := [(1, .int (nI (i + 1))), (0, .ref a0)]) hx hb dX2_firstOffPlan_29 hl (k := 1) rfl (nI_add i 1) (by decide) rfl (fun ls hl => ?_)
          refine lv_goto (tgt := 2) hx hb dX2_firstOffPlan_32 (by decide) ?_
          exact ih_2 (i + 1) (by omega) (fo_s (by omega) hv c_26) (by omega) _ _ _ hP hD hS (lv_sub hl [1, 0] rfl)
  exact loop_2 (md + 1) 0 (by omega) rfl (by omega) H locs ls hP hD hS (lv_sub hl [1, 0] rfl)
set_option maxHeartbeats 4000000 in
set_option maxRecDepth 100000 in
theorem c_alikeAhead (l : Launch) (G : kG) (a0 : Nat) (a1 : Nat) (a2 : Nat) (a3 : Nat) (a4 : Nat) (sd : Nat) (pf : Nat → Nat) (kf : Nat → Nat) (cf : Nat → Nat) (nf : Nat → Nat) (sp : Nat) (td : Nat) (md : Nat) (ot : Nat) (hw : wOk (pf, kf, cf, nf, sp, td, md, ot)) (hm : md < 60) : kM l G yX2_alikeAhead wsX2_alikeAhead ({ frames := 1, cells := 0, slots := 0, locals := 21 } : Room) [.ref a0] [kO a0 2 [.int (nI sd), .ref a1, .ref a2, .ref a3, .ref a4, .int (nI sp), .int (nI td), .int (nI md), .int (nI ot)], kC G a1 60 (nR pf), kC G a2 60 (nR kf), kC G a3 20 (nR cf), kC G a4 20 (nR nf)] (kQi G [kO a0 2 [.int (nI sd), .ref a1, .ref a2, .ref a3, .ref a4, .int (nI sp), .int (nI td), .int (nI md), .int (nI ot)], kC G a1 60 (nR pf), kC G a2 60 (nR kf), kC G a3 20 (nR cf), kC G a4 20 (nR nf)] (fun (r : Int32) (_ : Unit) => r = nI (alEnd pf md - md)) (fun (_ : Unit) => [kO a0 2 [.int (nI sd), .ref a1, .ref a2, .ref a3, .ref a4, .int (nI sp), .int (nI td), .int (nI md), .int (nI ot)], kC G a1 60 (nR pf), kC G a2 60 (nR kf), kC G a3 20 (nR cf), kC G a4 20 (nR nf)])) := by
  refine k_ofW (cc := cX2_alikeAhead) (maxL := 2) (rt := (some .int)) (by decide) rfl (Nat.le_of_ble_eq_true rfl) ?_
  intro p e s m args below meth c A ls Qs H locs hQ hAe hx hb hr hml hts hown hlocks hin hK hZ hP hD hS hA hl
  have hown : s.vm.findClass RX2 = some m.cls := hown
  have hl : lv_has ls 2 [(0, .ref a0)] := hl
  have ws1 : 1 ≤ sp := hw.1
  have ws2 : sp ≤ 6 := hw.2.1
  have wt : td ≤ 20 := hw.2.2.1
  have wm : md ≤ 60 := hw.2.2.2.1
  have wpb : ∀ i, i < 60 → pf i < 8 := hw.2.2.2.2.1
  have wkb : ∀ i, i < 60 → kf i < 8 := hw.2.2.2.2.2.1
  have wcb : ∀ i, i < td → cf i < 8 := hw.2.2.2.2.2.2.1
  have wnb : ∀ i, i < td → 1 ≤ nf i ∧ nf i ≤ 60 := hw.2.2.2.2.2.2.2
  have hq_0 : ∀ w ∈ wsX20, w ∈ wsX2_alikeAhead := by decide +kernel
  have hq_1 : (Cond.fieldLink RX2 31 "KnotRugs$Weaver" "made" "I").before args s = true := hts _ (by decide +kernel)
  have hq_2 : (Cond.fieldLink RX2 9 "KnotRugs$Weaver" "planned" "[I").before args s = true := hts _ (by decide +kernel)
  have hq_3 : va_Nw (.methodLinkNest RX2 44 yX3_at RX3) s := hK.2.1 (RX2, 44, yX3_at) (List.mem_of_getElem? (i := 8) rfl)
  have hq_4 : (Cond.initialized RX3).before args s = true := hts _ (by decide +kernel)
  have hq_5 : (Cond.static yX3_at).before args s = true := hts _ (by decide +kernel)
  refine lv_aload_n hx hb dX2_alikeAhead_0 rfl (lv_at hl 0 rfl) ?_
  refine va_get (D := G.1) (ci := 2) (v := .int (nI md)) (C := RX2) (T := TX2) (N := 9) hx hb hts hq_0 hown hK.1 hP 0 rfl rfl 7 (by decide) hq_1 (fun _ h9 => h9) rfl dX2_alikeAhead_1 ?_
  refine lv_istore_n (lv' := [(1, .int (nI md)), (0, .ref a0)]) hx hb dX2_alikeAhead_4 rfl hl (by decide) rfl (fun ls hl => ?_)
  have loop_5 : ∀ (fu_5 : Nat) (i : Nat), i ≤ 60 → md ≤ i → alF pf md (60 - i) i = alEnd pf md → 60 < i + fu_5 → ∀ (H : Heap) (locs : List Loc) (ls : Array Slot), va_P G.1 vwCl [kO a0 2 [.int (nI sd), .ref a1, .ref a2, .ref a3, .ref a4, .int (nI sp), .int (nI td), .int (nI md), .int (nI ot)], kC G a1 60 (nR pf), kC G a2 60 (nR kf), kC G a3 20 (nR cf), kC G a4 20 (nR nf)] H → va_D A [kO a0 2 [.int (nI sd), .ref a1, .ref a2, .ref a3, .ref a4, .int (nI sp), .int (nI td), .int (nI md), .int (nI ot)], kC G a1 60 (nR pf), kC G a2 60 (nR kf), kC G a3 20 (nR cf), kC G a4 20 (nR nf)] → va_S A s.heap H locs → lv_has ls 2 [(0, .ref a0), (1, .int (nI i))] → W p l e ({ frames := 1, cells := 0, slots := 0, locals := 21 } : Room) s m args below meth c H locs 0 0 Qs (F0 m 5 ls []) := by
    intro fu_5
    induction fu_5 with
    | zero =>
      intro i hi hj hv hf
      exact absurd hf (by omega)
    | succ fu_5 ih_5 =>
      intro i hi hj hv hf H locs ls hP hD hS hl
      refine lv_iload_n hx hb dX2_alikeAhead_5 rfl (lv_at hl 1 rfl) ?_
      refine lv_bipush (v := nI 60) hx hb dX2_alikeAhead_6 (by decide) ?_
      refine lv_icmp_ge (tgt := 39) hx hb dX2_alikeAhead_8 (by decide) (fun c_8 => ?_) (fun c_8 => ?_)
      · have c_8 : 60 ≤ i := (nI_leI (a := 60) (b := i) (by omega) (by omega)).mp c_8
        have he : i = alEnd pf md := al_e (by omega) hv
        refine lv_iload_n hx hb dX2_alikeAhead_39 rfl (lv_at hl 1 rfl) ?_
        refine lv_aload_n hx hb dX2_alikeAhead_40 rfl (lv_at hl 0 rfl) ?_
        refine va_get (D := G.1) (ci := 2) (v := .int (nI md)) (C := RX2) (T := TX2) (N := 9) hx hb hts hq_0 hown hK.1 hP 0 rfl rfl 7 (by decide) hq_1 (fun _ h9 => h9) rfl dX2_alikeAhead_41 ?_
        refine lv_isub hx hb dX2_alikeAhead_44 ?_
        refine lv_topi (fun y_1 hy_1 => ?_)
        obtain rfl : y_1 = nI (i - md) := hy_1.trans (pk_sub (a := i) (b := md) (by omega))
        exact k_iret (ws := [kO a0 2 [.int (nI sd), .ref a1, .ref a2, .ref a3, .ref a4, .int (nI sp), .int (nI td), .int (nI md), .int (nI ot)], kC G a1 60 (nR pf), kC G a2 60 (nR kf), kC G a3 20 (nR cf), kC G a4 20 (nR nf)]) (()) hx hb hr hlocks hP hD hS hAe hQ (Nat.le_of_ble_eq_true rfl) (Nat.le_of_ble_eq_true rfl) dX2_alikeAhead_45 (rfl) (by rw [he])
      · have c_8 : ¬ (60 ≤ i) := fun h9 => c_8 ((nI_leI (a := 60) (b := i) (by omega) (by omega)).mpr h9)
        refine lv_aload_n hx hb dX2_alikeAhead_11 rfl (lv_at hl 0 rfl) ?_
        refine va_get (D := G.1) (ci := 2) (v := .ref a1) (C := RX2) (T := TX2) (N := 9) hx hb hts hq_0 hown hK.1 hP 0 rfl rfl 1 (by decide) hq_2 (fun _ h9 => h9) rfl dX2_alikeAhead_12 ?_
        refine lv_iload_n hx hb dX2_alikeAhead_15 rfl (lv_at hl 1 rfl) ?_
        refine k_calli (fun _ => [kO a0 2 [.int (nI sd), .ref a1, .ref a2, .ref a3, .ref a4, .int (nI sp), .int (nI td), .int (nI md), .int (nI ot)], kC G a1 60 (nR pf), kC G a2 60 (nR kf), kC G a3 20 (nR cf), kC G a4 20 (nR nf)]) [kO a0 2 [.int (nI sd), .ref a1, .ref a2, .ref a3, .ref a4, .int (nI sp), .int (nI td), .int (nI md), .int (nI ot)], kC G a2 60 (nR kf), kC G a3 20 (nR cf), kC G a4 20 (nR nf)] (k_runSN (As := [.ref a1, .int (nI i)]) (rest := []) (wc := [kC G a1 60 (nR pf)]) ⟨hx, hb, hml, hown, hts⟩ (c_at l G a1 60 pf i (by omega) (by decide)) ⟨va_cnB (host := RX3) (index := 44) (own := RX2) 2 hts gX2_alikeAhead_X3_at_n44 rfl rfl rfl hq_3 hq_4 (by decide +kernel) ⟨Nat.le_of_ble_eq_true rfl, Nat.le_of_ble_eq_true rfl⟩, hq_5, trivial⟩ hK hZ hP hD hS hA [1] rfl rfl rfl hl.1 rfl (Nat.le_of_ble_eq_true rfl) dX2_alikeAhead_16 ⟨Nat.le_of_ble_eq_true rfl, Nat.le_of_ble_eq_true rfl⟩) hP hD hS hA [1] [0, 2, 3, 4] [0, 4, 1, 2, 3] rfl rfl rfl (by decide) (fun _ => rfl) rfl (fun r_16 u_16 H locs hp_16 hP hD hS => ?_)
        have hp_16 : r_16 = nI (pf i) := hp_16
        subst hp_16
        have hki : pf md < 8 := wpb md hm
        have hpi : pf i < 8 := wpb i (by omega)
        refine lv_aload_n hx hb dX2_alikeAhead_19 rfl (lv_at hl 0 rfl) ?_
        refine va_get (D := G.1) (ci := 2) (v := .ref a1) (C := RX2) (T := TX2) (N := 9) hx hb hts hq_0 hown hK.1 hP 0 rfl rfl 1 (by decide) hq_2 (fun _ h9 => h9) rfl dX2_alikeAhead_20 ?_
        refine lv_aload_n hx hb dX2_alikeAhead_23 rfl (lv_at hl 0 rfl) ?_
        refine va_get (D := G.1) (ci := 2) (v := .int (nI md)) (C := RX2) (T := TX2) (N := 9) hx hb hts hq_0 hown hK.1 hP 0 rfl rfl 7 (by decide) hq_1 (fun _ h9 => h9) rfl dX2_alikeAhead_24 ?_
        refine k_calli (fun _ => [kO a0 2 [.int (nI sd), .ref a1, .ref a2, .ref a3, .ref a4, .int (nI sp), .int (nI td), .int (nI md), .int (nI ot)], kC G a1 60 (nR pf), kC G a2 60 (nR kf), kC G a3 20 (nR cf), kC G a4 20 (nR nf)]) [kO a0 2 [.int (nI sd), .ref a1, .ref a2, .ref a3, .ref a4, .int (nI sp), .int (nI td), .int (nI md), .int (nI ot)], kC G a2 60 (nR kf), kC G a3 20 (nR cf), kC G a4 20 (nR nf)] (k_runSN (As := [.ref a1, .int (nI md)]) (rest := [.int (nI (pf i))]) (wc := [kC G a1 60 (nR pf)]) ⟨hx, hb, hml, hown, hts⟩ (c_at l G a1 60 pf md (by omega) (by decide)) ⟨va_cnB (host := RX3) (index := 44) (own := RX2) 2 hts gX2_alikeAhead_X3_at_n44 rfl rfl rfl hq_3 hq_4 (by decide +kernel) ⟨Nat.le_of_ble_eq_true rfl, Nat.le_of_ble_eq_true rfl⟩, hq_5, trivial⟩ hK hZ hP hD hS hA [1] rfl rfl rfl hl.1 rfl (Nat.le_of_ble_eq_true rfl) dX2_alikeAhead_27 ⟨Nat.le_of_ble_eq_true rfl, Nat.le_of_ble_eq_true rfl⟩) hP hD hS hA [1] [0, 2, 3, 4] [0, 4, 1, 2, 3] rfl rfl rfl (by decide) (fun _ => rfl) rfl (fun r_27 u_27 H locs hp_27 hP hD hS => ?_)
        have hp_27 : r_27 = nI (pf md) := hp_27
        subst hp_27
        refine lv_icmp_ne (tgt := 39) hx hb dX2_alikeAhead_30 (by decide) (fun c_30 => ?_) (fun c_30 => ?_)
        · have c_30 : ¬ ((pf i) = (pf md)) := fun h9 => c_30 ((nI_eq (a := (pf i)) (b := (pf md)) (by omega) (by omega)).mpr h9)
          have he : i = alEnd pf md := al_d (by omega) hv c_30
          refine lv_iload_n hx hb dX2_alikeAhead_39 rfl (lv_at hl 1 rfl) ?_
          refine lv_aload_n hx hb dX2_alikeAhead_40 rfl (lv_at hl 0 rfl) ?_
          refine va_get (D := G.1) (ci := 2) (v := .int (nI md)) (C := RX2) (T := TX2) (N := 9) hx hb hts hq_0 hown hK.1 hP 0 rfl rfl 7 (by decide) hq_1 (fun _ h9 => h9) rfl dX2_alikeAhead_41 ?_
          refine lv_isub hx hb dX2_alikeAhead_44 ?_
          refine lv_topi (fun y_2 hy_2 => ?_)
          obtain rfl : y_2 = nI (i - md) := hy_2.trans (pk_sub (a := i) (b := md) (by omega))
          exact k_iret (ws := [kO a0 2 [.int (nI sd), .ref a1, .ref a2, .ref a3, .ref a4, .int (nI sp), .int (nI td), .int (nI md), .int (nI ot)], kC G a1 60 (nR pf), kC G a2 60 (nR kf), kC G a3 20 (nR cf), kC G a4 20 (nR nf)]) (()) hx hb hr hlocks hP hD hS hAe hQ (Nat.le_of_ble_eq_true rfl) (Nat.le_of_ble_eq_true rfl) dX2_alikeAhead_45 (rfl) (by rw [he])
        · have c_30 : (pf i) = (pf md) := (nI_eq (a := (pf i)) (b := (pf md)) (by omega) (by omega)).mp c_30
          refine lv_iinc (v := nI (i + 1)) (lv' := [(1, .int (nI (i + 1))), (0, .ref a0)]) hx hb dX2_alikeAhead_33 hl (k := 1) rfl (nI_add i 1) (by decide) rfl (fun ls hl => ?_)
          refine lv_goto (tgt := 5) hx hb dX2_alikeAhead_36 (by decide) ?_
          exact ih_5 (i + 1) (by omega) (by omega) (al_s (by omega) hv c_30) (by omega) _ _ _ hP hD hS (lv_sub hl [1, 0] rfl)
  exact loop_5 61 md (by omega) (by omega) (al_0 hm) (by omega) H locs ls hP hD hS (lv_sub hl [1, 0] rfl)
set_option maxHeartbeats 4000000 in
set_option maxRecDepth 100000 in
theorem c_fewestRuns (l : Launch) (G : kG) (a0 : Nat) (a1 : Nat) (a2 : Nat) (a3 : Nat) (a4 : Nat) (sd : Nat) (pf : Nat → Nat) (kf : Nat → Nat) (cf : Nat → Nat) (nf : Nat → Nat) (sp : Nat) (td : Nat) (md : Nat) (ot : Nat) (hw : wOk (pf, kf, cf, nf, sp, td, md, ot)) : kM l G yX2_fewestRuns wsX2_fewestRuns ({ frames := 1, cells := 0, slots := 0, locals := 21 } : Room) [.ref a0] [kO a0 2 [.int (nI sd), .ref a1, .ref a2, .ref a3, .ref a4, .int (nI sp), .int (nI td), .int (nI md), .int (nI ot)], kC G a1 60 (nR pf), kC G a2 60 (nR kf), kC G a3 20 (nR cf), kC G a4 20 (nR nf)] (kQi G [kO a0 2 [.int (nI sd), .ref a1, .ref a2, .ref a3, .ref a4, .int (nI sp), .int (nI td), .int (nI md), .int (nI ot)], kC G a1 60 (nR pf), kC G a2 60 (nR kf), kC G a3 20 (nR cf), kC G a4 20 (nR nf)] (fun (r : Int32) (_ : Unit) => r = nI (frN pf md)) (fun (_ : Unit) => [kO a0 2 [.int (nI sd), .ref a1, .ref a2, .ref a3, .ref a4, .int (nI sp), .int (nI td), .int (nI md), .int (nI ot)], kC G a1 60 (nR pf), kC G a2 60 (nR kf), kC G a3 20 (nR cf), kC G a4 20 (nR nf)])) := by
  refine k_ofW (cc := cX2_fewestRuns) (maxL := 3) (rt := (some .int)) (by decide) rfl (Nat.le_of_ble_eq_true rfl) ?_
  intro p e s m args below meth c A ls Qs H locs hQ hAe hx hb hr hml hts hown hlocks hin hK hZ hP hD hS hA hl
  have hown : s.vm.findClass RX2 = some m.cls := hown
  have hl : lv_has ls 3 [(0, .ref a0)] := hl
  have ws1 : 1 ≤ sp := hw.1
  have ws2 : sp ≤ 6 := hw.2.1
  have wt : td ≤ 20 := hw.2.2.1
  have wm : md ≤ 60 := hw.2.2.2.1
  have wpb : ∀ i, i < 60 → pf i < 8 := hw.2.2.2.2.1
  have wkb : ∀ i, i < 60 → kf i < 8 := hw.2.2.2.2.2.1
  have wcb : ∀ i, i < td → cf i < 8 := hw.2.2.2.2.2.2.1
  have wnb : ∀ i, i < td → 1 ≤ nf i ∧ nf i ≤ 60 := hw.2.2.2.2.2.2.2
  have hq_0 : ∀ w ∈ wsX20, w ∈ wsX2_fewestRuns := by decide +kernel
  have hq_1 : (Cond.fieldLink RX2 31 "KnotRugs$Weaver" "made" "I").before args s = true := hts _ (by decide +kernel)
  have hq_2 : (Cond.fieldLink RX2 9 "KnotRugs$Weaver" "planned" "[I").before args s = true := hts _ (by decide +kernel)
  have hq_3 : va_Nw (.methodLinkNest RX2 44 yX3_at RX3) s := hK.2.1 (RX2, 44, yX3_at) (List.mem_of_getElem? (i := 8) rfl)
  have hq_4 : (Cond.initialized RX3).before args s = true := hts _ (by decide +kernel)
  have hq_5 : (Cond.static yX3_at).before args s = true := hts _ (by decide +kernel)
  refine lv_aload_n hx hb dX2_fewestRuns_0 rfl (lv_at hl 0 rfl) ?_
  refine k_calli (fun u_1 => [kO a0 2 [.int (nI sd), .ref a1, .ref a2, .ref a3, .ref a4, .int (nI sp), .int (nI td), .int (nI md), .int (nI ot)], kC G a1 60 (nR pf), kC G a2 60 (nR kf), kC G a3 20 (nR cf), kC G a4 20 (nR nf)]) [] (k_runV (As := []) (rest := []) (wc := [kO a0 2 [.int (nI sd), .ref a1, .ref a2, .ref a3, .ref a4, .int (nI sp), .int (nI td), .int (nI md), .int (nI ot)], kC G a1 60 (nR pf), kC G a2 60 (nR kf), kC G a3 20 (nR cf), kC G a4 20 (nR nf)]) ⟨hx, hb, hml, hown, hts⟩ (c_isHalfDone l G a0 a1 a2 a3 a4 sd pf kf cf nf sp td md ot wm) (cwV 0 hts gX2_fewestRuns_X2_isHalfDone rfl rfl rfl (by decide +kernel) ⟨Nat.le_of_ble_eq_true rfl, Nat.le_of_ble_eq_true rfl⟩) hK hZ hP hD hS hA [0, 1, 2, 3, 4] rfl rfl 0 2 rfl rfl rfl rfl hl.1 rfl (Nat.le_of_ble_eq_true rfl) dX2_fewestRuns_1 ⟨Nat.le_of_ble_eq_true rfl, Nat.le_of_ble_eq_true rfl⟩) hP hD hS hA [0, 1, 2, 3, 4] [] [0, 1, 2, 3, 4] rfl rfl rfl (by decide) (fun _ => rfl) rfl (fun r_1 u_1 H locs hp_1 hP hD hS => ?_)
  rcases hp_1 with ⟨rfl, hp_1⟩ | ⟨rfl, hp_1⟩
  · refine lv_if_eq (tgt := 11) hx hb dX2_fewestRuns_4 (by decide) (fun c_4 => absurd c_4 (by decide)) (fun c_4 => ?_)
    refine lv_iconst (v := nI 0) hx hb dX2_fewestRuns_7 (by decide) ?_
    refine lv_goto (tgt := 12) hx hb dX2_fewestRuns_8 (by decide) ?_
    refine lv_istore_n (lv' := [(1, .int (nI 0)), (0, .ref a0)]) hx hb dX2_fewestRuns_12 rfl hl (by decide) rfl (fun ls hl => ?_)
    refine lv_aload_n hx hb dX2_fewestRuns_13 rfl (lv_at hl 1 rfl) ?_
    refine va_get (D := G.1) (ci := 2) (v := .int (nI md)) (C := RX2) (T := TX2) (N := 9) hx hb hts hq_0 hown hK.1 hP 0 rfl rfl 7 (by decide) hq_1 (fun _ h9 => h9) rfl dX2_fewestRuns_14 ?_
    refine lv_iconst (v := nI 1) hx hb dX2_fewestRuns_17 (by decide) ?_
    refine lv_iadd hx hb dX2_fewestRuns_18 ?_
    refine lv_topi (fun y_1 hy_1 => ?_)
    obtain rfl : y_1 = nI (md + 1) := hy_1.trans (nI_add md 1)
    refine lv_istore_n (lv' := [(2, .int (nI (md + 1))), (1, .int (nI 0)), (0, .ref a0)]) hx hb dX2_fewestRuns_19 rfl hl (by decide) rfl (fun ls hl => ?_)
    refine lv_iload_n hx hb dX2_fewestRuns_20 rfl (lv_at hl 0 rfl) ?_
    refine lv_bipush (v := nI 60) hx hb dX2_fewestRuns_21 (by decide) ?_
    refine lv_icmp_ge (tgt := 56) hx hb dX2_fewestRuns_23 (by decide) (fun c_23 => ?_) (fun c_23 => absurd ((nI_leI (a := 60) (b := (md + 1)) (by omega) (by omega)).mpr (by omega)) c_23)
    have c_23 : 60 ≤ (md + 1) := (nI_leI (a := 60) (b := (md + 1)) (by omega) (by omega)).mp c_23
    refine lv_iload_n hx hb dX2_fewestRuns_56 rfl (lv_at hl 1 rfl) ?_
    exact k_iret (ws := [kO a0 2 [.int (nI sd), .ref a1, .ref a2, .ref a3, .ref a4, .int (nI sp), .int (nI td), .int (nI md), .int (nI ot)], kC G a1 60 (nR pf), kC G a2 60 (nR kf), kC G a3 20 (nR cf), kC G a4 20 (nR nf)]) (()) hx hb hr hlocks hP hD hS hAe hQ (Nat.le_of_ble_eq_true rfl) (Nat.le_of_ble_eq_true rfl) dX2_fewestRuns_57 (rfl) (by unfold frN; rw [if_pos (by omega)])
  · refine lv_if_eq (tgt := 11) hx hb dX2_fewestRuns_4 (by decide) (fun c_4 => ?_) (fun c_4 => absurd c_4 (by decide))
    refine lv_iconst (v := nI 1) hx hb dX2_fewestRuns_11 (by decide) ?_
    refine lv_istore_n (lv' := [(1, .int (nI 1)), (0, .ref a0)]) hx hb dX2_fewestRuns_12 rfl hl (by decide) rfl (fun ls hl => ?_)
    refine lv_aload_n hx hb dX2_fewestRuns_13 rfl (lv_at hl 1 rfl) ?_
    refine va_get (D := G.1) (ci := 2) (v := .int (nI md)) (C := RX2) (T := TX2) (N := 9) hx hb hts hq_0 hown hK.1 hP 0 rfl rfl 7 (by decide) hq_1 (fun _ h9 => h9) rfl dX2_fewestRuns_14 ?_
    refine lv_iconst (v := nI 1) hx hb dX2_fewestRuns_17 (by decide) ?_
    refine lv_iadd hx hb dX2_fewestRuns_18 ?_
    refine lv_topi (fun y_2 hy_2 => ?_)
    obtain rfl : y_2 = nI (md + 1) := hy_2.trans (nI_add md 1)
    refine lv_istore_n (lv' := [(2, .int (nI (md + 1))), (1, .int (nI 1)), (0, .ref a0)]) hx hb dX2_fewestRuns_19 rfl hl (by decide) rfl (fun ls hl => ?_)
    have loop_20 : ∀ (fu_20 : Nat) (n : Nat) (z : Nat), md + 1 + n ≤ 60 → z = 1 + frC pf md n → 60 < md + 1 + n + fu_20 → ∀ (H : Heap) (locs : List Loc) (ls : Array Slot), va_P G.1 vwCl [kO a0 2 [.int (nI sd), .ref a1, .ref a2, .ref a3, .ref a4, .int (nI sp), .int (nI td), .int (nI md), .int (nI ot)], kC G a1 60 (nR pf), kC G a2 60 (nR kf), kC G a3 20 (nR cf), kC G a4 20 (nR nf)] H → va_D A [kO a0 2 [.int (nI sd), .ref a1, .ref a2, .ref a3, .ref a4, .int (nI sp), .int (nI td), .int (nI md), .int (nI ot)], kC G a1 60 (nR pf), kC G a2 60 (nR kf), kC G a3 20 (nR cf), kC G a4 20 (nR nf)] → va_S A s.heap H locs → lv_has ls 3 [(0, .ref a0), (1, .int (nI z)), (2, .int (nI (md + 1 + n)))] → W p l e ({ frames := 1, cells := 0, slots := 0, locals := 21 } : Room) s m args below meth c H locs 0 0 Qs (F0 m 20 ls []) := by
      intro fu_20
      induction fu_20 with
      | zero =>
        intro n z hn hz hf
        exact absurd hf (by omega)
      | succ fu_20 ih_20 =>
        intro n z hn hz hf H locs ls hP hD hS hl
        refine lv_iload_n hx hb dX2_fewestRuns_20 rfl (lv_at hl 2 rfl) ?_
        refine lv_bipush (v := nI 60) hx hb dX2_fewestRuns_21 (by decide) ?_
        refine lv_icmp_ge (tgt := 56) hx hb dX2_fewestRuns_23 (by decide) (fun c_23 => ?_) (fun c_23 => ?_)
        · have c_23 : 60 ≤ (md + 1 + n) := (nI_leI (a := 60) (b := (md + 1 + n)) (by omega) (by omega)).mp c_23
          refine lv_iload_n hx hb dX2_fewestRuns_56 rfl (lv_at hl 1 rfl) ?_
          exact k_iret (ws := [kO a0 2 [.int (nI sd), .ref a1, .ref a2, .ref a3, .ref a4, .int (nI sp), .int (nI td), .int (nI md), .int (nI ot)], kC G a1 60 (nR pf), kC G a2 60 (nR kf), kC G a3 20 (nR cf), kC G a4 20 (nR nf)]) (()) hx hb hr hlocks hP hD hS hAe hQ (Nat.le_of_ble_eq_true rfl) (Nat.le_of_ble_eq_true rfl) dX2_fewestRuns_57 (rfl) (by unfold frN; rw [if_neg (by omega), hz, show n = 59 - md by omega])
        · have c_23 : ¬ (60 ≤ (md + 1 + n)) := fun h9 => c_23 ((nI_leI (a := 60) (b := (md + 1 + n)) (by omega) (by omega)).mpr h9)
          refine lv_aload_n hx hb dX2_fewestRuns_26 rfl (lv_at hl 0 rfl) ?_
          refine va_get (D := G.1) (ci := 2) (v := .ref a1) (C := RX2) (T := TX2) (N := 9) hx hb hts hq_0 hown hK.1 hP 0 rfl rfl 1 (by decide) hq_2 (fun _ h9 => h9) rfl dX2_fewestRuns_27 ?_
          refine lv_iload_n hx hb dX2_fewestRuns_30 rfl (lv_at hl 2 rfl) ?_
          refine k_calli (fun _ => [kO a0 2 [.int (nI sd), .ref a1, .ref a2, .ref a3, .ref a4, .int (nI sp), .int (nI td), .int (nI md), .int (nI ot)], kC G a1 60 (nR pf), kC G a2 60 (nR kf), kC G a3 20 (nR cf), kC G a4 20 (nR nf)]) [kO a0 2 [.int (nI sd), .ref a1, .ref a2, .ref a3, .ref a4, .int (nI sp), .int (nI td), .int (nI md), .int (nI ot)], kC G a2 60 (nR kf), kC G a3 20 (nR cf), kC G a4 20 (nR nf)] (k_runSN (As := [.ref a1, .int (nI (md + 1 + n))]) (rest := []) (wc := [kC G a1 60 (nR pf)]) ⟨hx, hb, hml, hown, hts⟩ (c_at l G a1 60 pf (md + 1 + n) (by omega) (by decide)) ⟨va_cnB (host := RX3) (index := 44) (own := RX2) 2 hts gX2_fewestRuns_X3_at_n44 rfl rfl rfl hq_3 hq_4 (by decide +kernel) ⟨Nat.le_of_ble_eq_true rfl, Nat.le_of_ble_eq_true rfl⟩, hq_5, trivial⟩ hK hZ hP hD hS hA [1] rfl rfl rfl hl.1 rfl (Nat.le_of_ble_eq_true rfl) dX2_fewestRuns_31 ⟨Nat.le_of_ble_eq_true rfl, Nat.le_of_ble_eq_true rfl⟩) hP hD hS hA [1] [0, 2, 3, 4] [0, 4, 1, 2, 3] rfl rfl rfl (by decide) (fun _ => rfl) rfl (fun r_31 u_31 H locs hp_31 hP hD hS => ?_)
          have hp_31 : r_31 = nI (pf (md + 1 + n)) := hp_31
          subst hp_31
          have hki : pf (md + 1 + n) < 8 := wpb _ (by omega)
          have hpi : pf (md + 1 + n - 1) < 8 := wpb _ (by omega)
          refine lv_aload_n hx hb dX2_fewestRuns_34 rfl (lv_at hl 0 rfl) ?_
          refine va_get (D := G.1) (ci := 2) (v := .ref a1) (C := RX2) (T := TX2) (N := 9) hx hb hts hq_0 hown hK.1 hP 0 rfl rfl 1 (by decide) hq_2 (fun _ h9 => h9) rfl dX2_fewestRuns_35 ?_
          refine lv_iload_n hx hb dX2_fewestRuns_38 rfl (lv_at hl 2 rfl) ?_
          refine lv_iconst (v := nI 1) hx hb dX2_fewestRuns_39 (by decide) ?_
          refine lv_isub hx hb dX2_fewestRuns_40 ?_
          refine lv_topi (fun y_3 hy_3 => ?_)
          obtain rfl : y_3 = nI ((md + 1 + n) - 1) := hy_3.trans (pk_sub (a := (md + 1 + n)) (b := 1) (by omega))
          refine k_calli (fun _ => [kO a0 2 [.int (nI sd), .ref a1, .ref a2, .ref a3, .ref a4, .int (nI sp), .int (nI td), .int (nI md), .int (nI ot)], kC G a1 60 (nR pf), kC G a2 60 (nR kf), kC G a3 20 (nR cf), kC G a4 20 (nR nf)]) [kO a0 2 [.int (nI sd), .ref a1, .ref a2, .ref a3, .ref a4, .int (nI sp), .int (nI td), .int (nI md), .int (nI ot)], kC G a2 60 (nR kf), kC G a3 20 (nR cf), kC G a4 20 (nR nf)] (k_runSN (As := [.ref a1, .int (nI ((md + 1 + n) - 1))]) (rest := [.int (nI (pf (md + 1 + n)))]) (wc := [kC G a1 60 (nR pf)]) ⟨hx, hb, hml, hown, hts⟩ (c_at l G a1 60 pf ((md + 1 + n) - 1) (by omega) (by decide)) ⟨va_cnB (host := RX3) (index := 44) (own := RX2) 2 hts gX2_fewestRuns_X3_at_n44 rfl rfl rfl hq_3 hq_4 (by decide +kernel) ⟨Nat.le_of_ble_eq_true rfl, Nat.le_of_ble_eq_true rfl⟩, hq_5, trivial⟩ hK hZ hP hD hS hA [1] rfl rfl rfl hl.1 rfl (Nat.le_of_ble_eq_true rfl) dX2_fewestRuns_41 ⟨Nat.le_of_ble_eq_true rfl, Nat.le_of_ble_eq_true rfl⟩) hP hD hS hA [1] [0, 2, 3, 4] [0, 4, 1, 2, 3] rfl rfl rfl (by decide) (fun _ => rfl) rfl (fun r_41 u_41 H locs hp_41 hP hD hS => ?_)
          have hp_41 : r_41 = nI (pf ((md + 1 + n) - 1)) := hp_41
          subst hp_41
          refine lv_icmp_eq (tgt := 50) hx hb dX2_fewestRuns_44 (by decide) (fun c_44 => ?_) (fun c_44 => ?_)
          · have c_44 : (pf (md + 1 + n)) = (pf ((md + 1 + n) - 1)) := (nI_eq (a := (pf (md + 1 + n))) (b := (pf ((md + 1 + n) - 1))) (by omega) (by omega)).mp c_44
            refine lv_iinc (v := nI ((md + 1 + n) + 1)) (lv' := [(2, .int (nI ((md + 1 + n) + 1))), (0, .ref a0), (1, .int (nI z))]) hx hb dX2_fewestRuns_50 hl (k := 2) rfl (nI_add (md + 1 + n) 1) (by decide) rfl (fun ls hl => ?_)
            refine lv_goto (tgt := 20) hx hb dX2_fewestRuns_53 (by decide) ?_
            exact ih_20 (n + 1) z (by omega) (by rw [hz]; first | (rw [frC_s c_44]; done) | (rw [← frC_d c_44]; omega)) (by omega) _ _ _ hP hD hS (lv_sub hl [1, 2, 0] rfl)
          · have c_44 : ¬ ((pf (md + 1 + n)) = (pf ((md + 1 + n) - 1))) := fun h9 => c_44 ((nI_eq (a := (pf (md + 1 + n))) (b := (pf ((md + 1 + n) - 1))) (by omega) (by omega)).mpr h9)
            refine lv_iinc (v := nI (z + 1)) (lv' := [(1, .int (nI (z + 1))), (0, .ref a0), (2, .int (nI (md + 1 + n)))]) hx hb dX2_fewestRuns_47 hl (k := 1) rfl (nI_add z 1) (by decide) rfl (fun ls hl => ?_)
            refine lv_iinc (v := nI ((md + 1 + n) + 1)) (lv' := [(2, .int (nI ((md + 1 + n) + 1))), (1, .int (nI (z + 1))), (0, .ref a0)]) hx hb dX2_fewestRuns_50 hl (k := 2) rfl (nI_add (md + 1 + n) 1) (by decide) rfl (fun ls hl => ?_)
            refine lv_goto (tgt := 20) hx hb dX2_fewestRuns_53 (by decide) ?_
            exact ih_20 (n + 1) (z + 1) (by omega) (by rw [hz]; first | (rw [frC_s c_44]; done) | (rw [← frC_d c_44]; omega)) (by omega) _ _ _ hP hD hS (lv_sub hl [2, 1, 0] rfl)
    exact loop_20 61 0 1 (by omega) rfl (by omega) H locs ls hP hD hS (lv_sub hl [2, 1, 0] rfl)
set_option maxHeartbeats 4000000 in
set_option maxRecDepth 100000 in
theorem c_shorten (l : Launch) (G : kG) (a0 : Nat) (a1 : Nat) (a2 : Nat) (a3 : Nat) (a4 : Nat) (sd : Nat) (pf : Nat → Nat) (kf : Nat → Nat) (cf : Nat → Nat) (nf : Nat → Nat) (sp : Nat) (td : Nat) (md : Nat) (ot : Nat) (ht1 : 0 < td) (wt : td ≤ 20) (hn0 : 1 ≤ nf 0 ∧ nf 0 ≤ 60) : kM l G yX2_shortenFirstRun wsX2_shortenFirstRun ({ frames := 1, cells := 0, slots := 0, locals := 22 } : Room) [.ref a0] [kO a0 2 [.int (nI sd), .ref a1, .ref a2, .ref a3, .ref a4, .int (nI sp), .int (nI td), .int (nI md), .int (nI ot)], kC G a1 60 (nR pf), kC G a2 60 (nR kf), kC G a3 20 (nR cf), kC G a4 20 (nR nf)] (kQv G [kO a0 2 [.int (nI sd), .ref a1, .ref a2, .ref a3, .ref a4, .int (nI sp), .int (nI td), .int (nI md), .int (nI ot)], kC G a1 60 (nR pf), kC G a2 60 (nR kf), kC G a3 20 (nR cf), kC G a4 20 (nR nf)] (fun (_ : Unit) => True) (fun (_ : Unit) => [kO a0 2 [.int (nI sd), .ref a1, .ref a2, .ref a3, .ref a4, .int (nI sp), .int (nI (shT nf td)), .int (nI md), .int (nI ot)], kC G a1 60 (nR pf), kC G a2 60 (nR kf), kC G a3 20 (nR (shC cf nf td)), kC G a4 20 (nR (shN nf td))])) := by
  refine k_ofW (cc := cX2_shortenFirstRun) (maxL := 3) (rt := none) (by decide) rfl (Nat.le_of_ble_eq_true rfl) ?_
  intro p e s m args below meth c A ls Qs H locs hQ hAe hx hb hr hml hts hown hlocks hin hK hZ hP hD hS hA hl
  have hown : s.vm.findClass RX2 = some m.cls := hown
  have hl : lv_has ls 3 [(0, .ref a0)] := hl
  have hq_0 : ∀ w ∈ wsX20, w ∈ wsX2_shortenFirstRun := by decide +kernel
  have hq_1 : (Cond.fieldLink RX2 21 "KnotRugs$Weaver" "toldKnots" "[I").before args s = true := hts _ (by decide +kernel)
  have hq_2 : va_Nw (.methodLinkNest RX2 44 yX3_at RX3) s := hK.2.1 (RX2, 44, yX3_at) (List.mem_of_getElem? (i := 8) rfl)
  have hq_3 : (Cond.initialized RX3).before args s = true := hts _ (by decide +kernel)
  have hq_4 : (Cond.static yX3_at).before args s = true := hts _ (by decide +kernel)
  have hq_5 : va_Nw (.methodLinkNest RX2 48 yX3_put RX3) s := hK.2.1 (RX2, 48, yX3_put) (List.mem_of_getElem? (i := 9) rfl)
  have hq_6 : (Cond.static yX3_put).before args s = true := hts _ (by decide +kernel)
  have hq_7 : (Cond.fieldLink RX2 28 "KnotRugs$Weaver" "told" "I").before args s = true := hts _ (by decide +kernel)
  have hq_8 : (Cond.fieldLink RX2 18 "KnotRugs$Weaver" "toldColours" "[I").before args s = true := hts _ (by decide +kernel)
  refine lv_aload_n hx hb dX2_shortenFirstRun_0 rfl (lv_at hl 0 rfl) ?_
  refine va_get (D := G.1) (ci := 2) (v := .ref a4) (C := RX2) (T := TX2) (N := 9) hx hb hts hq_0 hown hK.1 hP 0 rfl rfl 4 (by decide) hq_1 (fun _ h9 => h9) rfl dX2_shortenFirstRun_1 ?_
  refine lv_iconst (v := nI 0) hx hb dX2_shortenFirstRun_4 (by decide) ?_
  refine k_calli (fun _ => [kO a0 2 [.int (nI sd), .ref a1, .ref a2, .ref a3, .ref a4, .int (nI sp), .int (nI td), .int (nI md), .int (nI ot)], kC G a1 60 (nR pf), kC G a2 60 (nR kf), kC G a3 20 (nR cf), kC G a4 20 (nR nf)]) [kO a0 2 [.int (nI sd), .ref a1, .ref a2, .ref a3, .ref a4, .int (nI sp), .int (nI td), .int (nI md), .int (nI ot)], kC G a1 60 (nR pf), kC G a2 60 (nR kf), kC G a3 20 (nR cf)] (k_runSN (As := [.ref a4, .int (nI 0)]) (rest := []) (wc := [kC G a4 20 (nR nf)]) ⟨hx, hb, hml, hown, hts⟩ (c_at l G a4 20 nf 0 (by omega) (by decide)) ⟨va_cnB (host := RX3) (index := 44) (own := RX2) 2 hts gX2_shortenFirstRun_X3_at_n44 rfl rfl rfl hq_2 hq_3 (by decide +kernel) ⟨Nat.le_of_ble_eq_true rfl, Nat.le_of_ble_eq_true rfl⟩, hq_4, trivial⟩ hK hZ hP hD hS hA [4] rfl rfl rfl hl.1 rfl (Nat.le_of_ble_eq_true rfl) dX2_shortenFirstRun_5 ⟨Nat.le_of_ble_eq_true rfl, Nat.le_of_ble_eq_true rfl⟩) hP hD hS hA [4] [0, 1, 2, 3] [0, 1, 2, 3, 4] rfl rfl rfl (by decide) (fun _ => rfl) rfl (fun r_5 u_5 H locs hp_5 hP hD hS => ?_)
  have hp_5 : r_5 = nI (nf 0) := hp_5
  subst hp_5
  refine lv_iconst (v := nI 1) hx hb dX2_shortenFirstRun_8 (by decide) ?_
  refine lv_isub hx hb dX2_shortenFirstRun_9 ?_
  refine lv_topi (fun y_1 hy_1 => ?_)
  obtain rfl : y_1 = nI ((nf 0) - 1) := hy_1.trans (pk_sub (a := (nf 0)) (b := 1) (by omega))
  refine lv_istore_n (lv' := [(1, .int (nI ((nf 0) - 1))), (0, .ref a0)]) hx hb dX2_shortenFirstRun_10 rfl hl (by decide) rfl (fun ls hl => ?_)
  refine lv_aload_n hx hb dX2_shortenFirstRun_11 rfl (lv_at hl 1 rfl) ?_
  refine va_get (D := G.1) (ci := 2) (v := .ref a4) (C := RX2) (T := TX2) (N := 9) hx hb hts hq_0 hown hK.1 hP 0 rfl rfl 4 (by decide) hq_1 (fun _ h9 => h9) rfl dX2_shortenFirstRun_12 ?_
  refine lv_iconst (v := nI 0) hx hb dX2_shortenFirstRun_15 (by decide) ?_
  refine lv_iload_n hx hb dX2_shortenFirstRun_16 rfl (lv_at hl 0 rfl) ?_
  refine k_callv (fun _ => [kO a0 2 [.int (nI sd), .ref a1, .ref a2, .ref a3, .ref a4, .int (nI sp), .int (nI td), .int (nI md), .int (nI ot)], kC G a1 60 (nR pf), kC G a2 60 (nR kf), kC G a3 20 (nR cf), kC G a4 20 (nR (updN nf 0 ((nf 0) - 1)))]) [kO a0 2 [.int (nI sd), .ref a1, .ref a2, .ref a3, .ref a4, .int (nI sp), .int (nI td), .int (nI md), .int (nI ot)], kC G a1 60 (nR pf), kC G a2 60 (nR kf), kC G a3 20 (nR cf)] (k_runSN (As := [.ref a4, .int (nI 0), .int (nI ((nf 0) - 1))]) (rest := []) (wc := [kC G a4 20 (nR nf)]) ⟨hx, hb, hml, hown, hts⟩ (c_put l G a4 20 nf 0 ((nf 0) - 1) (by omega) (by decide)) ⟨va_cnB (host := RX3) (index := 48) (own := RX2) 3 hts gX2_shortenFirstRun_X3_put_n48 rfl rfl rfl hq_5 hq_3 (by decide +kernel) ⟨Nat.le_of_ble_eq_true rfl, Nat.le_of_ble_eq_true rfl⟩, hq_6, trivial⟩ hK hZ hP hD hS hA [4] rfl rfl rfl hl.1 rfl (Nat.le_of_ble_eq_true rfl) dX2_shortenFirstRun_17 ⟨Nat.le_of_ble_eq_true rfl, Nat.le_of_ble_eq_true rfl⟩) hP hD hS hA [4] [0, 1, 2, 3] [0, 1, 2, 3, 4] rfl rfl rfl (by decide) (fun _ => rfl) rfl (fun u_17 H locs hp_17 hP hD hS => ?_)
  refine lv_iload_n hx hb dX2_shortenFirstRun_20 rfl (lv_at hl 0 rfl) ?_
  refine lv_if_le (tgt := 25) hx hb dX2_shortenFirstRun_21 (by decide) (fun c_21 => ?_) (fun c_21 => ?_)
  · have c_21 : ((nf 0) - 1) = 0 := (k_le0 (a := ((nf 0) - 1)) (by omega)).mp c_21
    refine lv_iconst (v := nI 1) hx hb dX2_shortenFirstRun_25 (by decide) ?_
    refine lv_istore_n (lv' := [(2, .int (nI 1)), (1, .int (nI ((nf 0) - 1))), (0, .ref a0)]) hx hb dX2_shortenFirstRun_26 rfl hl (by decide) rfl (fun ls hl => ?_)
    have loop_27 : ∀ (fu_27 : Nat) (i : Nat), i ≤ td → 1 ≤ i → td < i + fu_27 → ∀ (H : Heap) (locs : List Loc) (ls : Array Slot), va_P G.1 vwCl [kO a0 2 [.int (nI sd), .ref a1, .ref a2, .ref a3, .ref a4, .int (nI sp), .int (nI td), .int (nI md), .int (nI ot)], kC G a1 60 (nR pf), kC G a2 60 (nR kf), kC G a3 20 (nR (shf cf i)), kC G a4 20 (nR (shf (updN nf 0 (nf 0 - 1)) i))] H → va_D A [kO a0 2 [.int (nI sd), .ref a1, .ref a2, .ref a3, .ref a4, .int (nI sp), .int (nI td), .int (nI md), .int (nI ot)], kC G a1 60 (nR pf), kC G a2 60 (nR kf), kC G a3 20 (nR (shf cf i)), kC G a4 20 (nR (shf (updN nf 0 (nf 0 - 1)) i))] → va_S A s.heap H locs → lv_has ls 3 [(0, .ref a0), (1, .int (nI (nf 0 - 1))), (2, .int (nI i))] → W p l e ({ frames := 1, cells := 0, slots := 0, locals := 22 } : Room) s m args below meth c H locs 0 0 Qs (F0 m 27 ls []) := by
      intro fu_27
      induction fu_27 with
      | zero =>
        intro i hi hi1 hf
        exact absurd hf (by omega)
      | succ fu_27 ih_27 =>
        intro i hi hi1 hf H locs ls hP hD hS hl
        refine lv_iload_n hx hb dX2_shortenFirstRun_27 rfl (lv_at hl 2 rfl) ?_
        refine lv_aload_n hx hb dX2_shortenFirstRun_28 rfl (lv_at hl 0 rfl) ?_
        refine va_get (D := G.1) (ci := 2) (v := .int (nI td)) (C := RX2) (T := TX2) (N := 9) hx hb hts hq_0 hown hK.1 hP 0 rfl rfl 6 (by decide) hq_7 (fun _ h9 => h9) rfl dX2_shortenFirstRun_29 ?_
        refine lv_icmp_ge (tgt := 77) hx hb dX2_shortenFirstRun_32 (by decide) (fun c_32 => ?_) (fun c_32 => ?_)
        · have c_32 : td ≤ i := (nI_leI (a := td) (b := i) (by omega) (by omega)).mp c_32
          have hi9 : i = td := by omega
          rw [hi9] at hP hD
          have hP : va_P G.1 vwCl [kO a0 2 [.int (nI sd), .ref a1, .ref a2, .ref a3, .ref a4, .int (nI sp), .int (nI td), .int (nI md), .int (nI ot)], kC G a1 60 (nR pf), kC G a2 60 (nR kf), kC G a3 20 (nR (shf cf td)), kC G a4 20 (nR (shf (updN nf 0 (nf 0 - 1)) td))] H := hP
          have hD : va_D A [kO a0 2 [.int (nI sd), .ref a1, .ref a2, .ref a3, .ref a4, .int (nI sp), .int (nI td), .int (nI md), .int (nI ot)], kC G a1 60 (nR pf), kC G a2 60 (nR kf), kC G a3 20 (nR (shf cf td)), kC G a4 20 (nR (shf (updN nf 0 (nf 0 - 1)) td))] := hD
          refine lv_aload_n hx hb dX2_shortenFirstRun_77 rfl (lv_at hl 0 rfl) ?_
          refine lv_dup hx hb dX2_shortenFirstRun_78 rfl ?_
          refine va_get (D := G.1) (ci := 2) (v := .int (nI td)) (C := RX2) (T := TX2) (N := 9) hx hb hts hq_0 hown hK.1 hP 0 rfl rfl 6 (by decide) hq_7 (fun _ h9 => h9) rfl dX2_shortenFirstRun_79 ?_
          refine lv_iconst (v := nI 1) hx hb dX2_shortenFirstRun_82 (by decide) ?_
          refine lv_isub hx hb dX2_shortenFirstRun_83 ?_
          refine lv_topi (fun y_2 hy_2 => ?_)
          obtain rfl : y_2 = nI (td - 1) := hy_2.trans (pk_sub (a := td) (b := 1) (by omega))
          refine va_put (D := G.1) (ci := 2) (v := .int (nI (td - 1))) (ty := .int) (C := RX2) (T := TX2) (N := 9) hx hb hts hq_0 tyX2 tyX2_ok nmX2 hown hK.1 hP hD hS 0 rfl rfl 6 (by decide) hq_7 (fun _ h9 => h9) rfl (by decide +kernel) rfl rfl (Nat.le_of_ble_eq_true rfl) dX2_shortenFirstRun_84 (fun H locs hP hD hS => ?_)
          have hP : va_P G.1 vwCl [kO a0 2 [.int (nI sd), .ref a1, .ref a2, .ref a3, .ref a4, .int (nI sp), .int (nI (td - 1)), .int (nI md), .int (nI ot)], kC G a1 60 (nR pf), kC G a2 60 (nR kf), kC G a3 20 (nR (shf cf td)), kC G a4 20 (nR (shf (updN nf 0 (nf 0 - 1)) td))] H := hP
          have hD : va_D A [kO a0 2 [.int (nI sd), .ref a1, .ref a2, .ref a3, .ref a4, .int (nI sp), .int (nI (td - 1)), .int (nI md), .int (nI ot)], kC G a1 60 (nR pf), kC G a2 60 (nR kf), kC G a3 20 (nR (shf cf td)), kC G a4 20 (nR (shf (updN nf 0 (nf 0 - 1)) td))] := hD
          exact k_vret (ws := [kO a0 2 [.int (nI sd), .ref a1, .ref a2, .ref a3, .ref a4, .int (nI sp), .int (nI td), .int (nI md), .int (nI ot)], kC G a1 60 (nR pf), kC G a2 60 (nR kf), kC G a3 20 (nR cf), kC G a4 20 (nR nf)]) (()) hx hb hr hlocks hP hD hS hAe hQ (Nat.le_of_ble_eq_true rfl) (Nat.le_of_ble_eq_true rfl) dX2_shortenFirstRun_87 (by unfold shC shN shT; rw [if_pos (by omega), if_pos (by omega), if_pos (by omega)]) (trivial)
        · have c_32 : ¬ (td ≤ i) := fun h9 => c_32 ((nI_leI (a := td) (b := i) (by omega) (by omega)).mpr h9)
          refine lv_aload_n hx hb dX2_shortenFirstRun_35 rfl (lv_at hl 0 rfl) ?_
          refine va_get (D := G.1) (ci := 2) (v := .ref a3) (C := RX2) (T := TX2) (N := 9) hx hb hts hq_0 hown hK.1 hP 0 rfl rfl 3 (by decide) hq_8 (fun _ h9 => h9) rfl dX2_shortenFirstRun_36 ?_
          refine lv_iload_n hx hb dX2_shortenFirstRun_39 rfl (lv_at hl 2 rfl) ?_
          refine lv_iconst (v := nI 1) hx hb dX2_shortenFirstRun_40 (by decide) ?_
          refine lv_isub hx hb dX2_shortenFirstRun_41 ?_
          refine lv_topi (fun y_3 hy_3 => ?_)
          obtain rfl : y_3 = nI (i - 1) := hy_3.trans (pk_sub (a := i) (b := 1) (by omega))
          refine lv_aload_n hx hb dX2_shortenFirstRun_42 rfl (lv_at hl 0 rfl) ?_
          refine va_get (D := G.1) (ci := 2) (v := .ref a3) (C := RX2) (T := TX2) (N := 9) hx hb hts hq_0 hown hK.1 hP 0 rfl rfl 3 (by decide) hq_8 (fun _ h9 => h9) rfl dX2_shortenFirstRun_43 ?_
          refine lv_iload_n hx hb dX2_shortenFirstRun_46 rfl (lv_at hl 2 rfl) ?_
          refine k_calli (fun _ => [kO a0 2 [.int (nI sd), .ref a1, .ref a2, .ref a3, .ref a4, .int (nI sp), .int (nI td), .int (nI md), .int (nI ot)], kC G a1 60 (nR pf), kC G a2 60 (nR kf), kC G a3 20 (nR (shf cf i)), kC G a4 20 (nR (shf (updN nf 0 (nf 0 - 1)) i))]) [kO a0 2 [.int (nI sd), .ref a1, .ref a2, .ref a3, .ref a4, .int (nI sp), .int (nI td), .int (nI md), .int (nI ot)], kC G a1 60 (nR pf), kC G a2 60 (nR kf), kC G a4 20 (nR (shf (updN nf 0 (nf 0 - 1)) i))] (k_runSN (As := [.ref a3, .int (nI i)]) (rest := [.int (nI (i - 1)), .ref a3]) (wc := [kC G a3 20 (nR (shf cf i))]) ⟨hx, hb, hml, hown, hts⟩ (c_at l G a3 20 (shf cf i) i (by omega) (by decide)) ⟨va_cnB (host := RX3) (index := 44) (own := RX2) 2 hts gX2_shortenFirstRun_X3_at_n44 rfl rfl rfl hq_2 hq_3 (by decide +kernel) ⟨Nat.le_of_ble_eq_true rfl, Nat.le_of_ble_eq_true rfl⟩, hq_4, trivial⟩ hK hZ hP hD hS hA [3] rfl rfl rfl hl.1 rfl (Nat.le_of_ble_eq_true rfl) dX2_shortenFirstRun_47 ⟨Nat.le_of_ble_eq_true rfl, Nat.le_of_ble_eq_true rfl⟩) hP hD hS hA [3] [0, 1, 2, 4] [0, 1, 2, 4, 3] rfl rfl rfl (by decide) (fun _ => rfl) rfl (fun r_47 u_47 H locs hp_47 hP hD hS => ?_)
          have hp_47 : r_47 = nI ((shf cf i) i) := hp_47
          subst hp_47
          refine k_callv (fun _ => [kO a0 2 [.int (nI sd), .ref a1, .ref a2, .ref a3, .ref a4, .int (nI sp), .int (nI td), .int (nI md), .int (nI ot)], kC G a1 60 (nR pf), kC G a2 60 (nR kf), kC G a3 20 (nR (updN (shf cf i) (i - 1) ((shf cf i) i))), kC G a4 20 (nR (shf (updN nf 0 (nf 0 - 1)) i))]) [kO a0 2 [.int (nI sd), .ref a1, .ref a2, .ref a3, .ref a4, .int (nI sp), .int (nI td), .int (nI md), .int (nI ot)], kC G a1 60 (nR pf), kC G a2 60 (nR kf), kC G a4 20 (nR (shf (updN nf 0 (nf 0 - 1)) i))] (k_runSN (As := [.ref a3, .int (nI (i - 1)), .int (nI ((shf cf i) i))]) (rest := []) (wc := [kC G a3 20 (nR (shf cf i))]) ⟨hx, hb, hml, hown, hts⟩ (c_put l G a3 20 (shf cf i) (i - 1) ((shf cf i) i) (by omega) (by decide)) ⟨va_cnB (host := RX3) (index := 48) (own := RX2) 3 hts gX2_shortenFirstRun_X3_put_n48 rfl rfl rfl hq_5 hq_3 (by decide +kernel) ⟨Nat.le_of_ble_eq_true rfl, Nat.le_of_ble_eq_true rfl⟩, hq_6, trivial⟩ hK hZ hP hD hS hA [3] rfl rfl rfl hl.1 rfl (Nat.le_of_ble_eq_true rfl) dX2_shortenFirstRun_50 ⟨Nat.le_of_ble_eq_true rfl, Nat.le_of_ble_eq_true rfl⟩) hP hD hS hA [3] [0, 1, 2, 4] [0, 1, 2, 4, 3] rfl rfl rfl (by decide) (fun _ => rfl) rfl (fun u_50 H locs hp_50 hP hD hS => ?_)
          refine lv_aload_n hx hb dX2_shortenFirstRun_53 rfl (lv_at hl 0 rfl) ?_
          refine va_get (D := G.1) (ci := 2) (v := .ref a4) (C := RX2) (T := TX2) (N := 9) hx hb hts hq_0 hown hK.1 hP 0 rfl rfl 4 (by decide) hq_1 (fun _ h9 => h9) rfl dX2_shortenFirstRun_54 ?_
          refine lv_iload_n hx hb dX2_shortenFirstRun_57 rfl (lv_at hl 2 rfl) ?_
          refine lv_iconst (v := nI 1) hx hb dX2_shortenFirstRun_58 (by decide) ?_
          refine lv_isub hx hb dX2_shortenFirstRun_59 ?_
          refine lv_topi (fun y_4 hy_4 => ?_)
          obtain rfl : y_4 = nI (i - 1) := hy_4.trans (pk_sub (a := i) (b := 1) (by omega))
          refine lv_aload_n hx hb dX2_shortenFirstRun_60 rfl (lv_at hl 0 rfl) ?_
          refine va_get (D := G.1) (ci := 2) (v := .ref a4) (C := RX2) (T := TX2) (N := 9) hx hb hts hq_0 hown hK.1 hP 0 rfl rfl 4 (by decide) hq_1 (fun _ h9 => h9) rfl dX2_shortenFirstRun_61 ?_
          refine lv_iload_n hx hb dX2_shortenFirstRun_64 rfl (lv_at hl 2 rfl) ?_
          refine k_calli (fun _ => [kO a0 2 [.int (nI sd), .ref a1, .ref a2, .ref a3, .ref a4, .int (nI sp), .int (nI td), .int (nI md), .int (nI ot)], kC G a1 60 (nR pf), kC G a2 60 (nR kf), kC G a3 20 (nR (updN (shf cf i) (i - 1) ((shf cf i) i))), kC G a4 20 (nR (shf (updN nf 0 (nf 0 - 1)) i))]) [kO a0 2 [.int (nI sd), .ref a1, .ref a2, .ref a3, .ref a4, .int (nI sp), .int (nI td), .int (nI md), .int (nI ot)], kC G a1 60 (nR pf), kC G a2 60 (nR kf), kC G a3 20 (nR (updN (shf cf i) (i - 1) ((shf cf i) i)))] (k_runSN (As := [.ref a4, .int (nI i)]) (rest := [.int (nI (i - 1)), .ref a4]) (wc := [kC G a4 20 (nR (shf (updN nf 0 (nf 0 - 1)) i))]) ⟨hx, hb, hml, hown, hts⟩ (c_at l G a4 20 (shf (updN nf 0 (nf 0 - 1)) i) i (by omega) (by decide)) ⟨va_cnB (host := RX3) (index := 44) (own := RX2) 2 hts gX2_shortenFirstRun_X3_at_n44 rfl rfl rfl hq_2 hq_3 (by decide +kernel) ⟨Nat.le_of_ble_eq_true rfl, Nat.le_of_ble_eq_true rfl⟩, hq_4, trivial⟩ hK hZ hP hD hS hA [4] rfl rfl rfl hl.1 rfl (Nat.le_of_ble_eq_true rfl) dX2_shortenFirstRun_65 ⟨Nat.le_of_ble_eq_true rfl, Nat.le_of_ble_eq_true rfl⟩) hP hD hS hA [4] [0, 1, 2, 3] [0, 1, 2, 3, 4] rfl rfl rfl (by decide) (fun _ => rfl) rfl (fun r_65 u_65 H locs hp_65 hP hD hS => ?_)
          have hp_65 : r_65 = nI ((shf (updN nf 0 (nf 0 - 1)) i) i) := hp_65
          subst hp_65
          refine k_callv (fun _ => [kO a0 2 [.int (nI sd), .ref a1, .ref a2, .ref a3, .ref a4, .int (nI sp), .int (nI td), .int (nI md), .int (nI ot)], kC G a1 60 (nR pf), kC G a2 60 (nR kf), kC G a3 20 (nR (updN (shf cf i) (i - 1) ((shf cf i) i))), kC G a4 20 (nR (updN (shf (updN nf 0 (nf 0 - 1)) i) (i - 1) ((shf (updN nf 0 (nf 0 - 1)) i) i)))]) [kO a0 2 [.int (nI sd), .ref a1, .ref a2, .ref a3, .ref a4, .int (nI sp), .int (nI td), .int (nI md), .int (nI ot)], kC G a1 60 (nR pf), kC G a2 60 (nR kf), kC G a3 20 (nR (updN (shf cf i) (i - 1) ((shf cf i) i)))] (k_runSN (As := [.ref a4, .int (nI (i - 1)), .int (nI ((shf (updN nf 0 (nf 0 - 1)) i) i))]) (rest := []) (wc := [kC G a4 20 (nR (shf (updN nf 0 (nf 0 - 1)) i))]) ⟨hx, hb, hml, hown, hts⟩ (c_put l G a4 20 (shf (updN nf 0 (nf 0 - 1)) i) (i - 1) ((shf (updN nf 0 (nf 0 - 1)) i) i) (by omega) (by decide)) ⟨va_cnB (host := RX3) (index := 48) (own := RX2) 3 hts gX2_shortenFirstRun_X3_put_n48 rfl rfl rfl hq_5 hq_3 (by decide +kernel) ⟨Nat.le_of_ble_eq_true rfl, Nat.le_of_ble_eq_true rfl⟩, hq_6, trivial⟩ hK hZ hP hD hS hA [4] rfl rfl rfl hl.1 rfl (Nat.le_of_ble_eq_true rfl) dX2_shortenFirstRun_68 ⟨Nat.le_of_ble_eq_true rfl, Nat.le_of_ble_eq_true rfl⟩) hP hD hS hA [4] [0, 1, 2, 3] [0, 1, 2, 3, 4] rfl rfl rfl (by decide) (fun _ => rfl) rfl (fun u_68 H locs hp_68 hP hD hS => ?_)
          refine lv_iinc (v := nI (i + 1)) (lv' := [(2, .int (nI (i + 1))), (0, .ref a0), (1, .int (nI (nf 0 - 1)))]) hx hb dX2_shortenFirstRun_71 hl (k := 2) rfl (nI_add i 1) (by decide) rfl (fun ls hl => ?_)
          refine lv_goto (tgt := 27) hx hb dX2_shortenFirstRun_74 (by decide) ?_
          rw [shf_at, shf_at, shf_s (by omega), shf_s (by omega)] at hP hD
          exact ih_27 (i + 1) (by omega) (by omega) (by omega) _ _ _ hP hD hS (lv_sub hl [1, 2, 0] rfl)
    rw [← shf_1 (f := cf), ← shf_1 (f := updN nf 0 (nf 0 - 1))] at hP hD
    exact loop_27 (td + 1) 1 (by omega) (by omega) (by omega) H locs ls hP hD hS (lv_sub hl [2, 1, 0] rfl)
  · have c_21 : ¬ (((nf 0) - 1) = 0) := fun h9 => c_21 ((k_le0 (a := ((nf 0) - 1)) (by omega)).mpr h9)
    exact k_vret (ws := [kO a0 2 [.int (nI sd), .ref a1, .ref a2, .ref a3, .ref a4, .int (nI sp), .int (nI td), .int (nI md), .int (nI ot)], kC G a1 60 (nR pf), kC G a2 60 (nR kf), kC G a3 20 (nR cf), kC G a4 20 (nR nf)]) (()) hx hb hr hlocks hP hD hS hAe hQ (Nat.le_of_ble_eq_true rfl) (Nat.le_of_ble_eq_true rfl) dX2_shortenFirstRun_24 (by unfold shC shN shT; rw [if_neg (by omega), if_neg (by omega), if_neg (by omega)]) (trivial)
set_option maxHeartbeats 4000000 in
set_option maxRecDepth 100000 in
theorem c_knotNext (l : Launch) (G : kG) (a0 : Nat) (a1 : Nat) (a2 : Nat) (a3 : Nat) (a4 : Nat) (sd : Nat) (pf : Nat → Nat) (kf : Nat → Nat) (cf : Nat → Nat) (nf : Nat → Nat) (sp : Nat) (td : Nat) (md : Nat) (ot : Nat) (b0 : Nat) (b1 : Nat) (bf : Nat → Nat) (hw : wOk (pf, kf, cf, nf, sp, td, md, ot)) (hB : bOk bf) (ht1 : 0 < td) (hm : md < 60) : kM l G yX2_knotNext wsX2_knotNext ({ frames := 2, cells := 0, slots := 0, locals := 46 } : Room) [.ref a0, .ref b0] [kO a0 2 [.int (nI sd), .ref a1, .ref a2, .ref a3, .ref a4, .int (nI sp), .int (nI td), .int (nI md), .int (nI ot)], kC G a1 60 (nR pf), kC G a2 60 (nR kf), kC G a3 20 (nR cf), kC G a4 20 (nR nf), kO b0 0 [.ref b1], kC G b1 8 (nR bf)] (kQi G [kO a0 2 [.int (nI sd), .ref a1, .ref a2, .ref a3, .ref a4, .int (nI sp), .int (nI td), .int (nI md), .int (nI ot)], kC G a1 60 (nR pf), kC G a2 60 (nR kf), kC G a3 20 (nR cf), kC G a4 20 (nR nf), kO b0 0 [.ref b1], kC G b1 8 (nR bf)] (fun (r : Int32) (u : Wv × (Nat → Nat)) => (r = nI 1 ∧ takeBy bf (cf 0) < 8 ∧ u = (knW (pf, kf, cf, nf, sp, td, md, ot) bf, takeB bf (cf 0))) ∨ (r = nI 0 ∧ ¬ takeBy bf (cf 0) < 8 ∧ u = ((pf, kf, cf, nf, sp, td, md, ot), bf))) (fun (u : Wv × (Nat → Nat)) => [kO a0 2 [.int (nI sd), .ref a1, .ref a2, .ref a3, .ref a4, .int (nI (vS u.1)), .int (nI (vT u.1)), .int (nI (vM u.1)), .int (nI (vO u.1))], kC G a1 60 (nR (vP u.1)), kC G a2 60 (nR (vK u.1)), kC G a3 20 (nR (vC u.1)), kC G a4 20 (nR (vN u.1)), kO b0 0 [.ref b1], kC G b1 8 (nR u.2)])) := by
  refine k_ofW (cc := cX2_knotNext) (maxL := 4) (rt := (some .boolean)) (by decide) rfl (Nat.le_of_ble_eq_true rfl) ?_
  intro p e s m args below meth c A ls Qs H locs hQ hAe hx hb hr hml hts hown hlocks hin hK hZ hP hD hS hA hl
  have hown : s.vm.findClass RX2 = some m.cls := hown
  have hl : lv_has ls 4 [(0, .ref a0), (1, .ref b0)] := hl
  have ws1 : 1 ≤ sp := hw.1
  have ws2 : sp ≤ 6 := hw.2.1
  have wt : td ≤ 20 := hw.2.2.1
  have wm : md ≤ 60 := hw.2.2.2.1
  have wpb : ∀ i, i < 60 → pf i < 8 := hw.2.2.2.2.1
  have wkb : ∀ i, i < 60 → kf i < 8 := hw.2.2.2.2.2.1
  have wcb : ∀ i, i < td → cf i < 8 := hw.2.2.2.2.2.2.1
  have wnb : ∀ i, i < td → 1 ≤ nf i ∧ nf i ≤ 60 := hw.2.2.2.2.2.2.2
  have hc0 : cf 0 < 8 := wcb 0 ht1
  have hn0 := wnb 0 ht1
  have hq_0 : ∀ w ∈ wsX20, w ∈ wsX2_knotNext := by decide +kernel
  have hq_1 : (Cond.fieldLink RX2 18 "KnotRugs$Weaver" "toldColours" "[I").before args s = true := hts _ (by decide +kernel)
  have hq_2 : va_Nw (.methodLinkNest RX2 44 yX3_at RX3) s := hK.2.1 (RX2, 44, yX3_at) (List.mem_of_getElem? (i := 8) rfl)
  have hq_3 : (Cond.initialized RX3).before args s = true := hts _ (by decide +kernel)
  have hq_4 : (Cond.static yX3_at).before args s = true := hts _ (by decide +kernel)
  have hq_5 : (Cond.fieldLink RX2 15 "KnotRugs$Weaver" "knotted" "[I").before args s = true := hts _ (by decide +kernel)
  have hq_6 : (Cond.fieldLink RX2 31 "KnotRugs$Weaver" "made" "I").before args s = true := hts _ (by decide +kernel)
  have hq_7 : va_Nw (.methodLinkNest RX2 48 yX3_put RX3) s := hK.2.1 (RX2, 48, yX3_put) (List.mem_of_getElem? (i := 9) rfl)
  have hq_8 : (Cond.static yX3_put).before args s = true := hts _ (by decide +kernel)
  have hq_9 : (Cond.fieldLink RX2 34 "KnotRugs$Weaver" "inAnotherColour" "I").before args s = true := hts _ (by decide +kernel)
  refine lv_aload_n hx hb dX2_knotNext_0 rfl (lv_at hl 0 rfl) ?_
  refine va_get (D := G.1) (ci := 2) (v := .ref a3) (C := RX2) (T := TX2) (N := 9) hx hb hts hq_0 hown hK.1 hP 0 rfl rfl 3 (by decide) hq_1 (fun _ h9 => h9) rfl dX2_knotNext_1 ?_
  refine lv_iconst (v := nI 0) hx hb dX2_knotNext_4 (by decide) ?_
  refine k_calli (fun _ => [kO a0 2 [.int (nI sd), .ref a1, .ref a2, .ref a3, .ref a4, .int (nI sp), .int (nI td), .int (nI md), .int (nI ot)], kC G a1 60 (nR pf), kC G a2 60 (nR kf), kC G a3 20 (nR cf), kC G a4 20 (nR nf), kO b0 0 [.ref b1], kC G b1 8 (nR bf)]) [kO a0 2 [.int (nI sd), .ref a1, .ref a2, .ref a3, .ref a4, .int (nI sp), .int (nI td), .int (nI md), .int (nI ot)], kC G a1 60 (nR pf), kC G a2 60 (nR kf), kC G a4 20 (nR nf), kO b0 0 [.ref b1], kC G b1 8 (nR bf)] (k_runSN (As := [.ref a3, .int (nI 0)]) (rest := []) (wc := [kC G a3 20 (nR cf)]) ⟨hx, hb, hml, hown, hts⟩ (c_at l G a3 20 cf 0 (by omega) (by decide)) ⟨va_cnB (host := RX3) (index := 44) (own := RX2) 2 hts gX2_knotNext_X3_at_n44 rfl rfl rfl hq_2 hq_3 (by decide +kernel) ⟨Nat.le_of_ble_eq_true rfl, Nat.le_of_ble_eq_true rfl⟩, hq_4, trivial⟩ hK hZ hP hD hS hA [3] rfl rfl rfl hl.1 rfl (Nat.le_of_ble_eq_true rfl) dX2_knotNext_5 ⟨Nat.le_of_ble_eq_true rfl, Nat.le_of_ble_eq_true rfl⟩) hP hD hS hA [3] [0, 1, 2, 4, 5, 6] [0, 1, 2, 6, 3, 4, 5] rfl rfl rfl (by decide) (fun _ => rfl) rfl (fun r_5 u_5 H locs hp_5 hP hD hS => ?_)
  have hp_5 : r_5 = nI (cf 0) := hp_5
  subst hp_5
  refine lv_istore_n (lv' := [(2, .int (nI (cf 0))), (0, .ref a0), (1, .ref b0)]) hx hb dX2_knotNext_8 rfl hl (by decide) rfl (fun ls hl => ?_)
  refine lv_aload_n hx hb dX2_knotNext_9 rfl (lv_at hl 2 rfl) ?_
  refine lv_iload_n hx hb dX2_knotNext_10 rfl (lv_at hl 0 rfl) ?_
  refine k_calli (fun _ => [kO a0 2 [.int (nI sd), .ref a1, .ref a2, .ref a3, .ref a4, .int (nI sp), .int (nI td), .int (nI md), .int (nI ot)], kC G a1 60 (nR pf), kC G a2 60 (nR kf), kC G a3 20 (nR cf), kC G a4 20 (nR nf), kO b0 0 [.ref b1], kC G b1 8 (nR (takeB bf (cf 0)))]) [kO a0 2 [.int (nI sd), .ref a1, .ref a2, .ref a3, .ref a4, .int (nI sp), .int (nI td), .int (nI md), .int (nI ot)], kC G a1 60 (nR pf), kC G a2 60 (nR kf), kC G a3 20 (nR cf), kC G a4 20 (nR nf)] (k_runV (As := [.int (nI (cf 0))]) (rest := []) (wc := [kO b0 0 [.ref b1], kC G b1 8 (nR bf)]) ⟨hx, hb, hml, hown, hts⟩ (c_take l G b0 b1 bf (cf 0) hc0 hB) (cwV 1 hts gX2_knotNext_X0_take rfl rfl rfl (by decide +kernel) ⟨Nat.le_of_ble_eq_true rfl, Nat.le_of_ble_eq_true rfl⟩) hK hZ hP hD hS hA [5, 6] rfl rfl 0 0 rfl rfl rfl rfl hl.1 rfl (Nat.le_of_ble_eq_true rfl) dX2_knotNext_11 ⟨Nat.le_of_ble_eq_true rfl, Nat.le_of_ble_eq_true rfl⟩) hP hD hS hA [5, 6] [0, 1, 2, 3, 4] [0, 1, 2, 3, 4, 5, 6] rfl rfl rfl (by decide) (fun _ => rfl) rfl (fun r_11 u_11 H locs hp_11 hP hD hS => ?_)
  have hp_11 : r_11 = takeR bf (cf 0) := hp_11
  subst hp_11
  have hby8 : takeBy bf (cf 0) ≤ 8 := by have := tk_le (B := bf) (c := cf 0) 8 0; unfold takeBy; omega
  rcases Nat.lt_or_ge (takeBy bf (cf 0)) 8 with hby | hby
  · have htr : takeR bf (cf 0) = nI ((cf 0 + takeBy bf (cf 0)) % 8) := (takeR_t hby rfl).symm
    rw [htr]
    refine lv_istore_n (lv' := [(3, .int (nI ((cf 0 + takeBy bf (cf 0)) % 8))), (2, .int (nI (cf 0))), (0, .ref a0), (1, .ref b0)]) hx hb dX2_knotNext_14 rfl hl (by decide) rfl (fun ls hl => ?_)
    refine lv_iload_n hx hb dX2_knotNext_15 rfl (lv_at hl 0 rfl) ?_
    refine lv_iconst (v := (-1)) hx hb dX2_knotNext_16 (by decide) ?_
    refine lv_icmp_ne (tgt := 22) hx hb dX2_knotNext_17 (by decide) (fun c_17 => ?_) (fun c_17 => absurd c_17 (nI_m1 (by omega)))
    refine lv_aload_n hx hb dX2_knotNext_22 rfl (lv_at hl 2 rfl) ?_
    refine va_get (D := G.1) (ci := 2) (v := .ref a2) (C := RX2) (T := TX2) (N := 9) hx hb hts hq_0 hown hK.1 hP 0 rfl rfl 2 (by decide) hq_5 (fun _ h9 => h9) rfl dX2_knotNext_23 ?_
    refine lv_aload_n hx hb dX2_knotNext_26 rfl (lv_at hl 2 rfl) ?_
    refine va_get (D := G.1) (ci := 2) (v := .int (nI md)) (C := RX2) (T := TX2) (N := 9) hx hb hts hq_0 hown hK.1 hP 0 rfl rfl 7 (by decide) hq_6 (fun _ h9 => h9) rfl dX2_knotNext_27 ?_
    refine lv_iload_n hx hb dX2_knotNext_30 rfl (lv_at hl 0 rfl) ?_
    refine k_callv (fun _ => [kO a0 2 [.int (nI sd), .ref a1, .ref a2, .ref a3, .ref a4, .int (nI sp), .int (nI td), .int (nI md), .int (nI ot)], kC G a1 60 (nR pf), kC G a2 60 (nR (updN kf md ((cf 0 + takeBy bf (cf 0)) % 8))), kC G a3 20 (nR cf), kC G a4 20 (nR nf), kO b0 0 [.ref b1], kC G b1 8 (nR (takeB bf (cf 0)))]) [kO a0 2 [.int (nI sd), .ref a1, .ref a2, .ref a3, .ref a4, .int (nI sp), .int (nI td), .int (nI md), .int (nI ot)], kC G a1 60 (nR pf), kC G a3 20 (nR cf), kC G a4 20 (nR nf), kO b0 0 [.ref b1], kC G b1 8 (nR (takeB bf (cf 0)))] (k_runSN (As := [.ref a2, .int (nI md), .int (nI ((cf 0 + takeBy bf (cf 0)) % 8))]) (rest := []) (wc := [kC G a2 60 (nR kf)]) ⟨hx, hb, hml, hown, hts⟩ (c_put l G a2 60 kf md ((cf 0 + takeBy bf (cf 0)) % 8) hm (by decide)) ⟨va_cnB (host := RX3) (index := 48) (own := RX2) 3 hts gX2_knotNext_X3_put_n48 rfl rfl rfl hq_7 hq_3 (by decide +kernel) ⟨Nat.le_of_ble_eq_true rfl, Nat.le_of_ble_eq_true rfl⟩, hq_8, trivial⟩ hK hZ hP hD hS hA [2] rfl rfl rfl hl.1 rfl (Nat.le_of_ble_eq_true rfl) dX2_knotNext_31 ⟨Nat.le_of_ble_eq_true rfl, Nat.le_of_ble_eq_true rfl⟩) hP hD hS hA [2] [0, 1, 3, 4, 5, 6] [0, 1, 6, 2, 3, 4, 5] rfl rfl rfl (by decide) (fun _ => rfl) rfl (fun u_31 H locs hp_31 hP hD hS => ?_)
    refine lv_aload_n hx hb dX2_knotNext_34 rfl (lv_at hl 2 rfl) ?_
    refine lv_dup hx hb dX2_knotNext_35 rfl ?_
    refine va_get (D := G.1) (ci := 2) (v := .int (nI md)) (C := RX2) (T := TX2) (N := 9) hx hb hts hq_0 hown hK.1 hP 0 rfl rfl 7 (by decide) hq_6 (fun _ h9 => h9) rfl dX2_knotNext_36 ?_
    refine lv_iconst (v := nI 1) hx hb dX2_knotNext_39 (by decide) ?_
    refine lv_iadd hx hb dX2_knotNext_40 ?_
    refine lv_topi (fun y_1 hy_1 => ?_)
    obtain rfl : y_1 = nI (md + 1) := hy_1.trans (nI_add md 1)
    refine va_put (D := G.1) (ci := 2) (v := .int (nI (md + 1))) (ty := .int) (C := RX2) (T := TX2) (N := 9) hx hb hts hq_0 tyX2 tyX2_ok nmX2 hown hK.1 hP hD hS 0 rfl rfl 7 (by decide) hq_6 (fun _ h9 => h9) rfl (by decide +kernel) rfl rfl (Nat.le_of_ble_eq_true rfl) dX2_knotNext_41 (fun H locs hP hD hS => ?_)
    have hP : va_P G.1 vwCl [kO a0 2 [.int (nI sd), .ref a1, .ref a2, .ref a3, .ref a4, .int (nI sp), .int (nI td), .int (nI (md + 1)), .int (nI ot)], kC G a1 60 (nR pf), kC G a2 60 (nR (updN kf md ((cf 0 + takeBy bf (cf 0)) % 8))), kC G a3 20 (nR cf), kC G a4 20 (nR nf), kO b0 0 [.ref b1], kC G b1 8 (nR (takeB bf (cf 0)))] H := hP
    have hD : va_D A [kO a0 2 [.int (nI sd), .ref a1, .ref a2, .ref a3, .ref a4, .int (nI sp), .int (nI td), .int (nI (md + 1)), .int (nI ot)], kC G a1 60 (nR pf), kC G a2 60 (nR (updN kf md ((cf 0 + takeBy bf (cf 0)) % 8))), kC G a3 20 (nR cf), kC G a4 20 (nR nf), kO b0 0 [.ref b1], kC G b1 8 (nR (takeB bf (cf 0)))] := hD
    refine lv_iload_n hx hb dX2_knotNext_44 rfl (lv_at hl 0 rfl) ?_
    refine lv_iload_n hx hb dX2_knotNext_45 rfl (lv_at hl 1 rfl) ?_
    refine lv_icmp_eq (tgt := 59) hx hb dX2_knotNext_46 (by decide) (fun c_46 => ?_) (fun c_46 => ?_)
    · have c_46 : ((cf 0 + takeBy bf (cf 0)) % 8) = (cf 0) := (nI_eq (a := ((cf 0 + takeBy bf (cf 0)) % 8)) (b := (cf 0)) (by omega) (by omega)).mp c_46
      have hot : takeBy bf (cf 0) = 0 := by omega
      refine lv_aload_n hx hb dX2_knotNext_59 rfl (lv_at hl 2 rfl) ?_
      refine k_callv (fun _ => [kO a0 2 [.int (nI sd), .ref a1, .ref a2, .ref a3, .ref a4, .int (nI sp), .int (nI (shT nf td)), .int (nI (md + 1)), .int (nI ot)], kC G a1 60 (nR pf), kC G a2 60 (nR (updN kf md ((cf 0 + takeBy bf (cf 0)) % 8))), kC G a3 20 (nR (shC cf nf td)), kC G a4 20 (nR (shN nf td)), kO b0 0 [.ref b1], kC G b1 8 (nR (takeB bf (cf 0)))]) [kO b0 0 [.ref b1], kC G b1 8 (nR (takeB bf (cf 0)))] (k_runV (As := []) (rest := []) (wc := [kO a0 2 [.int (nI sd), .ref a1, .ref a2, .ref a3, .ref a4, .int (nI sp), .int (nI td), .int (nI (md + 1)), .int (nI ot)], kC G a1 60 (nR pf), kC G a2 60 (nR (updN kf md ((cf 0 + takeBy bf (cf 0)) % 8))), kC G a3 20 (nR cf), kC G a4 20 (nR nf)]) ⟨hx, hb, hml, hown, hts⟩ (c_shorten l G a0 a1 a2 a3 a4 sd pf (updN kf md ((cf 0 + takeBy bf (cf 0)) % 8)) cf nf sp td (md + 1) ot ht1 wt hn0) (cwV 0 hts gX2_knotNext_X2_shortenFirstRun rfl rfl rfl (by decide +kernel) ⟨Nat.le_of_ble_eq_true rfl, Nat.le_of_ble_eq_true rfl⟩) hK hZ hP hD hS hA [0, 1, 2, 3, 4] rfl rfl 0 2 rfl rfl rfl rfl hl.1 rfl (Nat.le_of_ble_eq_true rfl) dX2_knotNext_60 ⟨Nat.le_of_ble_eq_true rfl, Nat.le_of_ble_eq_true rfl⟩) hP hD hS hA [0, 1, 2, 3, 4] [5, 6] [2, 3, 4, 5, 6, 0, 1] rfl rfl rfl (by decide) (fun _ => rfl) rfl (fun u_60 H locs hp_60 hP hD hS => ?_)
      refine lv_iconst (v := nI 1) hx hb dX2_knotNext_63 (by decide) ?_
      exact k_zret (ws := [kO a0 2 [.int (nI sd), .ref a1, .ref a2, .ref a3, .ref a4, .int (nI sp), .int (nI td), .int (nI md), .int (nI ot)], kC G a1 60 (nR pf), kC G a2 60 (nR kf), kC G a3 20 (nR cf), kC G a4 20 (nR nf), kO b0 0 [.ref b1], kC G b1 8 (nR bf)]) ((knW (pf, kf, cf, nf, sp, td, md, ot) bf, takeB bf (cf 0))) hx hb hr rfl hlocks hP hD hS hAe hQ (Nat.le_of_ble_eq_true rfl) (Nat.le_of_ble_eq_true rfl) dX2_knotNext_64 (by simp only [knW, vP, vK, vC, vN, vS, vT, vM, vO]; first | rw [if_pos hot] | rw [if_neg hot]) (Or.inl ⟨rfl, hby, rfl⟩)
    · have c_46 : ¬ (((cf 0 + takeBy bf (cf 0)) % 8) = (cf 0)) := fun h9 => c_46 ((nI_eq (a := ((cf 0 + takeBy bf (cf 0)) % 8)) (b := (cf 0)) (by omega) (by omega)).mpr h9)
      have hot : ¬ takeBy bf (cf 0) = 0 := by omega
      refine lv_aload_n hx hb dX2_knotNext_49 rfl (lv_at hl 2 rfl) ?_
      refine lv_dup hx hb dX2_knotNext_50 rfl ?_
      refine va_get (D := G.1) (ci := 2) (v := .int (nI ot)) (C := RX2) (T := TX2) (N := 9) hx hb hts hq_0 hown hK.1 hP 0 rfl rfl 8 (by decide) hq_9 (fun _ h9 => h9) rfl dX2_knotNext_51 ?_
      refine lv_iconst (v := nI 1) hx hb dX2_knotNext_54 (by decide) ?_
      refine lv_iadd hx hb dX2_knotNext_55 ?_
      refine lv_topi (fun y_2 hy_2 => ?_)
      obtain rfl : y_2 = nI (ot + 1) := hy_2.trans (nI_add ot 1)
      refine va_put (D := G.1) (ci := 2) (v := .int (nI (ot + 1))) (ty := .int) (C := RX2) (T := TX2) (N := 9) hx hb hts hq_0 tyX2 tyX2_ok nmX2 hown hK.1 hP hD hS 0 rfl rfl 8 (by decide) hq_9 (fun _ h9 => h9) rfl (by decide +kernel) rfl rfl (Nat.le_of_ble_eq_true rfl) dX2_knotNext_56 (fun H locs hP hD hS => ?_)
      have hP : va_P G.1 vwCl [kO a0 2 [.int (nI sd), .ref a1, .ref a2, .ref a3, .ref a4, .int (nI sp), .int (nI td), .int (nI (md + 1)), .int (nI (ot + 1))], kC G a1 60 (nR pf), kC G a2 60 (nR (updN kf md ((cf 0 + takeBy bf (cf 0)) % 8))), kC G a3 20 (nR cf), kC G a4 20 (nR nf), kO b0 0 [.ref b1], kC G b1 8 (nR (takeB bf (cf 0)))] H := hP
      have hD : va_D A [kO a0 2 [.int (nI sd), .ref a1, .ref a2, .ref a3, .ref a4, .int (nI sp), .int (nI td), .int (nI (md + 1)), .int (nI (ot + 1))], kC G a1 60 (nR pf), kC G a2 60 (nR (updN kf md ((cf 0 + takeBy bf (cf 0)) % 8))), kC G a3 20 (nR cf), kC G a4 20 (nR nf), kO b0 0 [.ref b1], kC G b1 8 (nR (takeB bf (cf 0)))] := hD
      refine lv_aload_n hx hb dX2_knotNext_59 rfl (lv_at hl 2 rfl) ?_
      refine k_callv (fun _ => [kO a0 2 [.int (nI sd), .ref a1, .ref a2, .ref a3, .ref a4, .int (nI sp), .int (nI (shT nf td)), .int (nI (md + 1)), .int (nI (ot + 1))], kC G a1 60 (nR pf), kC G a2 60 (nR (updN kf md ((cf 0 + takeBy bf (cf 0)) % 8))), kC G a3 20 (nR (shC cf nf td)), kC G a4 20 (nR (shN nf td)), kO b0 0 [.ref b1], kC G b1 8 (nR (takeB bf (cf 0)))]) [kO b0 0 [.ref b1], kC G b1 8 (nR (takeB bf (cf 0)))] (k_runV (As := []) (rest := []) (wc := [kO a0 2 [.int (nI sd), .ref a1, .ref a2, .ref a3, .ref a4, .int (nI sp), .int (nI td), .int (nI (md + 1)), .int (nI (ot + 1))], kC G a1 60 (nR pf), kC G a2 60 (nR (updN kf md ((cf 0 + takeBy bf (cf 0)) % 8))), kC G a3 20 (nR cf), kC G a4 20 (nR nf)]) ⟨hx, hb, hml, hown, hts⟩ (c_shorten l G a0 a1 a2 a3 a4 sd pf (updN kf md ((cf 0 + takeBy bf (cf 0)) % 8)) cf nf sp td (md + 1) (ot + 1) ht1 wt hn0) (cwV 0 hts gX2_knotNext_X2_shortenFirstRun rfl rfl rfl (by decide +kernel) ⟨Nat.le_of_ble_eq_true rfl, Nat.le_of_ble_eq_true rfl⟩) hK hZ hP hD hS hA [0, 1, 2, 3, 4] rfl rfl 0 2 rfl rfl rfl rfl hl.1 rfl (Nat.le_of_ble_eq_true rfl) dX2_knotNext_60 ⟨Nat.le_of_ble_eq_true rfl, Nat.le_of_ble_eq_true rfl⟩) hP hD hS hA [0, 1, 2, 3, 4] [5, 6] [2, 3, 4, 5, 6, 0, 1] rfl rfl rfl (by decide) (fun _ => rfl) rfl (fun u_60 H locs hp_60 hP hD hS => ?_)
      refine lv_iconst (v := nI 1) hx hb dX2_knotNext_63 (by decide) ?_
      exact k_zret (ws := [kO a0 2 [.int (nI sd), .ref a1, .ref a2, .ref a3, .ref a4, .int (nI sp), .int (nI td), .int (nI md), .int (nI ot)], kC G a1 60 (nR pf), kC G a2 60 (nR kf), kC G a3 20 (nR cf), kC G a4 20 (nR nf), kO b0 0 [.ref b1], kC G b1 8 (nR bf)]) ((knW (pf, kf, cf, nf, sp, td, md, ot) bf, takeB bf (cf 0))) hx hb hr rfl hlocks hP hD hS hAe hQ (Nat.le_of_ble_eq_true rfl) (Nat.le_of_ble_eq_true rfl) dX2_knotNext_64 (by simp only [knW, vP, vK, vC, vN, vS, vT, vM, vO]; first | rw [if_pos hot] | rw [if_neg hot]) (Or.inl ⟨rfl, hby, rfl⟩)
  · have htr : takeR bf (cf 0) = (-1) := (takeR_f (by omega)).symm
    rw [htr]
    refine lv_istore_n (lv' := [(3, .int (-1)), (2, .int (nI (cf 0))), (0, .ref a0), (1, .ref b0)]) hx hb dX2_knotNext_14 rfl hl (by decide) rfl (fun ls hl => ?_)
    refine lv_iload_n hx hb dX2_knotNext_15 rfl (lv_at hl 0 rfl) ?_
    refine lv_iconst (v := (-1)) hx hb dX2_knotNext_16 (by decide) ?_
    refine lv_icmp_ne (tgt := 22) hx hb dX2_knotNext_17 (by decide) (fun c_17 => absurd rfl c_17) (fun c_17 => ?_)
    refine lv_iconst (v := nI 0) hx hb dX2_knotNext_20 (by decide) ?_
    exact k_zret (ws := [kO a0 2 [.int (nI sd), .ref a1, .ref a2, .ref a3, .ref a4, .int (nI sp), .int (nI td), .int (nI md), .int (nI ot)], kC G a1 60 (nR pf), kC G a2 60 (nR kf), kC G a3 20 (nR cf), kC G a4 20 (nR nf), kO b0 0 [.ref b1], kC G b1 8 (nR bf)]) (((pf, kf, cf, nf, sp, td, md, ot), bf)) hx hb hr rfl hlocks hP hD hS hAe hQ (Nat.le_of_ble_eq_true rfl) (Nat.le_of_ble_eq_true rfl) dX2_knotNext_21 (by rw [← takeB_f (by omega)]) (Or.inr ⟨rfl, by omega, rfl⟩)
