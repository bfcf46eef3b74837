set_option maxHeartbeats 4000000 in
set_option maxRecDepth 100000 in
theorem c_workAnHour (l : Launch) (G : kG) (a0 : Nat) (a1 : Nat) (a2 : Nat) (a3 : Nat) (a4 : Nat) (sd : Nat) (pf : Nat → Nat) (kf : Nat → Nat) (cf : Nat → Nat) (nf : Nat → Nat) (sp : Nat) (td : Nat) (md : Nat) (ot : Nat) (b0 : Nat) (b1 : Nat) (bf : Nat → Nat) (hw : wOk (pf, kf, cf, nf, sp, td, md, ot)) (hB : bOk bf) : kM l G yX2_workAnHour wsX2_workAnHour ({ frames := 3, cells := 0, slots := 0, locals := 69 } : Room) [.ref a0, .ref b0] [kO a0 2 [.int (nI sd), .ref a1, .ref a2, .ref a3, .ref a4, .int (nI sp), .int (nI td), .int (nI md), .int (nI ot)], kC G a1 60 (nR pf), kC G a2 60 (nR kf), kC G a3 20 (nR cf), kC G a4 20 (nR nf), kO b0 0 [.ref b1], kC G b1 8 (nR bf)] (kQi G [kO a0 2 [.int (nI sd), .ref a1, .ref a2, .ref a3, .ref a4, .int (nI sp), .int (nI td), .int (nI md), .int (nI ot)], kC G a1 60 (nR pf), kC G a2 60 (nR kf), kC G a3 20 (nR cf), kC G a4 20 (nR nf), kO b0 0 [.ref b1], kC G b1 8 (nR bf)] (fun (r : Int32) (_ : Unit) => r = nI ((wk (pf, kf, cf, nf, sp, td, md, ot) bf).2.2)) (fun (_ : Unit) => [kO a0 2 [.int (nI sd), .ref a1, .ref a2, .ref a3, .ref a4, .int (nI (vS (wk (pf, kf, cf, nf, sp, td, md, ot) bf).1)), .int (nI (vT (wk (pf, kf, cf, nf, sp, td, md, ot) bf).1)), .int (nI (vM (wk (pf, kf, cf, nf, sp, td, md, ot) bf).1)), .int (nI (vO (wk (pf, kf, cf, nf, sp, td, md, ot) bf).1))], kC G a1 60 (nR (vP (wk (pf, kf, cf, nf, sp, td, md, ot) bf).1)), kC G a2 60 (nR (vK (wk (pf, kf, cf, nf, sp, td, md, ot) bf).1)), kC G a3 20 (nR (vC (wk (pf, kf, cf, nf, sp, td, md, ot) bf).1)), kC G a4 20 (nR (vN (wk (pf, kf, cf, nf, sp, td, md, ot) bf).1)), kO b0 0 [.ref b1], kC G b1 8 (nR ((wk (pf, kf, cf, nf, sp, td, md, ot) bf).2.1))])) := by
  refine k_ofW (cc := cX2_workAnHour) (maxL := 3) (rt := (some .int)) (by decide) rfl (Nat.le_of_ble_eq_true rfl) ?_
  intro p e s m args below meth c A ls Qs H locs hQ hAe hx hb hr hml hts hown hlocks hin hK hZ hP hD hS hA hl
  have hown : s.vm.findClass RX2 = some m.cls := hown
  have hl : lv_has ls 3 [(0, .ref a0), (1, .ref b0)] := hl
  have hsp0 : sp ≤ 6 := hw.2.1
  have hq_0 : ∀ w ∈ wsX20, w ∈ wsX2_workAnHour := by decide +kernel
  have hq_1 : (Cond.fieldLink RX2 24 "KnotRugs$Weaver" "speed" "I").before args s = true := hts _ (by decide +kernel)
  refine lv_iconst (v := nI 0) hx hb dX2_workAnHour_0 (by decide) ?_
  refine lv_istore_n (lv' := [(2, .int (nI 0)), (0, .ref a0), (1, .ref b0)]) hx hb dX2_workAnHour_1 rfl hl (by decide) rfl (fun ls hl => ?_)
  have loop_2 : ∀ (fu_2 : Nat) (w : Wv) (B : Nat → Nat) (j : Nat), wkI (pf, kf, cf, nf, sp, td, md, ot) bf w B j → sp < j + fu_2 → ∀ (H : Heap) (locs : List Loc) (ls : Array Slot), va_P G.1 vwCl [kO a0 2 [.int (nI sd), .ref a1, .ref a2, .ref a3, .ref a4, .int (nI (vS w)), .int (nI (vT w)), .int (nI (vM w)), .int (nI (vO w))], kC G a1 60 (nR (vP w)), kC G a2 60 (nR (vK w)), kC G a3 20 (nR (vC w)), kC G a4 20 (nR (vN w)), kO b0 0 [.ref b1], kC G b1 8 (nR B)] H → va_D A [kO a0 2 [.int (nI sd), .ref a1, .ref a2, .ref a3, .ref a4, .int (nI (vS w)), .int (nI (vT w)), .int (nI (vM w)), .int (nI (vO w))], kC G a1 60 (nR (vP w)), kC G a2 60 (nR (vK w)), kC G a3 20 (nR (vC w)), kC G a4 20 (nR (vN w)), kO b0 0 [.ref b1], kC G b1 8 (nR B)] → va_S A s.heap H locs → lv_has ls 3 [(0, .ref a0), (1, .ref b0), (2, .int (nI j))] → W p l e ({ frames := 3, cells := 0, slots := 0, locals := 69 } : Room) s m args below meth c H locs 0 0 Qs (F0 m 2 ls []) := by
    intro fu_2
    induction fu_2 with
    | zero =>
      intro w B j hI hf
      have hj : j ≤ sp := hI.1; exact absurd hf (by omega)
    | succ fu_2 ih_2 =>
      intro w B j hI hf H locs ls hP hD hS hl
      have hwo : wOk w := hI.2.2.1
      have hBo : bOk B := hI.2.2.2.1
      have hsp : vS w = sp := hI.2.1
      have q1 : vT w ≤ 20 := hwo.2.2.1
      have q2 : vM w ≤ 60 := hwo.2.2.2.1
      have hj : j ≤ sp := hI.1
      refine lv_iload_n hx hb dX2_workAnHour_2 rfl (lv_at hl 2 rfl) ?_
      refine lv_aload_n hx hb dX2_workAnHour_3 rfl (lv_at hl 0 rfl) ?_
      refine va_get (D := G.1) (ci := 2) (v := .int (nI (vS w))) (C := RX2) (T := TX2) (N := 9) hx hb hts hq_0 hown hK.1 hP 0 rfl rfl 5 (by decide) hq_1 (fun _ h9 => h9) rfl dX2_workAnHour_4 ?_
      refine lv_icmp_ge (tgt := 31) hx hb dX2_workAnHour_7 (by decide) (fun c_7 => ?_) (fun c_7 => ?_)
      · have c_7 : (vS w) ≤ j := (nI_leI (a := (vS w)) (b := j) (by omega) (by omega)).mp c_7
        have he := wkI_e hI (by first | exact Or.inl (by show ¬ j < sp; omega) | exact Or.inr (fun q => hp_11 ⟨q.1, q.2.1⟩) | exact Or.inr (fun q => hp_19 q.2.2))
        refine lv_iload_n hx hb dX2_workAnHour_31 rfl (lv_at hl 2 rfl) ?_
        exact k_iret (ws := [kO a0 2 [.int (nI sd), .ref a1, .ref a2, .ref a3, .ref a4, .int (nI sp), .int (nI td), .int (nI md), .int (nI ot)], kC G a1 60 (nR pf), kC G a2 60 (nR kf), kC G a3 20 (nR cf), kC G a4 20 (nR nf), kO b0 0 [.ref b1], kC G b1 8 (nR bf)]) (()) hx hb hr hlocks hP hD hS hAe hQ (Nat.le_of_ble_eq_true rfl) (Nat.le_of_ble_eq_true rfl) dX2_workAnHour_32 (by rw [he.1, he.2.1]) (by rw [he.2.2])
      · have c_7 : ¬ ((vS w) ≤ j) := fun h9 => c_7 ((nI_leI (a := (vS w)) (b := j) (by omega) (by omega)).mpr h9)
        refine lv_aload_n hx hb dX2_workAnHour_10 rfl (lv_at hl 0 rfl) ?_
        refine k_calli (fun u_11 => [kO a0 2 [.int (nI sd), .ref a1, .ref a2, .ref a3, .ref a4, .int (nI (vS w)), .int (nI (vT w)), .int (nI (vM w)), .int (nI (vO w))], kC G a1 60 (nR (vP w)), kC G a2 60 (nR (vK w)), kC G a3 20 (nR (vC w)), kC G a4 20 (nR (vN w)), kO b0 0 [.ref b1], kC G b1 8 (nR B)]) [kO b0 0 [.ref b1], kC G b1 8 (nR B)] (k_runV (As := []) (rest := []) (wc := [kO a0 2 [.int (nI sd), .ref a1, .ref a2, .ref a3, .ref a4, .int (nI (vS w)), .int (nI (vT w)), .int (nI (vM w)), .int (nI (vO w))], kC G a1 60 (nR (vP w)), kC G a2 60 (nR (vK w)), kC G a3 20 (nR (vC w)), kC G a4 20 (nR (vN w))]) ⟨hx, hb, hml, hown, hts⟩ (c_hasWork l G a0 a1 a2 a3 a4 sd (vP w) (vK w) (vC w) (vN w) (vS w) (vT w) (vM w) (vO w) q1 q2) (cwV 0 hts gX2_workAnHour_X2_hasWork rfl rfl rfl (by decide +kernel) ⟨Nat.le_of_ble_eq_true rfl, Nat.le_of_ble_eq_true rfl⟩) hK hZ hP hD hS hA [0, 1, 2, 3, 4] rfl rfl 0 2 rfl rfl rfl rfl hl.1 rfl (Nat.le_of_ble_eq_true rfl) dX2_workAnHour_11 ⟨Nat.le_of_ble_eq_true rfl, Nat.le_of_ble_eq_true rfl⟩) hP hD hS hA [0, 1, 2, 3, 4] [5, 6] [2, 3, 4, 5, 6, 0, 1] rfl rfl rfl (by decide) (fun _ => rfl) rfl (fun r_11 u_11 H locs hp_11 hP hD hS => ?_)
        rcases hp_11 with ⟨rfl, hp_11⟩ | ⟨rfl, hp_11⟩
        · refine lv_if_eq (tgt := 31) hx hb dX2_workAnHour_14 (by decide) (fun c_14 => absurd c_14 (by decide)) (fun c_14 => ?_)
          refine lv_aload_n hx hb dX2_workAnHour_17 rfl (lv_at hl 0 rfl) ?_
          refine lv_aload_n hx hb dX2_workAnHour_18 rfl (lv_at hl 1 rfl) ?_
          refine k_calli (fun u_19 => [kO a0 2 [.int (nI sd), .ref a1, .ref a2, .ref a3, .ref a4, .int (nI (vS u_19.1)), .int (nI (vT u_19.1)), .int (nI (vM u_19.1)), .int (nI (vO u_19.1))], kC G a1 60 (nR (vP u_19.1)), kC G a2 60 (nR (vK u_19.1)), kC G a3 20 (nR (vC u_19.1)), kC G a4 20 (nR (vN u_19.1)), kO b0 0 [.ref b1], kC G b1 8 (nR u_19.2)]) [] (k_runV (As := [.ref b0]) (rest := []) (wc := [kO a0 2 [.int (nI sd), .ref a1, .ref a2, .ref a3, .ref a4, .int (nI (vS w)), .int (nI (vT w)), .int (nI (vM w)), .int (nI (vO w))], kC G a1 60 (nR (vP w)), kC G a2 60 (nR (vK w)), kC G a3 20 (nR (vC w)), kC G a4 20 (nR (vN w)), kO b0 0 [.ref b1], kC G b1 8 (nR B)]) ⟨hx, hb, hml, hown, hts⟩ (c_knotNext l G a0 a1 a2 a3 a4 sd (vP w) (vK w) (vC w) (vN w) (vS w) (vT w) (vM w) (vO w) b0 b1 B hwo hBo hp_11.1 hp_11.2) (cwV 1 hts gX2_workAnHour_X2_knotNext rfl rfl rfl (by decide +kernel) ⟨Nat.le_of_ble_eq_true rfl, Nat.le_of_ble_eq_true rfl⟩) hK hZ hP hD hS hA [0, 1, 2, 3, 4, 5, 6] rfl rfl 0 2 rfl rfl rfl rfl hl.1 rfl (Nat.le_of_ble_eq_true rfl) dX2_workAnHour_19 ⟨Nat.le_of_ble_eq_true rfl, Nat.le_of_ble_eq_true rfl⟩) hP hD hS hA [0, 1, 2, 3, 4, 5, 6] [] [0, 1, 2, 3, 4, 5, 6] rfl rfl rfl (by decide) (fun _ => rfl) rfl (fun r_19 u_19 H locs hp_19 hP hD hS => ?_)
          rcases hp_19 with ⟨rfl, hp_19, rfl⟩ | ⟨rfl, hp_19, rfl⟩
          · have hP : va_P G.1 vwCl [kO a0 2 [.int (nI sd), .ref a1, .ref a2, .ref a3, .ref a4, .int (nI (vS (knW w B))), .int (nI (vT (knW w B))), .int (nI (vM (knW w B))), .int (nI (vO (knW w B)))], kC G a1 60 (nR (vP (knW w B))), kC G a2 60 (nR (vK (knW w B))), kC G a3 20 (nR (vC (knW w B))), kC G a4 20 (nR (vN (knW w B))), kO b0 0 [.ref b1], kC G b1 8 (nR (takeB B (vC w 0)))] H := hP
            have hD : va_D A [kO a0 2 [.int (nI sd), .ref a1, .ref a2, .ref a3, .ref a4, .int (nI (vS (knW w B))), .int (nI (vT (knW w B))), .int (nI (vM (knW w B))), .int (nI (vO (knW w B)))], kC G a1 60 (nR (vP (knW w B))), kC G a2 60 (nR (vK (knW w B))), kC G a3 20 (nR (vC (knW w B))), kC G a4 20 (nR (vN (knW w B))), kO b0 0 [.ref b1], kC G b1 8 (nR (takeB B (vC w 0)))] := hD
            refine lv_if_eq (tgt := 31) hx hb dX2_workAnHour_22 (by decide) (fun c_22 => absurd c_22 (by decide)) (fun c_22 => ?_)
            refine lv_iinc (v := nI (j + 1)) (lv' := [(2, .int (nI (j + 1))), (0, .ref a0), (1, .ref b0)]) hx hb dX2_workAnHour_25 hl (k := 2) rfl (nI_add j 1) (by decide) rfl (fun ls hl => ?_)
            refine lv_goto (tgt := 2) hx hb dX2_workAnHour_28 (by decide) ?_
            exact ih_2 (knW w B) (takeB B (vC w 0)) (j + 1) (wkI_s hI (by show j < sp; omega) hp_11.1 hp_11.2 hp_19) (by omega) _ _ _ hP hD hS (lv_sub hl [1, 2, 0] rfl)
          · have hP : va_P G.1 vwCl [kO a0 2 [.int (nI sd), .ref a1, .ref a2, .ref a3, .ref a4, .int (nI (vS w)), .int (nI (vT w)), .int (nI (vM w)), .int (nI (vO w))], kC G a1 60 (nR (vP w)), kC G a2 60 (nR (vK w)), kC G a3 20 (nR (vC w)), kC G a4 20 (nR (vN w)), kO b0 0 [.ref b1], kC G b1 8 (nR B)] H := hP
            have hD : va_D A [kO a0 2 [.int (nI sd), .ref a1, .ref a2, .ref a3, .ref a4, .int (nI (vS w)), .int (nI (vT w)), .int (nI (vM w)), .int (nI (vO w))], kC G a1 60 (nR (vP w)), kC G a2 60 (nR (vK w)), kC G a3 20 (nR (vC w)), kC G a4 20 (nR (vN w)), kO b0 0 [.ref b1], kC G b1 8 (nR B)] := hD
            refine lv_if_eq (tgt := 31) hx hb dX2_workAnHour_22 (by decide) (fun c_22 => ?_) (fun c_22 => absurd c_22 (by decide))
            have he := wkI_e hI (by first | exact Or.inl (by show ¬ j < sp; omega) | exact Or.inr (fun q => hp_11 ⟨q.1, q.2.1⟩) | exact Or.inr (fun q => hp_19 q.2.2))
            refine lv_iload_n hx hb dX2_workAnHour_31 rfl (lv_at hl 2 rfl) ?_
            exact k_iret (ws := [kO a0 2 [.int (nI sd), .ref a1, .ref a2, .ref a3, .ref a4, .int (nI sp), .int (nI td), .int (nI md), .int (nI ot)], kC G a1 60 (nR pf), kC G a2 60 (nR kf), kC G a3 20 (nR cf), kC G a4 20 (nR nf), kO b0 0 [.ref b1], kC G b1 8 (nR bf)]) (()) hx hb hr hlocks hP hD hS hAe hQ (Nat.le_of_ble_eq_true rfl) (Nat.le_of_ble_eq_true rfl) dX2_workAnHour_32 (by rw [he.1, he.2.1]) (by rw [he.2.2])
        · refine lv_if_eq (tgt := 31) hx hb dX2_workAnHour_14 (by decide) (fun c_14 => ?_) (fun c_14 => absurd c_14 (by decide))
          have he := wkI_e hI (by first | exact Or.inl (by show ¬ j < sp; omega) | exact Or.inr (fun q => hp_11 ⟨q.1, q.2.1⟩) | exact Or.inr (fun q => hp_19 q.2.2))
          refine lv_iload_n hx hb dX2_workAnHour_31 rfl (lv_at hl 2 rfl) ?_
          exact k_iret (ws := [kO a0 2 [.int (nI sd), .ref a1, .ref a2, .ref a3, .ref a4, .int (nI sp), .int (nI td), .int (nI md), .int (nI ot)], kC G a1 60 (nR pf), kC G a2 60 (nR kf), kC G a3 20 (nR cf), kC G a4 20 (nR nf), kO b0 0 [.ref b1], kC G b1 8 (nR bf)]) (()) hx hb hr hlocks hP hD hS hAe hQ (Nat.le_of_ble_eq_true rfl) (Nat.le_of_ble_eq_true rfl) dX2_workAnHour_32 (by rw [he.1, he.2.1]) (by rw [he.2.2])
  exact loop_2 (sp + 1) (pf, kf, cf, nf, sp, td, md, ot) bf 0 (wkI_0 hw hB) (by omega) H locs ls hP hD hS (lv_sub hl [1, 2, 0] rfl)
set_option maxHeartbeats 4000000 in
set_option maxRecDepth 100000 in
theorem c_undo (l : Launch) (G : kG) (a0 : Nat) (a1 : Nat) (a2 : Nat) (a3 : Nat) (a4 : Nat) (sd : Nat) (pf : Nat → Nat) (kf : Nat → Nat) (cf : Nat → Nat) (nf : Nat → Nat) (sp : Nat) (td : Nat) (md : Nat) (ot : Nat) (b0 : Nat) (b1 : Nat) (bf : Nat → Nat) (k : Nat) (hw : wOk (pf, kf, cf, nf, sp, td, md, ot)) (hB : bOk bf) (hk : k ≤ md) : kM l G yX2_undo wsX2_undo ({ frames := 2, cells := 0, slots := 0, locals := 45 } : Room) [.ref a0, .int (nI k), .ref b0] [kO a0 2 [.int (nI sd), .ref a1, .ref a2, .ref a3, .ref a4, .int (nI sp), .int (nI td), .int (nI md), .int (nI ot)], kC G a1 60 (nR pf), kC G a2 60 (nR kf), kC G a3 20 (nR cf), kC G a4 20 (nR nf), kO b0 0 [.ref b1], kC G b1 8 (nR bf)] (kQv G [kO a0 2 [.int (nI sd), .ref a1, .ref a2, .ref a3, .ref a4, .int (nI sp), .int (nI td), .int (nI md), .int (nI ot)], kC G a1 60 (nR pf), kC G a2 60 (nR kf), kC G a3 20 (nR cf), kC G a4 20 (nR nf), kO b0 0 [.ref b1], kC G b1 8 (nR bf)] (fun (_ : Unit) => True) (fun (_ : Unit) => [kO a0 2 [.int (nI sd), .ref a1, .ref a2, .ref a3, .ref a4, .int (nI sp), .int (nI td), .int (nI (md - k)), .int (nI ot)], kC G a1 60 (nR pf), kC G a2 60 (nR kf), kC G a3 20 (nR cf), kC G a4 20 (nR nf), kO b0 0 [.ref b1], kC G b1 8 (nR (unB kf bf (md - k) k))])) := by
  refine k_ofW (cc := cX2_undo) (maxL := 4) (rt := none) (by decide) rfl (Nat.le_of_ble_eq_true rfl) ?_
  intro p e s m args below meth c A ls Qs H locs hQ hAe hx hb hr hml hts hown hlocks hin hK hZ hP hD hS hA hl
  have hown : s.vm.findClass RX2 = some m.cls := hown
  have hl : lv_has ls 4 [(0, .ref a0), (1, .int (nI k)), (2, .ref b0)] := hl
  have ws1 : 1 ≤ sp := hw.1
  have ws2 : sp ≤ 6 := hw.2.1
  have wt : td ≤ 20 := hw.2.2.1
  have wm : md ≤ 60 := hw.2.2.2.1
  have wpb : ∀ i, i < 60 → pf i < 8 := hw.2.2.2.2.1
  have wkb : ∀ i, i < 60 → kf i < 8 := hw.2.2.2.2.2.1
  have wcb : ∀ i, i < td → cf i < 8 := hw.2.2.2.2.2.2.1
  have wnb : ∀ i, i < td → 1 ≤ nf i ∧ nf i ≤ 60 := hw.2.2.2.2.2.2.2
  have hq_0 : ∀ w ∈ wsX20, w ∈ wsX2_undo := by decide +kernel
  have hq_1 : (Cond.fieldLink RX2 31 "KnotRugs$Weaver" "made" "I").before args s = true := hts _ (by decide +kernel)
  have hq_2 : (Cond.fieldLink RX2 15 "KnotRugs$Weaver" "knotted" "[I").before args s = true := hts _ (by decide +kernel)
  have hq_3 : va_Nw (.methodLinkNest RX2 44 yX3_at RX3) s := hK.2.1 (RX2, 44, yX3_at) (List.mem_of_getElem? (i := 8) rfl)
  have hq_4 : (Cond.initialized RX3).before args s = true := hts _ (by decide +kernel)
  have hq_5 : (Cond.static yX3_at).before args s = true := hts _ (by decide +kernel)
  refine lv_iconst (v := nI 0) hx hb dX2_undo_0 (by decide) ?_
  refine lv_istore_n (lv' := [(3, .int (nI 0)), (0, .ref a0), (1, .int (nI k)), (2, .ref b0)]) hx hb dX2_undo_1 rfl hl (by decide) rfl (fun ls hl => ?_)
  have loop_2 : ∀ (fu_2 : Nat) (i : Nat), i ≤ k → k < i + fu_2 → ∀ (H : Heap) (locs : List Loc) (ls : Array Slot), va_P G.1 vwCl [kO a0 2 [.int (nI sd), .ref a1, .ref a2, .ref a3, .ref a4, .int (nI sp), .int (nI td), .int (nI (md - i)), .int (nI ot)], kC G a1 60 (nR pf), kC G a2 60 (nR kf), kC G a3 20 (nR cf), kC G a4 20 (nR nf), kO b0 0 [.ref b1], kC G b1 8 (nR (unB kf bf (md - i) i))] H → va_D A [kO a0 2 [.int (nI sd), .ref a1, .ref a2, .ref a3, .ref a4, .int (nI sp), .int (nI td), .int (nI (md - i)), .int (nI ot)], kC G a1 60 (nR pf), kC G a2 60 (nR kf), kC G a3 20 (nR cf), kC G a4 20 (nR nf), kO b0 0 [.ref b1], kC G b1 8 (nR (unB kf bf (md - i) i))] → va_S A s.heap H locs → lv_has ls 4 [(0, .ref a0), (1, .int (nI k)), (2, .ref b0), (3, .int (nI i))] → W p l e ({ frames := 2, cells := 0, slots := 0, locals := 45 } : Room) s m args below meth c H locs 0 0 Qs (F0 m 2 ls []) := by
    intro fu_2
    induction fu_2 with
    | zero =>
      intro i hi hf
      exact absurd hf (by omega)
    | succ fu_2 ih_2 =>
      intro i hi hf H locs ls hP hD hS hl
      refine lv_iload_n hx hb dX2_undo_2 rfl (lv_at hl 3 rfl) ?_
      refine lv_iload_n hx hb dX2_undo_3 rfl (lv_at hl 1 rfl) ?_
      refine lv_icmp_ge (tgt := 40) hx hb dX2_undo_4 (by decide) (fun c_4 => ?_) (fun c_4 => ?_)
      · have c_4 : k ≤ i := (nI_leI (a := k) (b := i) (by omega) (by omega)).mp c_4
        have hi9 : i = k := by omega
        exact k_vret (ws := [kO a0 2 [.int (nI sd), .ref a1, .ref a2, .ref a3, .ref a4, .int (nI sp), .int (nI td), .int (nI md), .int (nI ot)], kC G a1 60 (nR pf), kC G a2 60 (nR kf), kC G a3 20 (nR cf), kC G a4 20 (nR nf), kO b0 0 [.ref b1], kC G b1 8 (nR bf)]) (()) hx hb hr hlocks hP hD hS hAe hQ (Nat.le_of_ble_eq_true rfl) (Nat.le_of_ble_eq_true rfl) dX2_undo_40 (by rw [hi9]) (trivial)
      · have c_4 : ¬ (k ≤ i) := fun h9 => c_4 ((nI_leI (a := k) (b := i) (by omega) (by omega)).mpr h9)
        refine lv_aload_n hx hb dX2_undo_7 rfl (lv_at hl 0 rfl) ?_
        refine lv_dup hx hb dX2_undo_8 rfl ?_
        refine va_get (D := G.1) (ci := 2) (v := .int (nI (md - i))) (C := RX2) (T := TX2) (N := 9) hx hb hts hq_0 hown hK.1 hP 0 rfl rfl 7 (by decide) hq_1 (fun _ h9 => h9) rfl dX2_undo_9 ?_
        refine lv_iconst (v := nI 1) hx hb dX2_undo_12 (by decide) ?_
        refine lv_isub hx hb dX2_undo_13 ?_
        refine lv_topi (fun y_1 hy_1 => ?_)
        obtain rfl : y_1 = nI ((md - i) - 1) := hy_1.trans (pk_sub (a := (md - i)) (b := 1) (by omega))
        refine va_put (D := G.1) (ci := 2) (v := .int (nI ((md - i) - 1))) (ty := .int) (C := RX2) (T := TX2) (N := 9) hx hb hts hq_0 tyX2 tyX2_ok nmX2 hown hK.1 hP hD hS 0 rfl rfl 7 (by decide) hq_1 (fun _ h9 => h9) rfl (by decide +kernel) rfl rfl (Nat.le_of_ble_eq_true rfl) dX2_undo_14 (fun H locs hP hD hS => ?_)
        have hP : va_P G.1 vwCl [kO a0 2 [.int (nI sd), .ref a1, .ref a2, .ref a3, .ref a4, .int (nI sp), .int (nI td), .int (nI ((md - i) - 1)), .int (nI ot)], kC G a1 60 (nR pf), kC G a2 60 (nR kf), kC G a3 20 (nR cf), kC G a4 20 (nR nf), kO b0 0 [.ref b1], kC G b1 8 (nR (unB kf bf (md - i) i))] H := hP
        have hD : va_D A [kO a0 2 [.int (nI sd), .ref a1, .ref a2, .ref a3, .ref a4, .int (nI sp), .int (nI td), .int (nI ((md - i) - 1)), .int (nI ot)], kC G a1 60 (nR pf), kC G a2 60 (nR kf), kC G a3 20 (nR cf), kC G a4 20 (nR nf), kO b0 0 [.ref b1], kC G b1 8 (nR (unB kf bf (md - i) i))] := hD
        refine lv_aload_n hx hb dX2_undo_17 rfl (lv_at hl 2 rfl) ?_
        refine lv_aload_n hx hb dX2_undo_18 rfl (lv_at hl 0 rfl) ?_
        refine va_get (D := G.1) (ci := 2) (v := .ref a2) (C := RX2) (T := TX2) (N := 9) hx hb hts hq_0 hown hK.1 hP 0 rfl rfl 2 (by decide) hq_2 (fun _ h9 => h9) rfl dX2_undo_19 ?_
        refine lv_aload_n hx hb dX2_undo_22 rfl (lv_at hl 0 rfl) ?_
        refine va_get (D := G.1) (ci := 2) (v := .int (nI ((md - i) - 1))) (C := RX2) (T := TX2) (N := 9) hx hb hts hq_0 hown hK.1 hP 0 rfl rfl 7 (by decide) hq_1 (fun _ h9 => h9) rfl dX2_undo_23 ?_
        refine k_calli (fun _ => [kO a0 2 [.int (nI sd), .ref a1, .ref a2, .ref a3, .ref a4, .int (nI sp), .int (nI td), .int (nI ((md - i) - 1)), .int (nI ot)], kC G a1 60 (nR pf), kC G a2 60 (nR kf), kC G a3 20 (nR cf), kC G a4 20 (nR nf), kO b0 0 [.ref b1], kC G b1 8 (nR (unB kf bf (md - i) i))]) [kO a0 2 [.int (nI sd), .ref a1, .ref a2, .ref a3, .ref a4, .int (nI sp), .int (nI td), .int (nI ((md - i) - 1)), .int (nI ot)], kC G a1 60 (nR pf), kC G a3 20 (nR cf), kC G a4 20 (nR nf), kO b0 0 [.ref b1], kC G b1 8 (nR (unB kf bf (md - i) i))] (k_runSN (As := [.ref a2, .int (nI ((md - i) - 1))]) (rest := [.ref b0]) (wc := [kC G a2 60 (nR kf)]) ⟨hx, hb, hml, hown, hts⟩ (c_at l G a2 60 kf ((md - i) - 1) (by omega) (by decide)) ⟨va_cnB (host := RX3) (index := 44) (own := RX2) 2 hts gX2_undo_X3_at_n44 rfl rfl rfl hq_3 hq_4 (by decide +kernel) ⟨Nat.le_of_ble_eq_true rfl, Nat.le_of_ble_eq_true rfl⟩, hq_5, trivial⟩ hK hZ hP hD hS hA [2] rfl rfl rfl hl.1 rfl (Nat.le_of_ble_eq_true rfl) dX2_undo_26 ⟨Nat.le_of_ble_eq_true rfl, Nat.le_of_ble_eq_true rfl⟩) hP hD hS hA [2] [0, 1, 3, 4, 5, 6] [0, 1, 6, 2, 3, 4, 5] rfl rfl rfl (by decide) (fun _ => rfl) rfl (fun r_26 u_26 H locs hp_26 hP hD hS => ?_)
        have hp_26 : r_26 = nI (kf ((md - i) - 1)) := hp_26
        subst hp_26
        refine lv_iconst (v := nI 1) hx hb dX2_undo_29 (by decide) ?_
        refine k_calli (fun _ => [kO a0 2 [.int (nI sd), .ref a1, .ref a2, .ref a3, .ref a4, .int (nI sp), .int (nI td), .int (nI ((md - i) - 1)), .int (nI ot)], kC G a1 60 (nR pf), kC G a2 60 (nR kf), kC G a3 20 (nR cf), kC G a4 20 (nR nf), kO b0 0 [.ref b1], kC G b1 8 (nR (updN (unB kf bf (md - i) i) (kf ((md - i) - 1)) (min 200 ((unB kf bf (md - i) i) (kf ((md - i) - 1)) + 1))))]) [kO a0 2 [.int (nI sd), .ref a1, .ref a2, .ref a3, .ref a4, .int (nI sp), .int (nI td), .int (nI ((md - i) - 1)), .int (nI ot)], kC G a1 60 (nR pf), kC G a2 60 (nR kf), kC G a3 20 (nR cf), kC G a4 20 (nR nf)] (k_runV (As := [.int (nI (kf ((md - i) - 1))), .int (nI 1)]) (rest := []) (wc := [kO b0 0 [.ref b1], kC G b1 8 (nR (unB kf bf (md - i) i))]) ⟨hx, hb, hml, hown, hts⟩ (c_fill l G b0 b1 (unB kf bf (md - i) i) (kf ((md - i) - 1)) 1 (wkb _ (by omega)) (unB_ok hB) (by decide)) (cwV 2 hts gX2_undo_X0_fill rfl rfl rfl (by decide +kernel) ⟨Nat.le_of_ble_eq_true rfl, Nat.le_of_ble_eq_true rfl⟩) hK hZ hP hD hS hA [5, 6] rfl rfl 0 0 rfl rfl rfl rfl hl.1 rfl (Nat.le_of_ble_eq_true rfl) dX2_undo_30 ⟨Nat.le_of_ble_eq_true rfl, Nat.le_of_ble_eq_true rfl⟩) hP hD hS hA [5, 6] [0, 1, 2, 3, 4] [0, 1, 2, 3, 4, 5, 6] rfl rfl rfl (by decide) (fun _ => rfl) rfl (fun r_30 u_30 H locs hp_30 hP hD hS => ?_)
        have hp_30 : r_30 = nI (min 200 ((unB kf bf (md - i) i) (kf ((md - i) - 1)) + 1)) := hp_30
        subst hp_30
        refine lv_pop hx hb dX2_undo_33 rfl ?_
        refine lv_iinc (v := nI (i + 1)) (lv' := [(3, .int (nI (i + 1))), (0, .ref a0), (1, .int (nI k)), (2, .ref b0)]) hx hb dX2_undo_34 hl (k := 3) rfl (nI_add i 1) (by decide) rfl (fun ls hl => ?_)
        refine lv_goto (tgt := 2) hx hb dX2_undo_37 (by decide) ?_
        have hun := unB_d (K := kf) (B := bf) (a := md - (i + 1)) (n := i) rfl (hB _ (wkb _ (by omega)))
        rw [show md - (i + 1) + 1 = md - i by omega] at hun
        rw [show md - i - 1 = md - (i + 1) by omega, hun] at hP hD
        exact ih_2 (i + 1) (by omega) (by omega) _ _ _ hP hD hS (lv_sub hl [1, 2, 3, 0] rfl)
  rw [← unB_0 (K := kf) (B := bf) (a := md)] at hP hD
  exact loop_2 (k + 1) 0 (by omega) (by omega) H locs ls hP hD hS (lv_sub hl [1, 2, 3, 0] rfl)
set_option maxHeartbeats 4000000 in
set_option maxRecDepth 100000 in
theorem c_nextX (l : Launch) (G : kG) (a0 : Nat) (a1 : Nat) (a2 : Nat) (a3 : Nat) (a4 : Nat) (sd : Nat) (pf : Nat → Nat) (kf : Nat → Nat) (cf : Nat → Nat) (nf : Nat → Nat) (sp : Nat) (td : Nat) (md : Nat) (ot : Nat) (hsd : sd ≤ 1) (wm : md ≤ 60) : kM l G yX2_nextX wsX2_nextX ({ frames := 1, cells := 0, slots := 0, locals := 20 } : Room) [.ref a0] [kO a0 2 [.int (nI sd), .ref a1, .ref a2, .ref a3, .ref a4, .int (nI sp), .int (nI td), .int (nI md), .int (nI ot)], kC G a1 60 (nR pf), kC G a2 60 (nR kf), kC G a3 20 (nR cf), kC G a4 20 (nR nf)] (kQi G [kO a0 2 [.int (nI sd), .ref a1, .ref a2, .ref a3, .ref a4, .int (nI sp), .int (nI td), .int (nI md), .int (nI ot)], kC G a1 60 (nR pf), kC G a2 60 (nR kf), kC G a3 20 (nR cf), kC G a4 20 (nR nf)] (fun (r : Int32) (_ : Unit) => r = nxN sd md) (fun (_ : Unit) => [kO a0 2 [.int (nI sd), .ref a1, .ref a2, .ref a3, .ref a4, .int (nI sp), .int (nI td), .int (nI md), .int (nI ot)], kC G a1 60 (nR pf), kC G a2 60 (nR kf), kC G a3 20 (nR cf), kC G a4 20 (nR nf)])) := by
  refine k_ofW (cc := cX2_nextX) (maxL := 2) (rt := (some .int)) (by decide) rfl (Nat.le_of_ble_eq_true rfl) ?_
  intro p e s m args below meth c A ls Qs H locs hQ hAe hx hb hr hml hts hown hlocks hin hK hZ hP hD hS hA hl
  have hown : s.vm.findClass RX2 = some m.cls := hown
  have hl : lv_has ls 2 [(0, .ref a0)] := hl
  have hq_0 : ∀ w ∈ wsX20, w ∈ wsX2_nextX := by decide +kernel
  have hq_1 : (Cond.fieldLink RX2 31 "KnotRugs$Weaver" "made" "I").before args s = true := hts _ (by decide +kernel)
  have hq_2 : (Cond.fieldLink RX2 37 "KnotRugs$Weaver" "side" "I").before args s = true := hts _ (by decide +kernel)
  refine lv_aload_n hx hb dX2_nextX_0 rfl (lv_at hl 0 rfl) ?_
  refine k_calli (fun u_1 => [kO a0 2 [.int (nI sd), .ref a1, .ref a2, .ref a3, .ref a4, .int (nI sp), .int (nI td), .int (nI md), .int (nI ot)], kC G a1 60 (nR pf), kC G a2 60 (nR kf), kC G a3 20 (nR cf), kC G a4 20 (nR nf)]) [] (k_runV (As := []) (rest := []) (wc := [kO a0 2 [.int (nI sd), .ref a1, .ref a2, .ref a3, .ref a4, .int (nI sp), .int (nI td), .int (nI md), .int (nI ot)], kC G a1 60 (nR pf), kC G a2 60 (nR kf), kC G a3 20 (nR cf), kC G a4 20 (nR nf)]) ⟨hx, hb, hml, hown, hts⟩ (c_isHalfDone l G a0 a1 a2 a3 a4 sd pf kf cf nf sp td md ot wm) (cwV 0 hts gX2_nextX_X2_isHalfDone rfl rfl rfl (by decide +kernel) ⟨Nat.le_of_ble_eq_true rfl, Nat.le_of_ble_eq_true rfl⟩) hK hZ hP hD hS hA [0, 1, 2, 3, 4] rfl rfl 0 2 rfl rfl rfl rfl hl.1 rfl (Nat.le_of_ble_eq_true rfl) dX2_nextX_1 ⟨Nat.le_of_ble_eq_true rfl, Nat.le_of_ble_eq_true rfl⟩) hP hD hS hA [0, 1, 2, 3, 4] [] [0, 1, 2, 3, 4] rfl rfl rfl (by decide) (fun _ => rfl) rfl (fun r_1 u_1 H locs hp_1 hP hD hS => ?_)
  rcases hp_1 with ⟨rfl, hp_1⟩ | ⟨rfl, hp_1⟩
  · refine lv_if_eq (tgt := 9) hx hb dX2_nextX_4 (by decide) (fun c_4 => absurd c_4 (by decide)) (fun c_4 => ?_)
    refine lv_iconst (v := (-1)) hx hb dX2_nextX_7 (by decide) ?_
    exact k_iret (ws := [kO a0 2 [.int (nI sd), .ref a1, .ref a2, .ref a3, .ref a4, .int (nI sp), .int (nI td), .int (nI md), .int (nI ot)], kC G a1 60 (nR pf), kC G a2 60 (nR kf), kC G a3 20 (nR cf), kC G a4 20 (nR nf)]) (()) hx hb hr hlocks hP hD hS hAe hQ (Nat.le_of_ble_eq_true rfl) (Nat.le_of_ble_eq_true rfl) dX2_nextX_8 (rfl) (by unfold nxN; rw [if_neg (by omega)])
  · refine lv_if_eq (tgt := 9) hx hb dX2_nextX_4 (by decide) (fun c_4 => ?_) (fun c_4 => absurd c_4 (by decide))
    refine lv_aload_n hx hb dX2_nextX_9 rfl (lv_at hl 0 rfl) ?_
    refine va_get (D := G.1) (ci := 2) (v := .int (nI md)) (C := RX2) (T := TX2) (N := 9) hx hb hts hq_0 hown hK.1 hP 0 rfl rfl 7 (by decide) hq_1 (fun _ h9 => h9) rfl dX2_nextX_10 ?_
    refine lv_bipush (v := nI 6) hx hb dX2_nextX_13 (by decide) ?_
    refine lv_irem hx hb dX2_nextX_15 (by first | decide | (intro h; exact absurd ((nI_eq (by omega) (by omega)).mp h) (by omega))) ?_
    refine lv_topi (fun y_1 hy_1 => ?_)
    obtain rfl : y_1 = nI (md % 6) := hy_1.trans (pk_rem (a := md) (d := 6) (by omega) (by omega) (by omega))
    refine lv_istore_n (lv' := [(1, .int (nI (md % 6))), (0, .ref a0)]) hx hb dX2_nextX_16 rfl hl (by decide) rfl (fun ls hl => ?_)
    refine lv_aload_n hx hb dX2_nextX_17 rfl (lv_at hl 1 rfl) ?_
    refine va_get (D := G.1) (ci := 2) (v := .int (nI sd)) (C := RX2) (T := TX2) (N := 9) hx hb hts hq_0 hown hK.1 hP 0 rfl rfl 0 (by decide) hq_2 (fun _ h9 => h9) rfl dX2_nextX_18 ?_
    refine lv_if_ne (tgt := 28) hx hb dX2_nextX_21 (by decide) (fun c_21 => ?_) (fun c_21 => ?_)
    · have c_21 : ¬ (sd = 0) := fun h9 => c_21 ((k_eq0 (a := sd) (by omega)).mpr h9)
      refine lv_bipush (v := nI 11) hx hb dX2_nextX_28 (by decide) ?_
      refine lv_iload_n hx hb dX2_nextX_30 rfl (lv_at hl 0 rfl) ?_
      refine lv_isub hx hb dX2_nextX_31 ?_
      refine lv_topi (fun y_2 hy_2 => ?_)
      obtain rfl : y_2 = nI (11 - (md % 6)) := hy_2.trans (pk_sub (a := 11) (b := (md % 6)) (by omega))
      exact k_iret (ws := [kO a0 2 [.int (nI sd), .ref a1, .ref a2, .ref a3, .ref a4, .int (nI sp), .int (nI td), .int (nI md), .int (nI ot)], kC G a1 60 (nR pf), kC G a2 60 (nR kf), kC G a3 20 (nR cf), kC G a4 20 (nR nf)]) (()) hx hb hr hlocks hP hD hS hAe hQ (Nat.le_of_ble_eq_true rfl) (Nat.le_of_ble_eq_true rfl) dX2_nextX_32 (rfl) (by unfold nxN; rw [if_pos (by omega)]; first | (rw [if_pos (by omega)]; done) | (rw [if_neg (by omega)]; done))
    · have c_21 : sd = 0 := (k_eq0 (a := sd) (by omega)).mp c_21
      refine lv_iload_n hx hb dX2_nextX_24 rfl (lv_at hl 0 rfl) ?_
      refine lv_goto (tgt := 32) hx hb dX2_nextX_25 (by decide) ?_
      exact k_iret (ws := [kO a0 2 [.int (nI sd), .ref a1, .ref a2, .ref a3, .ref a4, .int (nI sp), .int (nI td), .int (nI md), .int (nI ot)], kC G a1 60 (nR pf), kC G a2 60 (nR kf), kC G a3 20 (nR cf), kC G a4 20 (nR nf)]) (()) hx hb hr hlocks hP hD hS hAe hQ (Nat.le_of_ble_eq_true rfl) (Nat.le_of_ble_eq_true rfl) dX2_nextX_32 (rfl) (by unfold nxN; rw [if_pos (by omega)]; first | (rw [if_pos (by omega)]; done) | (rw [if_neg (by omega)]; done))
set_option maxHeartbeats 4000000 in
set_option maxRecDepth 100000 in
theorem c_number2 (l : Launch) (G : kG) (a0 : Nat) (a1 : Nat) (a2 : Nat) (a3 : Nat) (a4 : Nat) (sd : Nat) (pf : Nat → Nat) (kf : Nat → Nat) (cf : Nat → Nat) (nf : Nat → Nat) (sp : Nat) (td : Nat) (md : Nat) (ot : Nat) (k : Nat) (hk : k < 7) (hsd : sd ≤ 1) (wt : td ≤ 20) (wm : md ≤ 60) : kM l G yX2_number wsX2_number ({ frames := 2, cells := 0, slots := 0, locals := 43 } : Room) [.ref a0, .int (nI k)] [kO a0 2 [.int (nI sd), .ref a1, .ref a2, .ref a3, .ref a4, .int (nI sp), .int (nI td), .int (nI md), .int (nI ot)], kC G a1 60 (nR pf), kC G a2 60 (nR kf), kC G a3 20 (nR cf), kC G a4 20 (nR nf)] (kQi G [kO a0 2 [.int (nI sd), .ref a1, .ref a2, .ref a3, .ref a4, .int (nI sp), .int (nI td), .int (nI md), .int (nI ot)], kC G a1 60 (nR pf), kC G a2 60 (nR kf), kC G a3 20 (nR cf), kC G a4 20 (nR nf)] (fun (r : Int32) (_ : Unit) => r = wNum sd nf sp td md ot k) (fun (_ : Unit) => [kO a0 2 [.int (nI sd), .ref a1, .ref a2, .ref a3, .ref a4, .int (nI sp), .int (nI td), .int (nI md), .int (nI ot)], kC G a1 60 (nR pf), kC G a2 60 (nR kf), kC G a3 20 (nR cf), kC G a4 20 (nR nf)])) := by
  refine k_ofW (cc := cX2_number) (maxL := 2) (rt := (some .int)) (by decide) rfl (Nat.le_of_ble_eq_true rfl) ?_
  intro p e s m args below meth c A ls Qs H locs hQ hAe hx hb hr hml hts hown hlocks hin hK hZ hP hD hS hA hl
  have hown : s.vm.findClass RX2 = some m.cls := hown
  have hl : lv_has ls 2 [(0, .ref a0), (1, .int (nI k))] := hl
  have hq_0 : ∀ w ∈ wsX20, w ∈ wsX2_number := by decide +kernel
  have hq_1 : (Cond.fieldLink RX2 24 "KnotRugs$Weaver" "speed" "I").before args s = true := hts _ (by decide +kernel)
  have hq_2 : (Cond.fieldLink RX2 28 "KnotRugs$Weaver" "told" "I").before args s = true := hts _ (by decide +kernel)
  have hq_3 : (Cond.fieldLink RX2 31 "KnotRugs$Weaver" "made" "I").before args s = true := hts _ (by decide +kernel)
  have hq_4 : (Cond.fieldLink RX2 34 "KnotRugs$Weaver" "inAnotherColour" "I").before args s = true := hts _ (by decide +kernel)
  rcases (show k = 0 ∨ k = 1 ∨ k = 2 ∨ k = 3 ∨ k = 4 ∨ k = 5 ∨ k = 6 by omega) with rfl | rfl | rfl | rfl | rfl | rfl | rfl
  · refine lv_iload_n hx hb dX2_number_0 rfl (lv_at hl 1 rfl) ?_
    refine lv_tableIn (off := 39) (tgt := 40) hx hb dX2_number_1 (by decide) (by decide) rfl (by decide) ?_
    refine lv_aload_n hx hb dX2_number_40 rfl (lv_at hl 0 rfl) ?_
    refine va_get (D := G.1) (ci := 2) (v := .int (nI sp)) (C := RX2) (T := TX2) (N := 9) hx hb hts hq_0 hown hK.1 hP 0 rfl rfl 5 (by decide) hq_1 (fun _ h9 => h9) rfl dX2_number_41 ?_
    exact k_iret (ws := [kO a0 2 [.int (nI sd), .ref a1, .ref a2, .ref a3, .ref a4, .int (nI sp), .int (nI td), .int (nI md), .int (nI ot)], kC G a1 60 (nR pf), kC G a2 60 (nR kf), kC G a3 20 (nR cf), kC G a4 20 (nR nf)]) (()) hx hb hr hlocks hP hD hS hAe hQ (Nat.le_of_ble_eq_true rfl) (Nat.le_of_ble_eq_true rfl) dX2_number_44 (rfl) (rfl)
  · refine lv_iload_n hx hb dX2_number_0 rfl (lv_at hl 1 rfl) ?_
    refine lv_tableIn (off := 44) (tgt := 45) hx hb dX2_number_1 (by decide) (by decide) rfl (by decide) ?_
    refine lv_aload_n hx hb dX2_number_45 rfl (lv_at hl 0 rfl) ?_
    refine va_get (D := G.1) (ci := 2) (v := .int (nI td)) (C := RX2) (T := TX2) (N := 9) hx hb hts hq_0 hown hK.1 hP 0 rfl rfl 6 (by decide) hq_2 (fun _ h9 => h9) rfl dX2_number_46 ?_
    exact k_iret (ws := [kO a0 2 [.int (nI sd), .ref a1, .ref a2, .ref a3, .ref a4, .int (nI sp), .int (nI td), .int (nI md), .int (nI ot)], kC G a1 60 (nR pf), kC G a2 60 (nR kf), kC G a3 20 (nR cf), kC G a4 20 (nR nf)]) (()) hx hb hr hlocks hP hD hS hAe hQ (Nat.le_of_ble_eq_true rfl) (Nat.le_of_ble_eq_true rfl) dX2_number_49 (rfl) (rfl)
  · refine lv_iload_n hx hb dX2_number_0 rfl (lv_at hl 1 rfl) ?_
    refine lv_tableIn (off := 49) (tgt := 50) hx hb dX2_number_1 (by decide) (by decide) rfl (by decide) ?_
    refine lv_aload_n hx hb dX2_number_50 rfl (lv_at hl 0 rfl) ?_
    refine k_calli (fun _ => [kO a0 2 [.int (nI sd), .ref a1, .ref a2, .ref a3, .ref a4, .int (nI sp), .int (nI td), .int (nI md), .int (nI ot)], kC G a1 60 (nR pf), kC G a2 60 (nR kf), kC G a3 20 (nR cf), kC G a4 20 (nR nf)]) [] (k_runV (As := []) (rest := []) (wc := [kO a0 2 [.int (nI sd), .ref a1, .ref a2, .ref a3, .ref a4, .int (nI sp), .int (nI td), .int (nI md), .int (nI ot)], kC G a1 60 (nR pf), kC G a2 60 (nR kf), kC G a3 20 (nR cf), kC G a4 20 (nR nf)]) ⟨hx, hb, hml, hown, hts⟩ (c_toldInAll l G a0 a1 a2 a3 a4 sd pf kf cf nf sp td md ot wt) (cwV 0 hts gX2_number_X2_toldInAll rfl rfl rfl (by decide +kernel) ⟨Nat.le_of_ble_eq_true rfl, Nat.le_of_ble_eq_true rfl⟩) hK hZ hP hD hS hA [0, 1, 2, 3, 4] rfl rfl 0 2 rfl rfl rfl rfl hl.1 rfl (Nat.le_of_ble_eq_true rfl) dX2_number_51 ⟨Nat.le_of_ble_eq_true rfl, Nat.le_of_ble_eq_true rfl⟩) hP hD hS hA [0, 1, 2, 3, 4] [] [0, 1, 2, 3, 4] rfl rfl rfl (by decide) (fun _ => rfl) rfl (fun r_51 u_51 H locs hp_51 hP hD hS => ?_)
    have hp_51 : r_51 = nI (sumN nf td) := hp_51
    subst hp_51
    exact k_iret (ws := [kO a0 2 [.int (nI sd), .ref a1, .ref a2, .ref a3, .ref a4, .int (nI sp), .int (nI td), .int (nI md), .int (nI ot)], kC G a1 60 (nR pf), kC G a2 60 (nR kf), kC G a3 20 (nR cf), kC G a4 20 (nR nf)]) (()) hx hb hr hlocks hP hD hS hAe hQ (Nat.le_of_ble_eq_true rfl) (Nat.le_of_ble_eq_true rfl) dX2_number_54 (rfl) (rfl)
  · refine lv_iload_n hx hb dX2_number_0 rfl (lv_at hl 1 rfl) ?_
    refine lv_tableIn (off := 54) (tgt := 55) hx hb dX2_number_1 (by decide) (by decide) rfl (by decide) ?_
    refine lv_aload_n hx hb dX2_number_55 rfl (lv_at hl 0 rfl) ?_
    refine va_get (D := G.1) (ci := 2) (v := .int (nI md)) (C := RX2) (T := TX2) (N := 9) hx hb hts hq_0 hown hK.1 hP 0 rfl rfl 7 (by decide) hq_3 (fun _ h9 => h9) rfl dX2_number_56 ?_
    exact k_iret (ws := [kO a0 2 [.int (nI sd), .ref a1, .ref a2, .ref a3, .ref a4, .int (nI sp), .int (nI td), .int (nI md), .int (nI ot)], kC G a1 60 (nR pf), kC G a2 60 (nR kf), kC G a3 20 (nR cf), kC G a4 20 (nR nf)]) (()) hx hb hr hlocks hP hD hS hAe hQ (Nat.le_of_ble_eq_true rfl) (Nat.le_of_ble_eq_true rfl) dX2_number_59 (rfl) (rfl)
  · refine lv_iload_n hx hb dX2_number_0 rfl (lv_at hl 1 rfl) ?_
    refine lv_tableIn (off := 59) (tgt := 60) hx hb dX2_number_1 (by decide) (by decide) rfl (by decide) ?_
    refine lv_aload_n hx hb dX2_number_60 rfl (lv_at hl 0 rfl) ?_
    refine k_calli (fun _ => [kO a0 2 [.int (nI sd), .ref a1, .ref a2, .ref a3, .ref a4, .int (nI sp), .int (nI td), .int (nI md), .int (nI ot)], kC G a1 60 (nR pf), kC G a2 60 (nR kf), kC G a3 20 (nR cf), kC G a4 20 (nR nf)]) [] (k_runV (As := []) (rest := []) (wc := [kO a0 2 [.int (nI sd), .ref a1, .ref a2, .ref a3, .ref a4, .int (nI sp), .int (nI td), .int (nI md), .int (nI ot)], kC G a1 60 (nR pf), kC G a2 60 (nR kf), kC G a3 20 (nR cf), kC G a4 20 (nR nf)]) ⟨hx, hb, hml, hown, hts⟩ (c_nextX l G a0 a1 a2 a3 a4 sd pf kf cf nf sp td md ot hsd wm) (cwV 0 hts gX2_number_X2_nextX rfl rfl rfl (by decide +kernel) ⟨Nat.le_of_ble_eq_true rfl, Nat.le_of_ble_eq_true rfl⟩) hK hZ hP hD hS hA [0, 1, 2, 3, 4] rfl rfl 0 2 rfl rfl rfl rfl hl.1 rfl (Nat.le_of_ble_eq_true rfl) dX2_number_61 ⟨Nat.le_of_ble_eq_true rfl, Nat.le_of_ble_eq_true rfl⟩) hP hD hS hA [0, 1, 2, 3, 4] [] [0, 1, 2, 3, 4] rfl rfl rfl (by decide) (fun _ => rfl) rfl (fun r_61 u_61 H locs hp_61 hP hD hS => ?_)
    have hp_61 : r_61 = nxN sd md := hp_61
    subst hp_61
    exact k_iret (ws := [kO a0 2 [.int (nI sd), .ref a1, .ref a2, .ref a3, .ref a4, .int (nI sp), .int (nI td), .int (nI md), .int (nI ot)], kC G a1 60 (nR pf), kC G a2 60 (nR kf), kC G a3 20 (nR cf), kC G a4 20 (nR nf)]) (()) hx hb hr hlocks hP hD hS hAe hQ (Nat.le_of_ble_eq_true rfl) (Nat.le_of_ble_eq_true rfl) dX2_number_64 (rfl) (rfl)
  · refine lv_iload_n hx hb dX2_number_0 rfl (lv_at hl 1 rfl) ?_
    refine lv_tableIn (off := 64) (tgt := 65) hx hb dX2_number_1 (by decide) (by decide) rfl (by decide) ?_
    refine lv_aload_n hx hb dX2_number_65 rfl (lv_at hl 0 rfl) ?_
    refine k_calli (fun u_66 => [kO a0 2 [.int (nI sd), .ref a1, .ref a2, .ref a3, .ref a4, .int (nI sp), .int (nI td), .int (nI md), .int (nI ot)], kC G a1 60 (nR pf), kC G a2 60 (nR kf), kC G a3 20 (nR cf), kC G a4 20 (nR nf)]) [] (k_runV (As := []) (rest := []) (wc := [kO a0 2 [.int (nI sd), .ref a1, .ref a2, .ref a3, .ref a4, .int (nI sp), .int (nI td), .int (nI md), .int (nI ot)], kC G a1 60 (nR pf), kC G a2 60 (nR kf), kC G a3 20 (nR cf), kC G a4 20 (nR nf)]) ⟨hx, hb, hml, hown, hts⟩ (c_isHalfDone l G a0 a1 a2 a3 a4 sd pf kf cf nf sp td md ot wm) (cwV 0 hts gX2_number_X2_isHalfDone rfl rfl rfl (by decide +kernel) ⟨Nat.le_of_ble_eq_true rfl, Nat.le_of_ble_eq_true rfl⟩) hK hZ hP hD hS hA [0, 1, 2, 3, 4] rfl rfl 0 2 rfl rfl rfl rfl hl.1 rfl (Nat.le_of_ble_eq_true rfl) dX2_number_66 ⟨Nat.le_of_ble_eq_true rfl, Nat.le_of_ble_eq_true rfl⟩) hP hD hS hA [0, 1, 2, 3, 4] [] [0, 1, 2, 3, 4] rfl rfl rfl (by decide) (fun _ => rfl) rfl (fun r_66 u_66 H locs hp_66 hP hD hS => ?_)
    rcases hp_66 with ⟨rfl, hp_66⟩ | ⟨rfl, hp_66⟩
    · refine lv_if_eq (tgt := 76) hx hb dX2_number_69 (by decide) (fun c_69 => absurd c_69 (by decide)) (fun c_69 => ?_)
      refine lv_iconst (v := (-1)) hx hb dX2_number_72 (by decide) ?_
      refine lv_goto (tgt := 83) hx hb dX2_number_73 (by decide) ?_
      exact k_iret (ws := [kO a0 2 [.int (nI sd), .ref a1, .ref a2, .ref a3, .ref a4, .int (nI sp), .int (nI td), .int (nI md), .int (nI ot)], kC G a1 60 (nR pf), kC G a2 60 (nR kf), kC G a3 20 (nR cf), kC G a4 20 (nR nf)]) (()) hx hb hr hlocks hP hD hS hAe hQ (Nat.le_of_ble_eq_true rfl) (Nat.le_of_ble_eq_true rfl) dX2_number_83 (rfl) (by show _ = (if md < 60 then _ else _); rw [if_neg (by omega)])
    · refine lv_if_eq (tgt := 76) hx hb dX2_number_69 (by decide) (fun c_69 => ?_) (fun c_69 => absurd c_69 (by decide))
      refine lv_aload_n hx hb dX2_number_76 rfl (lv_at hl 0 rfl) ?_
      refine va_get (D := G.1) (ci := 2) (v := .int (nI md)) (C := RX2) (T := TX2) (N := 9) hx hb hts hq_0 hown hK.1 hP 0 rfl rfl 7 (by decide) hq_3 (fun _ h9 => h9) rfl dX2_number_77 ?_
      refine lv_bipush (v := nI 6) hx hb dX2_number_80 (by decide) ?_
      refine lv_idiv hx hb dX2_number_82 (by first | decide | (intro h; exact absurd ((nI_eq (by omega) (by omega)).mp h) (by omega))) ?_
      refine lv_topi (fun y_1 hy_1 => ?_)
      obtain rfl : y_1 = nI (md / 6) := hy_1.trans (pk_div (a := md) (d := 6) (by omega) (by omega) (by omega))
      exact k_iret (ws := [kO a0 2 [.int (nI sd), .ref a1, .ref a2, .ref a3, .ref a4, .int (nI sp), .int (nI td), .int (nI md), .int (nI ot)], kC G a1 60 (nR pf), kC G a2 60 (nR kf), kC G a3 20 (nR cf), kC G a4 20 (nR nf)]) (()) hx hb hr hlocks hP hD hS hAe hQ (Nat.le_of_ble_eq_true rfl) (Nat.le_of_ble_eq_true rfl) dX2_number_83 (rfl) (by show _ = (if md < 60 then _ else _); rw [if_pos (by omega)])
  · refine lv_iload_n hx hb dX2_number_0 rfl (lv_at hl 1 rfl) ?_
    refine lv_tableOut (tgt := 84) hx hb dX2_number_1 (by decide) (by decide) ?_
    refine lv_aload_n hx hb dX2_number_84 rfl (lv_at hl 0 rfl) ?_
    refine va_get (D := G.1) (ci := 2) (v := .int (nI ot)) (C := RX2) (T := TX2) (N := 9) hx hb hts hq_0 hown hK.1 hP 0 rfl rfl 8 (by decide) hq_4 (fun _ h9 => h9) rfl dX2_number_85 ?_
    exact k_iret (ws := [kO a0 2 [.int (nI sd), .ref a1, .ref a2, .ref a3, .ref a4, .int (nI sp), .int (nI td), .int (nI md), .int (nI ot)], kC G a1 60 (nR pf), kC G a2 60 (nR kf), kC G a3 20 (nR cf), kC G a4 20 (nR nf)]) (()) hx hb hr hlocks hP hD hS hAe hQ (Nat.le_of_ble_eq_true rfl) (Nat.le_of_ble_eq_true rfl) dX2_number_88 (rfl) (rfl)
