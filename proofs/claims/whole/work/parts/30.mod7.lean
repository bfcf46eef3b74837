set_option maxHeartbeats 4000000 in
set_option maxRecDepth 100000 in
theorem c_share (l : Launch) (G : kG) (x0 : Nat) (s0 : Nat) (r0 : Nat) (l0 : Nat) (l1 : Nat) (l2 : Nat) (l3 : Nat) (l4 : Nat) (m0 : Nat) (m1 : Nat) (m2 : Nat) (m3 : Nat) (m4 : Nat) (b0 : Nat) (b1 : Nat) (w0 : Wv) (w1 : Wv) (bf : Nat → Nat) (ho : Nat) (un : Nat) (h0 : wOk w0) (h1 : wOk w1) (hB : bOk bf) : kM l G yX3_share wsX3_share ({ frames := 3, cells := 0, slots := 0, locals := 63 } : Room) [.ref x0] [kO x0 3 [.ref r0, .ref s0], kO r0 1 [.ref l0, .ref m0, .ref b0, .int (nI ho), .int (nI un)], kO l0 2 [.int (nI 0), .ref l1, .ref l2, .ref l3, .ref l4, .int (nI (vS w0)), .int (nI (vT w0)), .int (nI (vM w0)), .int (nI (vO w0))], kC G l1 60 (nR (vP w0)), kC G l2 60 (nR (vK w0)), kC G l3 20 (nR (vC w0)), kC G l4 20 (nR (vN w0)), kO m0 2 [.int (nI 1), .ref m1, .ref m2, .ref m3, .ref m4, .int (nI (vS w1)), .int (nI (vT w1)), .int (nI (vM w1)), .int (nI (vO w1))], kC G m1 60 (nR (vP w1)), kC G m2 60 (nR (vK w1)), kC G m3 20 (nR (vC w1)), kC G m4 20 (nR (vN w1)), kO b0 0 [.ref b1], kC G b1 8 (nR bf)] (kQd G [kO x0 3 [.ref r0, .ref s0], kO r0 1 [.ref l0, .ref m0, .ref b0, .int (nI ho), .int (nI un)], kO l0 2 [.int (nI 0), .ref l1, .ref l2, .ref l3, .ref l4, .int (nI (vS w0)), .int (nI (vT w0)), .int (nI (vM w0)), .int (nI (vO w0))], kC G l1 60 (nR (vP w0)), kC G l2 60 (nR (vK w0)), kC G l3 20 (nR (vC w0)), kC G l4 20 (nR (vN w0)), kO m0 2 [.int (nI 1), .ref m1, .ref m2, .ref m3, .ref m4, .int (nI (vS w1)), .int (nI (vT w1)), .int (nI (vM w1)), .int (nI (vO w1))], kC G m1 60 (nR (vP w1)), kC G m2 60 (nR (vK w1)), kC G m3 20 (nR (vC w1)), kC G m4 20 (nR (vN w1)), kO b0 0 [.ref b1], kC G b1 8 (nR bf)] (fun (r : UInt64) (_ : Unit) => r = shR w0 w1) (fun (_ : Unit) => [kO x0 3 [.ref r0, .ref s0], kO r0 1 [.ref l0, .ref m0, .ref b0, .int (nI ho), .int (nI un)], kO l0 2 [.int (nI 0), .ref l1, .ref l2, .ref l3, .ref l4, .int (nI (vS w0)), .int (nI (vT w0)), .int (nI (vM w0)), .int (nI (vO w0))], kC G l1 60 (nR (vP w0)), kC G l2 60 (nR (vK w0)), kC G l3 20 (nR (vC w0)), kC G l4 20 (nR (vN w0)), kO m0 2 [.int (nI 1), .ref m1, .ref m2, .ref m3, .ref m4, .int (nI (vS w1)), .int (nI (vT w1)), .int (nI (vM w1)), .int (nI (vO w1))], kC G m1 60 (nR (vP w1)), kC G m2 60 (nR (vK w1)), kC G m3 20 (nR (vC w1)), kC G m4 20 (nR (vN w1)), kO b0 0 [.ref b1], kC G b1 8 (nR bf)])) := by
  refine k_ofW (cc := cX3_share) (maxL := 2) (rt := (some .double)) (by decide) rfl (Nat.le_of_ble_eq_true rfl) ?_
  intro p e s m args below meth c A ls Qs H locs hQ hAe hx hb hr hml hts hown hlocks hin hK hZ hP hD hS hA hl
  have hown : s.vm.findClass RX3 = some m.cls := hown
  have hl : lv_has ls 2 [(0, .ref x0)] := hl
  have m0b : vM w0 ≤ 60 := h0.2.2.2.1
  have m1b : vM w1 ≤ 60 := h1.2.2.2.1
  have t0b : vT w0 ≤ 20 := h0.2.2.1
  have t1b : vT w1 ≤ 20 := h1.2.2.1
  have pb0 : ∀ i, i < 60 → vP w0 i < 8 := h0.2.2.2.2.1
  have pb1 : ∀ i, i < 60 → vP w1 i < 8 := h1.2.2.2.2.1
  have kb0 : ∀ i, i < 60 → vK w0 i < 8 := h0.2.2.2.2.2.1
  have kb1 : ∀ i, i < 60 → vK w1 i < 8 := h1.2.2.2.2.2.1
  have hof := ofN_le (w0 := w0) (w1 := w1)
  have hq_0 : ∀ w ∈ wsX30, w ∈ wsX3_share := by decide +kernel
  have hq_1 : (Cond.fieldLink RX3 10 "KnotRugs" "rug" "LKnotRugs$Rug;").before args s = true := hts _ (by decide +kernel)
  refine lv_aload_n hx hb dX3_share_0 rfl (lv_at hl 0 rfl) ?_
  refine va_get (D := G.1) (ci := 3) (v := .ref r0) (C := RX3) (T := TX3) (N := 2) hx hb hts hq_0 hown hK.1 hP 0 rfl rfl 0 (by decide) hq_1 (fun _ h9 => h9) rfl dX3_share_1 ?_
  refine k_calli (fun _ => [kO x0 3 [.ref r0, .ref s0], kO r0 1 [.ref l0, .ref m0, .ref b0, .int (nI ho), .int (nI un)], kO l0 2 [.int (nI 0), .ref l1, .ref l2, .ref l3, .ref l4, .int (nI (vS w0)), .int (nI (vT w0)), .int (nI (vM w0)), .int (nI (vO w0))], kC G l1 60 (nR (vP w0)), kC G l2 60 (nR (vK w0)), kC G l3 20 (nR (vC w0)), kC G l4 20 (nR (vN w0)), kO m0 2 [.int (nI 1), .ref m1, .ref m2, .ref m3, .ref m4, .int (nI (vS w1)), .int (nI (vT w1)), .int (nI (vM w1)), .int (nI (vO w1))], kC G m1 60 (nR (vP w1)), kC G m2 60 (nR (vK w1)), kC G m3 20 (nR (vC w1)), kC G m4 20 (nR (vN w1)), kO b0 0 [.ref b1], kC G b1 8 (nR bf)]) [kO x0 3 [.ref r0, .ref s0]] (k_runV (As := []) (rest := []) (wc := [kO r0 1 [.ref l0, .ref m0, .ref b0, .int (nI ho), .int (nI un)], kO l0 2 [.int (nI 0), .ref l1, .ref l2, .ref l3, .ref l4, .int (nI (vS w0)), .int (nI (vT w0)), .int (nI (vM w0)), .int (nI (vO w0))], kC G l1 60 (nR (vP w0)), kC G l2 60 (nR (vK w0)), kC G l3 20 (nR (vC w0)), kC G l4 20 (nR (vN w0)), kO m0 2 [.int (nI 1), .ref m1, .ref m2, .ref m3, .ref m4, .int (nI (vS w1)), .int (nI (vT w1)), .int (nI (vM w1)), .int (nI (vO w1))], kC G m1 60 (nR (vP w1)), kC G m2 60 (nR (vK w1)), kC G m3 20 (nR (vC w1)), kC G m4 20 (nR (vN w1)), kO b0 0 [.ref b1], kC G b1 8 (nR bf)]) ⟨hx, hb, hml, hown, hts⟩ (c_knots l G r0 l0 l1 l2 l3 l4 m0 m1 m2 m3 m4 b0 b1 w0 w1 bf ho un ) (cwV 0 hts gX3_share_X1_knots rfl rfl rfl (by decide +kernel) ⟨Nat.le_of_ble_eq_true rfl, Nat.le_of_ble_eq_true rfl⟩) hK hZ hP hD hS hA [1, 2, 3, 4, 5, 6, 7, 8, 9, 10, 11, 12, 13] rfl rfl 0 1 rfl rfl rfl rfl hl.1 rfl (Nat.le_of_ble_eq_true rfl) dX3_share_4 ⟨Nat.le_of_ble_eq_true rfl, Nat.le_of_ble_eq_true rfl⟩) hP hD hS hA [1, 2, 3, 4, 5, 6, 7, 8, 9, 10, 11, 12, 13] [0] [0, 1, 2, 3, 4, 5, 6, 7, 8, 9, 10, 11, 12, 13] rfl rfl rfl (by decide) (fun _ => rfl) rfl (fun r_4 u_4 H locs hp_4 hP hD hS => ?_)
  have hp_4 : r_4 = nI (vM w0 + vM w1) := hp_4
  subst hp_4
  refine lv_istore_n (lv' := [(1, .int (nI (vM w0 + vM w1))), (0, .ref x0)]) hx hb dX3_share_7 rfl hl (by decide) rfl (fun ls hl => ?_)
  refine lv_iload_n hx hb dX3_share_8 rfl (lv_at hl 0 rfl) ?_
  refine lv_if_gt (tgt := 14) hx hb dX3_share_9 (by decide) (fun c_9 => ?_) (fun c_9 => ?_)
  · have c_9 : 0 < (vM w0 + vM w1) := (k_gt0 (a := (vM w0 + vM w1)) (by omega)).mp c_9
    refine lv_iload_n hx hb dX3_share_14 rfl (lv_at hl 0 rfl) ?_
    refine lv_aload_n hx hb dX3_share_15 rfl (lv_at hl 1 rfl) ?_
    refine va_get (D := G.1) (ci := 3) (v := .ref r0) (C := RX3) (T := TX3) (N := 2) hx hb hts hq_0 hown hK.1 hP 0 rfl rfl 0 (by decide) hq_1 (fun _ h9 => h9) rfl dX3_share_16 ?_
    refine k_calli (fun _ => [kO x0 3 [.ref r0, .ref s0], kO r0 1 [.ref l0, .ref m0, .ref b0, .int (nI ho), .int (nI un)], kO l0 2 [.int (nI 0), .ref l1, .ref l2, .ref l3, .ref l4, .int (nI (vS w0)), .int (nI (vT w0)), .int (nI (vM w0)), .int (nI (vO w0))], kC G l1 60 (nR (vP w0)), kC G l2 60 (nR (vK w0)), kC G l3 20 (nR (vC w0)), kC G l4 20 (nR (vN w0)), kO m0 2 [.int (nI 1), .ref m1, .ref m2, .ref m3, .ref m4, .int (nI (vS w1)), .int (nI (vT w1)), .int (nI (vM w1)), .int (nI (vO w1))], kC G m1 60 (nR (vP w1)), kC G m2 60 (nR (vK w1)), kC G m3 20 (nR (vC w1)), kC G m4 20 (nR (vN w1)), kO b0 0 [.ref b1], kC G b1 8 (nR bf)]) [kO x0 3 [.ref r0, .ref s0]] (k_runV (As := []) (rest := [.int (nI (vM w0 + vM w1))]) (wc := [kO r0 1 [.ref l0, .ref m0, .ref b0, .int (nI ho), .int (nI un)], kO l0 2 [.int (nI 0), .ref l1, .ref l2, .ref l3, .ref l4, .int (nI (vS w0)), .int (nI (vT w0)), .int (nI (vM w0)), .int (nI (vO w0))], kC G l1 60 (nR (vP w0)), kC G l2 60 (nR (vK w0)), kC G l3 20 (nR (vC w0)), kC G l4 20 (nR (vN w0)), kO m0 2 [.int (nI 1), .ref m1, .ref m2, .ref m3, .ref m4, .int (nI (vS w1)), .int (nI (vT w1)), .int (nI (vM w1)), .int (nI (vO w1))], kC G m1 60 (nR (vP w1)), kC G m2 60 (nR (vK w1)), kC G m3 20 (nR (vC w1)), kC G m4 20 (nR (vN w1)), kO b0 0 [.ref b1], kC G b1 8 (nR bf)]) ⟨hx, hb, hml, hown, hts⟩ (c_rugOff l G r0 l0 l1 l2 l3 l4 m0 m1 m2 m3 m4 b0 b1 w0 w1 bf ho un h0 h1) (cwV 0 hts gX3_share_X1_offPlan rfl rfl rfl (by decide +kernel) ⟨Nat.le_of_ble_eq_true rfl, Nat.le_of_ble_eq_true rfl⟩) hK hZ hP hD hS hA [1, 2, 3, 4, 5, 6, 7, 8, 9, 10, 11, 12, 13] rfl rfl 0 1 rfl rfl rfl rfl hl.1 rfl (Nat.le_of_ble_eq_true rfl) dX3_share_19 ⟨Nat.le_of_ble_eq_true rfl, Nat.le_of_ble_eq_true rfl⟩) hP hD hS hA [1, 2, 3, 4, 5, 6, 7, 8, 9, 10, 11, 12, 13] [0] [0, 1, 2, 3, 4, 5, 6, 7, 8, 9, 10, 11, 12, 13] rfl rfl rfl (by decide) (fun _ => rfl) rfl (fun r_19 u_19 H locs hp_19 hP hD hS => ?_)
    have hp_19 : r_19 = nI (ofN w0 w1) := hp_19
    subst hp_19
    refine lv_isub hx hb dX3_share_22 ?_
    refine lv_topi (fun y_1 hy_1 => ?_)
    obtain rfl : y_1 = nI ((vM w0 + vM w1) - (ofN w0 w1)) := hy_1.trans (pk_sub (a := (vM w0 + vM w1)) (b := (ofN w0 w1)) (by omega))
    refine lv_i2d hx hb dX3_share_23 ?_
    refine lv_iload_n hx hb dX3_share_24 rfl (lv_at hl 0 rfl) ?_
    refine lv_i2d hx hb dX3_share_25 ?_
    refine lv_ddiv hx hb dX3_share_26 (sh_ok (by omega) (by omega) (by omega)) ?_
    exact k_dret (ws := [kO x0 3 [.ref r0, .ref s0], kO r0 1 [.ref l0, .ref m0, .ref b0, .int (nI ho), .int (nI un)], kO l0 2 [.int (nI 0), .ref l1, .ref l2, .ref l3, .ref l4, .int (nI (vS w0)), .int (nI (vT w0)), .int (nI (vM w0)), .int (nI (vO w0))], kC G l1 60 (nR (vP w0)), kC G l2 60 (nR (vK w0)), kC G l3 20 (nR (vC w0)), kC G l4 20 (nR (vN w0)), kO m0 2 [.int (nI 1), .ref m1, .ref m2, .ref m3, .ref m4, .int (nI (vS w1)), .int (nI (vT w1)), .int (nI (vM w1)), .int (nI (vO w1))], kC G m1 60 (nR (vP w1)), kC G m2 60 (nR (vK w1)), kC G m3 20 (nR (vC w1)), kC G m4 20 (nR (vN w1)), kO b0 0 [.ref b1], kC G b1 8 (nR bf)]) (()) hx hb hr hlocks hP hD hS hAe hQ (Nat.le_of_ble_eq_true rfl) (Nat.le_of_ble_eq_true rfl) dX3_share_27 (rfl) (shR_n (by omega))
  · have c_9 : ¬ (0 < (vM w0 + vM w1)) := fun h9 => c_9 ((k_gt0 (a := (vM w0 + vM w1)) (by omega)).mpr h9)
    refine lv_dconst0 hx hb dX3_share_12 ?_
    exact k_dret (ws := [kO x0 3 [.ref r0, .ref s0], kO r0 1 [.ref l0, .ref m0, .ref b0, .int (nI ho), .int (nI un)], kO l0 2 [.int (nI 0), .ref l1, .ref l2, .ref l3, .ref l4, .int (nI (vS w0)), .int (nI (vT w0)), .int (nI (vM w0)), .int (nI (vO w0))], kC G l1 60 (nR (vP w0)), kC G l2 60 (nR (vK w0)), kC G l3 20 (nR (vC w0)), kC G l4 20 (nR (vN w0)), kO m0 2 [.int (nI 1), .ref m1, .ref m2, .ref m3, .ref m4, .int (nI (vS w1)), .int (nI (vT w1)), .int (nI (vM w1)), .int (nI (vO w1))], kC G m1 60 (nR (vP w1)), kC G m2 60 (nR (vK w1)), kC G m3 20 (nR (vC w1)), kC G m4 20 (nR (vN w1)), kO b0 0 [.ref b1], kC G b1 8 (nR bf)]) (()) hx hb hr hlocks hP hD hS hAe hQ (Nat.le_of_ble_eq_true rfl) (Nat.le_of_ble_eq_true rfl) dX3_share_13 (rfl) (shR_z (by omega))
set_option maxHeartbeats 4000000 in
set_option maxRecDepth 100000 in
theorem m_share (l : Launch) (G : kG) (q0 : Nat) (q1 : Nat) (q2 : Nat) (q3 : Nat) (q4 : Nat) (q5 : Nat) (q6 : Nat) (w0 : Wv) (w1 : Wv) (bf : Nat → Nat) (ho : Nat) (un : Nat) (ru : Nat → Nat) (th : Nat) (h0 : wOk w0) (h1 : wOk w1) (hB : bOk bf) (hru : ruOk w0 w1 ru) : kM l G yX4_share wsX4_share ({ frames := 4, cells := 0, slots := 0, locals := 94 } : Room) [.ref q0] [kO q0 4 [.int (nI th), .ref q1, .ref q2, .ref q3, .ref q4, .ref q5, .ref q6], kC G q1 8 (nR (peF w0 w1)), kC G q2 120 (nR (knF w0 w1)), kC G q3 120 (nR (plF w0 w1)), kC G q4 80 (nR ru), kC G q5 8 (nR bf), kC G q6 2 (nR (nuF ho un))] (kQd G [kO q0 4 [.int (nI th), .ref q1, .ref q2, .ref q3, .ref q4, .ref q5, .ref q6], kC G q1 8 (nR (peF w0 w1)), kC G q2 120 (nR (knF w0 w1)), kC G q3 120 (nR (plF w0 w1)), kC G q4 80 (nR ru), kC G q5 8 (nR bf), kC G q6 2 (nR (nuF ho un))] (fun (r : UInt64) (_ : Unit) => r = shR w0 w1) (fun (_ : Unit) => [kO q0 4 [.int (nI 0), .ref q1, .ref q2, .ref q3, .ref q4, .ref q5, .ref q6], kC G q1 8 (nR (peF w0 w1)), kC G q2 120 (nR (knF w0 w1)), kC G q3 120 (nR (plF w0 w1)), kC G q4 80 (nR ru), kC G q5 8 (nR bf), kC G q6 2 (nR (nuF ho un))])) := by
  refine k_ofW (cc := cX4_share) (maxL := 2) (rt := (some .double)) (by decide) rfl (Nat.le_of_ble_eq_true rfl) ?_
  intro p e s m args below meth c A ls Qs H locs hQ hAe hx hb hr hml hts hown hlocks hin hK hZ hP hD hS hA hl
  have hown : s.vm.findClass RX4 = some m.cls := hown
  have hl : lv_has ls 2 [(0, .ref q0)] := hl
  have m0b : vM w0 ≤ 60 := h0.2.2.2.1
  have m1b : vM w1 ≤ 60 := h1.2.2.2.1
  have t0b : vT w0 ≤ 20 := h0.2.2.1
  have t1b : vT w1 ≤ 20 := h1.2.2.1
  have pb0 : ∀ i, i < 60 → vP w0 i < 8 := h0.2.2.2.2.1
  have pb1 : ∀ i, i < 60 → vP w1 i < 8 := h1.2.2.2.2.1
  have kb0 : ∀ i, i < 60 → vK w0 i < 8 := h0.2.2.2.2.2.1
  have kb1 : ∀ i, i < 60 → vK w1 i < 8 := h1.2.2.2.2.2.1
  have rk0 := hru.1
  have rk1 := hru.2
  have hof := ofN_le (w0 := w0) (w1 := w1)
  have hq_0 : ∀ w ∈ wsX40, w ∈ wsX4_share := by decide +kernel
  have hq_1 : (Cond.fieldLink RX4 28 "KnotRugsModel" "thrown" "I").before args s = true := hts _ (by decide +kernel)
  refine lv_aload_n hx hb dX4_share_0 rfl (lv_at hl 0 rfl) ?_
  refine lv_iconst (v := nI 0) hx hb dX4_share_1 (by decide) ?_
  refine va_put (D := G.1) (ci := 4) (v := .int (nI 0)) (ty := .int) (C := RX4) (T := TX4) (N := 7) hx hb hts hq_0 tyX4 tyX4_ok nmX4 hown hK.1 hP hD hS 0 rfl rfl 0 (by decide) hq_1 (fun _ h9 => h9) rfl (by decide +kernel) rfl rfl (Nat.le_of_ble_eq_true rfl) dX4_share_2 (fun H locs hP hD hS => ?_)
  have hP : va_P G.1 vwCl [kO q0 4 [.int (nI 0), .ref q1, .ref q2, .ref q3, .ref q4, .ref q5, .ref q6], kC G q1 8 (nR (peF w0 w1)), kC G q2 120 (nR (knF w0 w1)), kC G q3 120 (nR (plF w0 w1)), kC G q4 80 (nR ru), kC G q5 8 (nR bf), kC G q6 2 (nR (nuF ho un))] H := hP
  have hD : va_D A [kO q0 4 [.int (nI 0), .ref q1, .ref q2, .ref q3, .ref q4, .ref q5, .ref q6], kC G q1 8 (nR (peF w0 w1)), kC G q2 120 (nR (knF w0 w1)), kC G q3 120 (nR (plF w0 w1)), kC G q4 80 (nR ru), kC G q5 8 (nR bf), kC G q6 2 (nR (nuF ho un))] := hD
  refine lv_aload_n hx hb dX4_share_5 rfl (lv_at hl 0 rfl) ?_
  refine lv_iconst (v := nI 1) hx hb dX4_share_6 (by decide) ?_
  refine k_calli (fun _ => [kO q0 4 [.int (nI 0), .ref q1, .ref q2, .ref q3, .ref q4, .ref q5, .ref q6], kC G q1 8 (nR (peF w0 w1)), kC G q2 120 (nR (knF w0 w1)), kC G q3 120 (nR (plF w0 w1)), kC G q4 80 (nR ru), kC G q5 8 (nR bf), kC G q6 2 (nR (nuF ho un))]) [] (k_runV (As := [.int (nI 1)]) (rest := []) (wc := [kO q0 4 [.int (nI 0), .ref q1, .ref q2, .ref q3, .ref q4, .ref q5, .ref q6], kC G q1 8 (nR (peF w0 w1)), kC G q2 120 (nR (knF w0 w1)), kC G q3 120 (nR (plF w0 w1)), kC G q4 80 (nR ru), kC G q5 8 (nR bf), kC G q6 2 (nR (nuF ho un))]) ⟨hx, hb, hml, hown, hts⟩ (m_counted l G q0 q1 q2 q3 q4 q5 q6 w0 w1 bf ho un ru 0 1 (by decide) h0 h1 hB hru) (cwV 1 hts gX4_share_X4_counted rfl rfl rfl (by decide +kernel) ⟨Nat.le_of_ble_eq_true rfl, Nat.le_of_ble_eq_true rfl⟩) hK hZ hP hD hS hA [0, 1, 2, 3, 4, 5, 6] rfl rfl 0 4 rfl rfl rfl rfl hl.1 rfl (Nat.le_of_ble_eq_true rfl) dX4_share_7 ⟨Nat.le_of_ble_eq_true rfl, Nat.le_of_ble_eq_true rfl⟩) hP hD hS hA [0, 1, 2, 3, 4, 5, 6] [] [0, 1, 2, 3, 4, 5, 6] rfl rfl rfl (by decide) (fun _ => rfl) rfl (fun r_7 u_7 H locs hp_7 hP hD hS => ?_)
  have hp_7 : r_7 = nI (rNum w0 w1 bf ho un 1) := hp_7
  subst hp_7
  refine lv_topi (fun y_1 hy_1 => ?_)
  obtain rfl : y_1 = nI (vM w0 + vM w1) := hy_1.trans (rfl)
  refine lv_istore_n (lv' := [(1, .int (nI (vM w0 + vM w1))), (0, .ref q0)]) hx hb dX4_share_10 rfl hl (by decide) rfl (fun ls hl => ?_)
  refine lv_iload_n hx hb dX4_share_11 rfl (lv_at hl 0 rfl) ?_
  refine lv_if_ne (tgt := 19) hx hb dX4_share_12 (by decide) (fun c_12 => ?_) (fun c_12 => ?_)
  · have c_12 : ¬ ((vM w0 + vM w1) = 0) := fun h9 => c_12 ((k_eq0 (a := (vM w0 + vM w1)) (by omega)).mpr h9)
    refine lv_iload_n hx hb dX4_share_19 rfl (lv_at hl 0 rfl) ?_
    refine lv_aload_n hx hb dX4_share_20 rfl (lv_at hl 1 rfl) ?_
    refine k_calli (fun _ => [kO q0 4 [.int (nI 0), .ref q1, .ref q2, .ref q3, .ref q4, .ref q5, .ref q6], kC G q1 8 (nR (peF w0 w1)), kC G q2 120 (nR (knF w0 w1)), kC G q3 120 (nR (plF w0 w1)), kC G q4 80 (nR ru), kC G q5 8 (nR bf), kC G q6 2 (nR (nuF ho un))]) [] (k_runV (As := []) (rest := [.int (nI (vM w0 + vM w1))]) (wc := [kO q0 4 [.int (nI 0), .ref q1, .ref q2, .ref q3, .ref q4, .ref q5, .ref q6], kC G q1 8 (nR (peF w0 w1)), kC G q2 120 (nR (knF w0 w1)), kC G q3 120 (nR (plF w0 w1)), kC G q4 80 (nR ru), kC G q5 8 (nR bf), kC G q6 2 (nR (nuF ho un))]) ⟨hx, hb, hml, hown, hts⟩ (m_differ l G q0 q1 q2 q3 q4 q5 q6 w0 w1 bf ho un ru 0 h0 h1 hru) (cwV 0 hts gX4_share_X4_differ rfl rfl rfl (by decide +kernel) ⟨Nat.le_of_ble_eq_true rfl, Nat.le_of_ble_eq_true rfl⟩) hK hZ hP hD hS hA [0, 1, 2, 3, 4, 5, 6] rfl rfl 0 4 rfl rfl rfl rfl hl.1 rfl (Nat.le_of_ble_eq_true rfl) dX4_share_21 ⟨Nat.le_of_ble_eq_true rfl, Nat.le_of_ble_eq_true rfl⟩) hP hD hS hA [0, 1, 2, 3, 4, 5, 6] [] [0, 1, 2, 3, 4, 5, 6] rfl rfl rfl (by decide) (fun _ => rfl) rfl (fun r_21 u_21 H locs hp_21 hP hD hS => ?_)
    have hp_21 : r_21 = nI (ofN w0 w1) := hp_21
    subst hp_21
    refine lv_isub hx hb dX4_share_24 ?_
    refine lv_topi (fun y_2 hy_2 => ?_)
    obtain rfl : y_2 = nI ((vM w0 + vM w1) - (ofN w0 w1)) := hy_2.trans (pk_sub (a := (vM w0 + vM w1)) (b := (ofN w0 w1)) (by omega))
    refine lv_i2d hx hb dX4_share_25 ?_
    refine lv_iload_n hx hb dX4_share_26 rfl (lv_at hl 0 rfl) ?_
    refine lv_i2d hx hb dX4_share_27 ?_
    refine lv_ddiv hx hb dX4_share_28 (sh_ok (by omega) (by omega) (by omega)) ?_
    exact k_dret (ws := [kO q0 4 [.int (nI th), .ref q1, .ref q2, .ref q3, .ref q4, .ref q5, .ref q6], kC G q1 8 (nR (peF w0 w1)), kC G q2 120 (nR (knF w0 w1)), kC G q3 120 (nR (plF w0 w1)), kC G q4 80 (nR ru), kC G q5 8 (nR bf), kC G q6 2 (nR (nuF ho un))]) (()) hx hb hr hlocks hP hD hS hAe hQ (Nat.le_of_ble_eq_true rfl) (Nat.le_of_ble_eq_true rfl) dX4_share_29 (rfl) (shR_n (by omega))
  · have c_12 : (vM w0 + vM w1) = 0 := (k_eq0 (a := (vM w0 + vM w1)) (by omega)).mp c_12
    refine lv_dconst0 hx hb dX4_share_15 ?_
    refine lv_goto (tgt := 29) hx hb dX4_share_16 (by decide) ?_
    exact k_dret (ws := [kO q0 4 [.int (nI th), .ref q1, .ref q2, .ref q3, .ref q4, .ref q5, .ref q6], kC G q1 8 (nR (peF w0 w1)), kC G q2 120 (nR (knF w0 w1)), kC G q3 120 (nR (plF w0 w1)), kC G q4 80 (nR ru), kC G q5 8 (nR bf), kC G q6 2 (nR (nuF ho un))]) (()) hx hb hr hlocks hP hD hS hAe hQ (Nat.le_of_ble_eq_true rfl) (Nat.le_of_ble_eq_true rfl) dX4_share_29 (rfl) (shR_z (by omega))
