set_option maxHeartbeats 4000000 in
set_option maxRecDepth 100000 in
theorem m_plan (l : Launch) (G : kG) (q0 : Nat) (q1 : Nat) (q2 : Nat) (q3 : Nat) (q4 : Nat) (q5 : Nat) (q6 : Nat) (w0 : Wv) (w1 : Wv) (bf : Nat → Nat) (ho : Nat) (un : Nat) (ru : Nat → Nat) (th : Nat) (x1 : Int32) (x2 : Int32) (x3 : Int32) (x4 : Int32) (x5 : Int32) (h0 : wOk w0) (h1 : wOk w1) (hB : bOk bf) (hru : ruOk w0 w1 ru) : kM l G yX4_plan wsX4_plan ({ frames := 2, cells := 0, slots := 0, locals := 43 } : Room) [.ref q0, .int x1, .int x2, .int x3, .int x4, .int x5] [kO q0 4 [.int (nI th), .ref q1, .ref q2, .ref q3, .ref q4, .ref q5, .ref q6], kC G q1 8 (nR (peF w0 w1)), kC G q2 120 (nR (knF w0 w1)), kC G q3 120 (nR (plF w0 w1)), kC G q4 80 (nR ru), kC G q5 8 (nR bf), kC G q6 2 (nR (nuF ho un))] (kQi G [kO q0 4 [.int (nI th), .ref q1, .ref q2, .ref q3, .ref q4, .ref q5, .ref q6], kC G q1 8 (nR (peF w0 w1)), kC G q2 120 (nR (knF w0 w1)), kC G q3 120 (nR (plF w0 w1)), kC G q4 80 (nR ru), kC G q5 8 (nR bf), kC G q6 2 (nR (nuF ho un))] (fun (r : Int32) (u : Nat → Nat) => (cdB (inR x1 12 ∧ inR x2 10) (inG x3 1 (12 - tN x1) ∧ inG x4 1 (10 - tN x2) ∧ inR x5 8) = 0 → r = nI (aPlan w0 w1 (tN x5) (tN x1) (tN x2) (tN x3) (tN x4))) ∧ ruOk (stIf (cdB (inR x1 12 ∧ inR x2 10) (inG x3 1 (12 - tN x1) ∧ inG x4 1 (10 - tN x2) ∧ inR x5 8)) (sPlan (w0, w1, bf, ho, un) (tN x1) (tN x2) (tN x3) (tN x4) (tN x5)) (w0, w1, bf, ho, un)).1 (stIf (cdB (inR x1 12 ∧ inR x2 10) (inG x3 1 (12 - tN x1) ∧ inG x4 1 (10 - tN x2) ∧ inR x5 8)) (sPlan (w0, w1, bf, ho, un) (tN x1) (tN x2) (tN x3) (tN x4) (tN x5)) (w0, w1, bf, ho, un)).2.1 u) (fun (u : Nat → Nat) => [kO q0 4 [.int (nI (cdB (inR x1 12 ∧ inR x2 10) (inG x3 1 (12 - tN x1) ∧ inG x4 1 (10 - tN x2) ∧ inR x5 8))), .ref q1, .ref q2, .ref q3, .ref q4, .ref q5, .ref q6], kC G q1 8 (nR (peF ((stIf (cdB (inR x1 12 ∧ inR x2 10) (inG x3 1 (12 - tN x1) ∧ inG x4 1 (10 - tN x2) ∧ inR x5 8)) (sPlan (w0, w1, bf, ho, un) (tN x1) (tN x2) (tN x3) (tN x4) (tN x5)) (w0, w1, bf, ho, un)).1) ((stIf (cdB (inR x1 12 ∧ inR x2 10) (inG x3 1 (12 - tN x1) ∧ inG x4 1 (10 - tN x2) ∧ inR x5 8)) (sPlan (w0, w1, bf, ho, un) (tN x1) (tN x2) (tN x3) (tN x4) (tN x5)) (w0, w1, bf, ho, un)).2.1))), kC G q2 120 (nR (knF ((stIf (cdB (inR x1 12 ∧ inR x2 10) (inG x3 1 (12 - tN x1) ∧ inG x4 1 (10 - tN x2) ∧ inR x5 8)) (sPlan (w0, w1, bf, ho, un) (tN x1) (tN x2) (tN x3) (tN x4) (tN x5)) (w0, w1, bf, ho, un)).1) ((stIf (cdB (inR x1 12 ∧ inR x2 10) (inG x3 1 (12 - tN x1) ∧ inG x4 1 (10 - tN x2) ∧ inR x5 8)) (sPlan (w0, w1, bf, ho, un) (tN x1) (tN x2) (tN x3) (tN x4) (tN x5)) (w0, w1, bf, ho, un)).2.1))), kC G q3 120 (nR (plF ((stIf (cdB (inR x1 12 ∧ inR x2 10) (inG x3 1 (12 - tN x1) ∧ inG x4 1 (10 - tN x2) ∧ inR x5 8)) (sPlan (w0, w1, bf, ho, un) (tN x1) (tN x2) (tN x3) (tN x4) (tN x5)) (w0, w1, bf, ho, un)).1) ((stIf (cdB (inR x1 12 ∧ inR x2 10) (inG x3 1 (12 - tN x1) ∧ inG x4 1 (10 - tN x2) ∧ inR x5 8)) (sPlan (w0, w1, bf, ho, un) (tN x1) (tN x2) (tN x3) (tN x4) (tN x5)) (w0, w1, bf, ho, un)).2.1))), kC G q4 80 (nR u), kC G q5 8 (nR ((stIf (cdB (inR x1 12 ∧ inR x2 10) (inG x3 1 (12 - tN x1) ∧ inG x4 1 (10 - tN x2) ∧ inR x5 8)) (sPlan (w0, w1, bf, ho, un) (tN x1) (tN x2) (tN x3) (tN x4) (tN x5)) (w0, w1, bf, ho, un)).2.2.1)), kC G q6 2 (nR (nuF ((stIf (cdB (inR x1 12 ∧ inR x2 10) (inG x3 1 (12 - tN x1) ∧ inG x4 1 (10 - tN x2) ∧ inR x5 8)) (sPlan (w0, w1, bf, ho, un) (tN x1) (tN x2) (tN x3) (tN x4) (tN x5)) (w0, w1, bf, ho, un)).2.2.2.1) ((stIf (cdB (inR x1 12 ∧ inR x2 10) (inG x3 1 (12 - tN x1) ∧ inG x4 1 (10 - tN x2) ∧ inR x5 8)) (sPlan (w0, w1, bf, ho, un) (tN x1) (tN x2) (tN x3) (tN x4) (tN x5)) (w0, w1, bf, ho, un)).2.2.2.2)))])) := by
  refine k_ofW (cc := cX4_plan) (maxL := 9) (rt := (some .int)) (by decide) rfl (Nat.le_of_ble_eq_true rfl) ?_
  intro p e s m args below meth c A ls Qs H locs hQ hAe hx hb hr hml hts hown hlocks hin hK hZ hP hD hS hA hl
  have hown : s.vm.findClass RX4 = some m.cls := hown
  have hl : lv_has ls 9 [(0, .ref q0), (1, .int x1), (2, .int x2), (3, .int x3), (4, .int x4), (5, .int x5)] := hl
  have m0b : vM w0 ≤ 60 := h0.2.2.2.1
  have m1b : vM w1 ≤ 60 := h1.2.2.2.1
  have t0b : vT w0 ≤ 20 := h0.2.2.1
  have t1b : vT w1 ≤ 20 := h1.2.2.1
  have pb0 : ∀ i, i < 60 → vP w0 i < 8 := h0.2.2.2.2.1
  have pb1 : ∀ i, i < 60 → vP w1 i < 8 := h1.2.2.2.2.1
  have kb0 : ∀ i, i < 60 → vK w0 i < 8 := h0.2.2.2.2.2.1
  have kb1 : ∀ i, i < 60 → vK w1 i < 8 := h1.2.2.2.2.2.1
  have rk0 := hru.1
  have rk1 := hru.2
  have hq_0 : ∀ w ∈ wsX40, w ∈ wsX4_plan := by decide +kernel
  have hq_1 : (Cond.fieldLink RX4 28 "KnotRugsModel" "thrown" "I").before args s = true := hts _ (by decide +kernel)
  have hq_2 : (Cond.fieldLink RX4 16 "KnotRugsModel" "plan" "[I").before args s = true := hts _ (by decide +kernel)
  refine lv_aload_n hx hb dX4_plan_0 rfl (lv_at hl 0 rfl) ?_
  refine lv_iconst (v := nI 0) hx hb dX4_plan_1 (by decide) ?_
  refine va_put (D := G.1) (ci := 4) (v := .int (nI 0)) (ty := .int) (C := RX4) (T := TX4) (N := 7) hx hb hts hq_0 tyX4 tyX4_ok nmX4 hown hK.1 hP hD hS 0 rfl rfl 0 (by decide) hq_1 (fun _ h9 => h9) rfl (by decide +kernel) rfl rfl (Nat.le_of_ble_eq_true rfl) dX4_plan_2 (fun H locs hP hD hS => ?_)
  have hP : va_P G.1 vwCl [kO q0 4 [.int (nI 0), .ref q1, .ref q2, .ref q3, .ref q4, .ref q5, .ref q6], kC G q1 8 (nR (peF w0 w1)), kC G q2 120 (nR (knF w0 w1)), kC G q3 120 (nR (plF w0 w1)), kC G q4 80 (nR ru), kC G q5 8 (nR bf), kC G q6 2 (nR (nuF ho un))] H := hP
  have hD : va_D A [kO q0 4 [.int (nI 0), .ref q1, .ref q2, .ref q3, .ref q4, .ref q5, .ref q6], kC G q1 8 (nR (peF w0 w1)), kC G q2 120 (nR (knF w0 w1)), kC G q3 120 (nR (plF w0 w1)), kC G q4 80 (nR ru), kC G q5 8 (nR bf), kC G q6 2 (nR (nuF ho un))] := hD
  refine lv_iload_n hx hb dX4_plan_5 rfl (lv_at hl 1 rfl) ?_
  refine lv_iload_n hx hb dX4_plan_6 rfl (lv_at hl 2 rfl) ?_
  refine k_calli (fun u_7 => [kO q0 4 [.int (nI 0), .ref q1, .ref q2, .ref q3, .ref q4, .ref q5, .ref q6], kC G q1 8 (nR (peF w0 w1)), kC G q2 120 (nR (knF w0 w1)), kC G q3 120 (nR (plF w0 w1)), kC G q4 80 (nR ru), kC G q5 8 (nR bf), kC G q6 2 (nR (nuF ho un))]) [kO q0 4 [.int (nI 0), .ref q1, .ref q2, .ref q3, .ref q4, .ref q5, .ref q6], kC G q1 8 (nR (peF w0 w1)), kC G q2 120 (nR (knF w0 w1)), kC G q3 120 (nR (plF w0 w1)), kC G q4 80 (nR ru), kC G q5 8 (nR bf), kC G q6 2 (nR (nuF ho un))] (k_runS (As := [.int x1, .int x2]) (rest := []) (wc := []) ⟨hx, hb, hml, hown, hts⟩ (m_isCell l G x1 x2 ) (va_cwS 2 hts gX4_plan_X4_isCell rfl rfl rfl (by decide +kernel) ⟨Nat.le_of_ble_eq_true rfl, Nat.le_of_ble_eq_true rfl⟩) hK hZ hP hD hS hA [] rfl rfl rfl hl.1 rfl (Nat.le_of_ble_eq_true rfl) dX4_plan_7 ⟨Nat.le_of_ble_eq_true rfl, Nat.le_of_ble_eq_true rfl⟩) hP hD hS hA [] [0, 1, 2, 3, 4, 5, 6] [0, 1, 2, 3, 4, 5, 6] rfl rfl rfl (by decide) (fun _ => rfl) rfl (fun r_7 u_7 H locs hp_7 hP hD hS => ?_)
  rcases hp_7 with ⟨rfl, hp_7⟩ | ⟨rfl, hp_7⟩
  · refine lv_if_ne (tgt := 19) hx hb dX4_plan_10 (by decide) (fun c_10 => ?_) (fun c_10 => absurd c_10 (by decide))
    obtain ⟨⟨a, ha, ea⟩, ⟨b, hb9, eb⟩⟩ := id hp_7
    subst ea
    subst eb
    have ta : tN (nI a) = a := tN_nI (by omega)
    have tb : tN (nI b) = b := tN_nI (by omega)
    refine lv_iload_n hx hb dX4_plan_19 rfl (lv_at hl 3 rfl) ?_
    refine lv_iconst (v := nI 1) hx hb dX4_plan_20 (by decide) ?_
    refine lv_bipush (v := nI 12) hx hb dX4_plan_21 (by decide) ?_
    refine lv_iload_n hx hb dX4_plan_23 rfl (lv_at hl 1 rfl) ?_
    refine lv_isub hx hb dX4_plan_24 ?_
    refine lv_topi (fun y_1 hy_1 => ?_)
    obtain rfl : y_1 = nI (12 - a) := hy_1.trans (pk_sub (a := 12) (b := a) (by omega))
    refine k_calli (fun u_25 => [kO q0 4 [.int (nI 0), .ref q1, .ref q2, .ref q3, .ref q4, .ref q5, .ref q6], kC G q1 8 (nR (peF w0 w1)), kC G q2 120 (nR (knF w0 w1)), kC G q3 120 (nR (plF w0 w1)), kC G q4 80 (nR ru), kC G q5 8 (nR bf), kC G q6 2 (nR (nuF ho un))]) [kO q0 4 [.int (nI 0), .ref q1, .ref q2, .ref q3, .ref q4, .ref q5, .ref q6], kC G q1 8 (nR (peF w0 w1)), kC G q2 120 (nR (knF w0 w1)), kC G q3 120 (nR (plF w0 w1)), kC G q4 80 (nR ru), kC G q5 8 (nR bf), kC G q6 2 (nR (nuF ho un))] (k_runS (As := [.int x3, .int (nI 1), .int (nI (12 - a))]) (rest := []) (wc := []) ⟨hx, hb, hml, hown, hts⟩ (m_isIn l G x3 (nI 1) (nI (12 - a)) ) (va_cwS 3 hts gX4_plan_X4_isIn rfl rfl rfl (by decide +kernel) ⟨Nat.le_of_ble_eq_true rfl, Nat.le_of_ble_eq_true rfl⟩) hK hZ hP hD hS hA [] rfl rfl rfl hl.1 rfl (Nat.le_of_ble_eq_true rfl) dX4_plan_25 ⟨Nat.le_of_ble_eq_true rfl, Nat.le_of_ble_eq_true rfl⟩) hP hD hS hA [] [0, 1, 2, 3, 4, 5, 6] [0, 1, 2, 3, 4, 5, 6] rfl rfl rfl (by decide) (fun _ => rfl) rfl (fun r_25 u_25 H locs hp_25 hP hD hS => ?_)
    rw [isIn_G (by decide) (by omega)] at hp_25
    rcases hp_25 with ⟨rfl, hp_25⟩ | ⟨rfl, hp_25⟩
    · refine lv_if_eq (tgt := 52) hx hb dX4_plan_28 (by decide) (fun c_28 => absurd c_28 (by decide)) (fun c_28 => ?_)
      refine lv_iload hx hb dX4_plan_31 (lv_at hl 4 rfl) ?_
      refine lv_iconst (v := nI 1) hx hb dX4_plan_33 (by decide) ?_
      refine lv_bipush (v := nI 10) hx hb dX4_plan_34 (by decide) ?_
      refine lv_iload_n hx hb dX4_plan_36 rfl (lv_at hl 2 rfl) ?_
      refine lv_isub hx hb dX4_plan_37 ?_
      refine lv_topi (fun y_2 hy_2 => ?_)
      obtain rfl : y_2 = nI (10 - b) := hy_2.trans (pk_sub (a := 10) (b := b) (by omega))
      refine k_calli (fun u_38 => [kO q0 4 [.int (nI 0), .ref q1, .ref q2, .ref q3, .ref q4, .ref q5, .ref q6], kC G q1 8 (nR (peF w0 w1)), kC G q2 120 (nR (knF w0 w1)), kC G q3 120 (nR (plF w0 w1)), kC G q4 80 (nR ru), kC G q5 8 (nR bf), kC G q6 2 (nR (nuF ho un))]) [kO q0 4 [.int (nI 0), .ref q1, .ref q2, .ref q3, .ref q4, .ref q5, .ref q6], kC G q1 8 (nR (peF w0 w1)), kC G q2 120 (nR (knF w0 w1)), kC G q3 120 (nR (plF w0 w1)), kC G q4 80 (nR ru), kC G q5 8 (nR bf), kC G q6 2 (nR (nuF ho un))] (k_runS (As := [.int x4, .int (nI 1), .int (nI (10 - b))]) (rest := []) (wc := []) ⟨hx, hb, hml, hown, hts⟩ (m_isIn l G x4 (nI 1) (nI (10 - b)) ) (va_cwS 3 hts gX4_plan_X4_isIn rfl rfl rfl (by decide +kernel) ⟨Nat.le_of_ble_eq_true rfl, Nat.le_of_ble_eq_true rfl⟩) hK hZ hP hD hS hA [] rfl rfl rfl hl.1 rfl (Nat.le_of_ble_eq_true rfl) dX4_plan_38 ⟨Nat.le_of_ble_eq_true rfl, Nat.le_of_ble_eq_true rfl⟩) hP hD hS hA [] [0, 1, 2, 3, 4, 5, 6] [0, 1, 2, 3, 4, 5, 6] rfl rfl rfl (by decide) (fun _ => rfl) rfl (fun r_38 u_38 H locs hp_38 hP hD hS => ?_)
      rw [isIn_G (by decide) (by omega)] at hp_38
      rcases hp_38 with ⟨rfl, hp_38⟩ | ⟨rfl, hp_38⟩
      · refine lv_if_eq (tgt := 52) hx hb dX4_plan_41 (by decide) (fun c_41 => absurd c_41 (by decide)) (fun c_41 => ?_)
        refine lv_iload hx hb dX4_plan_44 (lv_at hl 5 rfl) ?_
        refine k_calli (fun u_46 => [kO q0 4 [.int (nI 0), .ref q1, .ref q2, .ref q3, .ref q4, .ref q5, .ref q6], kC G q1 8 (nR (peF w0 w1)), kC G q2 120 (nR (knF w0 w1)), kC G q3 120 (nR (plF w0 w1)), kC G q4 80 (nR ru), kC G q5 8 (nR bf), kC G q6 2 (nR (nuF ho un))]) [kO q0 4 [.int (nI 0), .ref q1, .ref q2, .ref q3, .ref q4, .ref q5, .ref q6], kC G q1 8 (nR (peF w0 w1)), kC G q2 120 (nR (knF w0 w1)), kC G q3 120 (nR (plF w0 w1)), kC G q4 80 (nR ru), kC G q5 8 (nR bf), kC G q6 2 (nR (nuF ho un))] (k_runS (As := [.int x5]) (rest := []) (wc := []) ⟨hx, hb, hml, hown, hts⟩ (m_isColour l G x5 ) (va_cwS 1 hts gX4_plan_X4_isColour rfl rfl rfl (by decide +kernel) ⟨Nat.le_of_ble_eq_true rfl, Nat.le_of_ble_eq_true rfl⟩) hK hZ hP hD hS hA [] rfl rfl rfl hl.1 rfl (Nat.le_of_ble_eq_true rfl) dX4_plan_46 ⟨Nat.le_of_ble_eq_true rfl, Nat.le_of_ble_eq_true rfl⟩) hP hD hS hA [] [0, 1, 2, 3, 4, 5, 6] [0, 1, 2, 3, 4, 5, 6] rfl rfl rfl (by decide) (fun _ => rfl) rfl (fun r_46 u_46 H locs hp_46 hP hD hS => ?_)
        rcases hp_46 with ⟨rfl, hp_46⟩ | ⟨rfl, hp_46⟩
        · refine lv_if_ne (tgt := 58) hx hb dX4_plan_49 (by decide) (fun c_49 => ?_) (fun c_49 => absurd c_49 (by decide))
          obtain ⟨k, hka, hkb, ek⟩ := id hp_25
          subst ek
          have tk : tN (nI k) = k := tN_nI (by omega)
          obtain ⟨gg, hgga, hggb, egg⟩ := id hp_38
          subst egg
          have tgg : tN (nI gg) = gg := tN_nI (by omega)
          obtain ⟨v, hv, ev⟩ := id hp_46
          subst ev
          have tv : tN (nI v) = v := tN_nI (by omega)
          refine lv_iconst (v := nI 0) hx hb dX4_plan_58 (by decide) ?_
          refine lv_istore (lv' := [(6, .int (nI 0)), (0, .ref q0), (1, .int (nI a)), (2, .int (nI b)), (3, .int (nI k)), (4, .int (nI gg)), (5, .int (nI v))]) hx hb dX4_plan_59 hl (by decide) rfl (fun ls hl => ?_)
          refine lv_iload_n hx hb dX4_plan_61 rfl (lv_at hl 2 rfl) ?_
          refine lv_istore (lv' := [(7, .int (nI a)), (6, .int (nI 0)), (0, .ref q0), (1, .int (nI a)), (2, .int (nI b)), (3, .int (nI k)), (4, .int (nI gg)), (5, .int (nI v))]) hx hb dX4_plan_62 hl (by decide) rfl (fun ls hl => ?_)
          have loop_64 : ∀ (fu_64 : Nat) (ca : Nat) (z : Nat), ca ≤ k → z = sumN (plC w0 w1 v a b gg) ca → k < ca + fu_64 → ∀ (H : Heap) (locs : List Loc) (ls : Array Slot), va_P G.1 vwCl [kO q0 4 [.int (nI 0), .ref q1, .ref q2, .ref q3, .ref q4, .ref q5, .ref q6], kC G q1 8 (nR (peF w0 w1)), kC G q2 120 (nR (knF w0 w1)), kC G q3 120 (nR (plF (wPl (eC a b gg ca 0) 0 v w0) (wPl (eC a b gg ca 0) 1 v w1))), kC G q4 80 (nR ru), kC G q5 8 (nR bf), kC G q6 2 (nR (nuF ho un))] H → va_D A [kO q0 4 [.int (nI 0), .ref q1, .ref q2, .ref q3, .ref q4, .ref q5, .ref q6], kC G q1 8 (nR (peF w0 w1)), kC G q2 120 (nR (knF w0 w1)), kC G q3 120 (nR (plF (wPl (eC a b gg ca 0) 0 v w0) (wPl (eC a b gg ca 0) 1 v w1))), kC G q4 80 (nR ru), kC G q5 8 (nR bf), kC G q6 2 (nR (nuF ho un))] → va_S A s.heap H locs → lv_has ls 9 [(0, .ref q0), (1, .int (nI a)), (2, .int (nI b)), (3, .int (nI k)), (4, .int (nI gg)), (5, .int (nI v)), (6, .int (nI z)), (7, .int (nI (a + ca)))] → W p l e ({ frames := 2, cells := 0, slots := 0, locals := 43 } : Room) s m args below meth c H locs 0 0 Qs (F0 m 64 ls []) := by
            intro fu_64
            induction fu_64 with
            | zero =>
              intro ca z hca hz hf
              exact absurd hf (by omega)
            | succ fu_64 ih_64 =>
              intro ca z hca hz hf H locs ls hP hD hS hl
              refine lv_iload hx hb dX4_plan_64 (lv_at hl 7 rfl) ?_
              refine lv_iload_n hx hb dX4_plan_66 rfl (lv_at hl 1 rfl) ?_
              refine lv_iload_n hx hb dX4_plan_67 rfl (lv_at hl 3 rfl) ?_
              refine lv_iadd hx hb dX4_plan_68 ?_
              refine lv_topi (fun y_3 hy_3 => ?_)
              obtain rfl : y_3 = nI (a + k) := hy_3.trans (nI_add a k)
              refine lv_icmp_ge (tgt := 137) hx hb dX4_plan_69 (by decide) (fun c_69 => ?_) (fun c_69 => ?_)
              · have c_69 : (a + k) ≤ (a + ca) := (nI_leI (a := (a + k)) (b := (a + ca)) (by omega) (by omega)).mp c_69
                refine lv_iload hx hb dX4_plan_137 (lv_at hl 6 rfl) ?_
                have h9k : ca = k := by omega
                rw [h9k, eC_fin] at hP hD
                have hP : va_P G.1 vwCl [kO q0 4 [.int (nI 0), .ref q1, .ref q2, .ref q3, .ref q4, .ref q5, .ref q6], kC G q1 8 (nR (peF w0 w1)), kC G q2 120 (nR (knF w0 w1)), kC G q3 120 (nR (plF (wPl (dF a b k gg) 0 v w0) (wPl (dF a b k gg) 1 v w1))), kC G q4 80 (nR ru), kC G q5 8 (nR bf), kC G q6 2 (nR (nuF ho un))] H := hP
                have hD : va_D A [kO q0 4 [.int (nI 0), .ref q1, .ref q2, .ref q3, .ref q4, .ref q5, .ref q6], kC G q1 8 (nR (peF w0 w1)), kC G q2 120 (nR (knF w0 w1)), kC G q3 120 (nR (plF (wPl (dF a b k gg) 0 v w0) (wPl (dF a b k gg) 1 v w1))), kC G q4 80 (nR ru), kC G q5 8 (nR bf), kC G q6 2 (nR (nuF ho un))] := hD
                exact k_iret (ws := [kO q0 4 [.int (nI th), .ref q1, .ref q2, .ref q3, .ref q4, .ref q5, .ref q6], kC G q1 8 (nR (peF w0 w1)), kC G q2 120 (nR (knF w0 w1)), kC G q3 120 (nR (plF w0 w1)), kC G q4 80 (nR ru), kC G q5 8 (nR bf), kC G q6 2 (nR (nuF ho un))]) (ru) hx hb hr hlocks hP hD hS hAe hQ (Nat.le_of_ble_eq_true rfl) (Nat.le_of_ble_eq_true rfl) dX4_plan_139 (by rw [cdB_0 hp_7 ⟨(by rw [ta]; exact hp_25), (by rw [tb]; exact hp_38), hp_46⟩, ta, tb, tk, tgg, tv]; first | done | rfl) (⟨fun _ => (by rw [ta, tb, tk, tgg, tv, hz, h9k, aPlan_c]), by rw [cdB_0 hp_7 ⟨(by rw [ta]; exact hp_25), (by rw [tb]; exact hp_38), hp_46⟩]; exact hru⟩)
              · have c_69 : ¬ ((a + k) ≤ (a + ca)) := fun h9 => c_69 ((nI_leI (a := (a + k)) (b := (a + ca)) (by omega) (by omega)).mpr h9)
                refine lv_iload_n hx hb dX4_plan_72 rfl (lv_at hl 2 rfl) ?_
                refine lv_istore (lv' := [(8, .int (nI b)), (0, .ref q0), (1, .int (nI a)), (2, .int (nI b)), (3, .int (nI k)), (4, .int (nI gg)), (5, .int (nI v)), (6, .int (nI z)), (7, .int (nI (a + ca)))]) hx hb dX4_plan_73 hl (by decide) rfl (fun ls hl => ?_)
                have loop_75 : ∀ (fu_75 : Nat) (rb : Nat) (z2 : Nat), rb ≤ gg → z2 = sumN (plC w0 w1 v a b gg) ca + sumN (fun a9 => plE w0 w1 v (a + ca) (b + a9)) rb → gg < rb + fu_75 → ∀ (H : Heap) (locs : List Loc) (ls : Array Slot), va_P G.1 vwCl [kO q0 4 [.int (nI 0), .ref q1, .ref q2, .ref q3, .ref q4, .ref q5, .ref q6], kC G q1 8 (nR (peF w0 w1)), kC G q2 120 (nR (knF w0 w1)), kC G q3 120 (nR (plF (wPl (eC a b gg ca rb) 0 v w0) (wPl (eC a b gg ca rb) 1 v w1))), kC G q4 80 (nR ru), kC G q5 8 (nR bf), kC G q6 2 (nR (nuF ho un))] H → va_D A [kO q0 4 [.int (nI 0), .ref q1, .ref q2, .ref q3, .ref q4, .ref q5, .ref q6], kC G q1 8 (nR (peF w0 w1)), kC G q2 120 (nR (knF w0 w1)), kC G q3 120 (nR (plF (wPl (eC a b gg ca rb) 0 v w0) (wPl (eC a b gg ca rb) 1 v w1))), kC G q4 80 (nR ru), kC G q5 8 (nR bf), kC G q6 2 (nR (nuF ho un))] → va_S A s.heap H locs → lv_has ls 9 [(0, .ref q0), (1, .int (nI a)), (2, .int (nI b)), (3, .int (nI k)), (4, .int (nI gg)), (5, .int (nI v)), (6, .int (nI z2)), (7, .int (nI (a + ca))), (8, .int (nI (b + rb)))] → W p l e ({ frames := 2, cells := 0, slots := 0, locals := 43 } : Room) s m args below meth c H locs 0 0 Qs (F0 m 75 ls []) := by
                  intro fu_75
                  induction fu_75 with
                  | zero =>
                    intro rb z2 hrb hz2 hf2
                    exact absurd hf2 (by omega)
                  | succ fu_75 ih_75 =>
                    intro rb z2 hrb hz2 hf2 H locs ls hP hD hS hl
                    refine lv_iload hx hb dX4_plan_75 (lv_at hl 8 rfl) ?_
                    refine lv_iload_n hx hb dX4_plan_77 rfl (lv_at hl 2 rfl) ?_
                    refine lv_iload hx hb dX4_plan_78 (lv_at hl 4 rfl) ?_
                    refine lv_iadd hx hb dX4_plan_80 ?_
                    refine lv_topi (fun y_4 hy_4 => ?_)
                    obtain rfl : y_4 = nI (b + gg) := hy_4.trans (nI_add b gg)
                    refine lv_icmp_ge (tgt := 131) hx hb dX4_plan_81 (by decide) (fun c_81 => ?_) (fun c_81 => ?_)
                    · have c_81 : (b + gg) ≤ (b + rb) := (nI_leI (a := (b + gg)) (b := (b + rb)) (by omega) (by omega)).mp c_81
                      refine lv_iinc (v := nI ((a + ca) + 1)) (lv' := [(7, .int (nI ((a + ca) + 1))), (0, .ref q0), (1, .int (nI a)), (2, .int (nI b)), (3, .int (nI k)), (4, .int (nI gg)), (5, .int (nI v)), (6, .int (nI z2)), (8, .int (nI (b + rb)))]) hx hb dX4_plan_131 hl (k := 7) rfl (nI_add (a + ca) 1) (by decide) rfl (fun ls hl => ?_)
                      refine lv_goto (tgt := 64) hx hb dX4_plan_134 (by decide) ?_
                      have h9k : rb = gg := by omega
                      rw [h9k, eC_end] at hP hD
                      have hP : va_P G.1 vwCl [kO q0 4 [.int (nI 0), .ref q1, .ref q2, .ref q3, .ref q4, .ref q5, .ref q6], kC G q1 8 (nR (peF w0 w1)), kC G q2 120 (nR (knF w0 w1)), kC G q3 120 (nR (plF (wPl (eC a b gg (ca + 1) 0) 0 v w0) (wPl (eC a b gg (ca + 1) 0) 1 v w1))), kC G q4 80 (nR ru), kC G q5 8 (nR bf), kC G q6 2 (nR (nuF ho un))] H := hP
                      have hD : va_D A [kO q0 4 [.int (nI 0), .ref q1, .ref q2, .ref q3, .ref q4, .ref q5, .ref q6], kC G q1 8 (nR (peF w0 w1)), kC G q2 120 (nR (knF w0 w1)), kC G q3 120 (nR (plF (wPl (eC a b gg (ca + 1) 0) 0 v w0) (wPl (eC a b gg (ca + 1) 0) 1 v w1))), kC G q4 80 (nR ru), kC G q5 8 (nR bf), kC G q6 2 (nR (nuF ho un))] := hD
                      exact ih_64 (ca + 1) z2 (by omega) (by rw [hz2, h9k]; rfl) (by omega) _ _ _ hP hD hS (lv_sub hl [1, 2, 3, 4, 5, 6, 7, 0] rfl)
                    · have c_81 : ¬ ((b + gg) ≤ (b + rb)) := fun h9 => c_81 ((nI_leI (a := (b + gg)) (b := (b + rb)) (by omega) (by omega)).mpr h9)
                      rcases Nat.lt_or_ge (a + ca) 6 with hx6 | hx6
                      · skip
                        refine lv_iload hx hb dX4_plan_84 (lv_at hl 6 rfl) ?_
                        refine lv_aload_n hx hb dX4_plan_86 rfl (lv_at hl 0 rfl) ?_
                        have hsd9 : sdN (a + ca) = 0 := by unfold sdN; rw [if_pos hx6]
                        have hpl9 : plN (a + ca) (b + rb) < 60 := plN_lt (by omega) (by omega)
                        have hb0 : ∀ i, i < 60 → plW (eC a b gg ca rb) 0 v (vP w0) i < 8 := (wPl_ok hv h0).2.2.2.2.1
                        have hb1 : ∀ i, i < 60 → plW (eC a b gg ca rb) 1 v (vP w1) i < 8 := (wPl_ok hv h1).2.2.2.2.1
                        have x9 := pb0 _ hpl9
                        refine va_get (D := G.1) (ci := 4) (v := .ref q3) (C := RX4) (T := TX4) (N := 7) hx hb hts hq_0 hown hK.1 hP 0 rfl rfl 3 (by decide) hq_2 (fun _ h9 => h9) rfl dX4_plan_87 ?_
                        refine lv_iload hx hb dX4_plan_90 (lv_at hl 7 rfl) ?_
                        refine lv_iload hx hb dX4_plan_92 (lv_at hl 8 rfl) ?_
                        refine k_calli (fun _ => [kO q0 4 [.int (nI 0), .ref q1, .ref q2, .ref q3, .ref q4, .ref q5, .ref q6], kC G q1 8 (nR (peF w0 w1)), kC G q2 120 (nR (knF w0 w1)), kC G q3 120 (nR (plF (wPl (eC a b gg ca rb) 0 v w0) (wPl (eC a b gg ca rb) 1 v w1))), kC G q4 80 (nR ru), kC G q5 8 (nR bf), kC G q6 2 (nR (nuF ho un))]) [kO q0 4 [.int (nI 0), .ref q1, .ref q2, .ref q3, .ref q4, .ref q5, .ref q6], kC G q1 8 (nR (peF w0 w1)), kC G q2 120 (nR (knF w0 w1)), kC G q3 120 (nR (plF (wPl (eC a b gg ca rb) 0 v w0) (wPl (eC a b gg ca rb) 1 v w1))), kC G q4 80 (nR ru), kC G q5 8 (nR bf), kC G q6 2 (nR (nuF ho un))] (k_runS (As := [.int (nI (a + ca)), .int (nI (b + rb))]) (rest := [.ref q3, .int (nI z2)]) (wc := []) ⟨hx, hb, hml, hown, hts⟩ (m_at l G (a + ca) (b + rb) (by omega) (by omega)) (va_cwS 2 hts gX4_plan_X4_at rfl rfl rfl (by decide +kernel) ⟨Nat.le_of_ble_eq_true rfl, Nat.le_of_ble_eq_true rfl⟩) hK hZ hP hD hS hA [] rfl rfl rfl hl.1 rfl (Nat.le_of_ble_eq_true rfl) dX4_plan_94 ⟨Nat.le_of_ble_eq_true rfl, Nat.le_of_ble_eq_true rfl⟩) hP hD hS hA [] [0, 1, 2, 3, 4, 5, 6] [0, 1, 2, 3, 4, 5, 6] rfl rfl rfl (by decide) (fun _ => rfl) rfl (fun r_94 u_94 H locs hp_94 hP hD hS => ?_)
                        have hp_94 : r_94 = nI (plN (a + ca) (b + rb)) := hp_94.trans (congrArg nI (atN_0 (by omega)))
                        subst hp_94
                        have hi_5 : (plN (a + ca) (b + rb)) < 120 := by omega
                        refine va_iald (D := G.1) hx hb hK.1 hP 3 0 rfl rfl (vp_in_nI hi_5 (by omega)) dX4_plan_97 ?_
                        refine lv_topi (fun y_6 hy_6 => ?_)
                        obtain rfl : y_6 = nI ((plF (wPl (eC a b gg ca rb) 0 v w0) (wPl (eC a b gg ca rb) 1 v w1)) (plN (a + ca) (b + rb))) := hy_6.trans (nR_at (by omega))
                        refine lv_topi (fun y_7 hy_7 => ?_)
                        obtain rfl : y_7 = nI (vP w0 (plN (a + ca) (b + rb))) := hy_7.trans (congrArg nI ((plF_lo hpl9).trans (el_at (sd := 0) (by omega) hsd9.symm)))
                        refine lv_iload hx hb dX4_plan_98 (lv_at hl 5 rfl) ?_
                        refine lv_icmp_ne (tgt := 107) hx hb dX4_plan_100 (by decide) (fun c_100 => ?_) (fun c_100 => ?_)
                        · have c_100 : ¬ ((vP w0 (plN (a + ca) (b + rb))) = v) := fun h9 => c_100 ((nI_eq (a := (vP w0 (plN (a + ca) (b + rb)))) (b := v) (by omega) (by omega)).mpr h9)
                          have hpt : ptN w0 w1 (a + ca) (b + rb) = vP w0 (plN (a + ca) (b + rb)) := by unfold ptN rgW; rw [if_pos hx6]
                          have hpe : plE w0 w1 v (a + ca) (b + rb) = 1 := by unfold plE; rw [hpt, if_neg c_100]
                          refine lv_iconst (v := nI 1) hx hb dX4_plan_107 (by decide) ?_
                          refine lv_iadd hx hb dX4_plan_108 ?_
                          refine lv_topi (fun y_8 hy_8 => ?_)
                          obtain rfl : y_8 = nI (z2 + 1) := hy_8.trans (nI_add z2 1)
                          refine lv_istore (lv' := [(6, .int (nI (z2 + 1))), (0, .ref q0), (1, .int (nI a)), (2, .int (nI b)), (3, .int (nI k)), (4, .int (nI gg)), (5, .int (nI v)), (7, .int (nI (a + ca))), (8, .int (nI (b + rb)))]) hx hb dX4_plan_109 hl (by decide) rfl (fun ls hl => ?_)
                          refine lv_aload_n hx hb dX4_plan_111 rfl (lv_at hl 1 rfl) ?_
                          refine va_get (D := G.1) (ci := 4) (v := .ref q3) (C := RX4) (T := TX4) (N := 7) hx hb hts hq_0 hown hK.1 hP 0 rfl rfl 3 (by decide) hq_2 (fun _ h9 => h9) rfl dX4_plan_112 ?_
                          refine lv_iload hx hb dX4_plan_115 (lv_at hl 7 rfl) ?_
                          refine lv_iload hx hb dX4_plan_117 (lv_at hl 8 rfl) ?_
                          refine k_calli (fun _ => [kO q0 4 [.int (nI 0), .ref q1, .ref q2, .ref q3, .ref q4, .ref q5, .ref q6], kC G q1 8 (nR (peF w0 w1)), kC G q2 120 (nR (knF w0 w1)), kC G q3 120 (nR (plF (wPl (eC a b gg ca rb) 0 v w0) (wPl (eC a b gg ca rb) 1 v w1))), kC G q4 80 (nR ru), kC G q5 8 (nR bf), kC G q6 2 (nR (nuF ho un))]) [kO q0 4 [.int (nI 0), .ref q1, .ref q2, .ref q3, .ref q4, .ref q5, .ref q6], kC G q1 8 (nR (peF w0 w1)), kC G q2 120 (nR (knF w0 w1)), kC G q3 120 (nR (plF (wPl (eC a b gg ca rb) 0 v w0) (wPl (eC a b gg ca rb) 1 v w1))), kC G q4 80 (nR ru), kC G q5 8 (nR bf), kC G q6 2 (nR (nuF ho un))] (k_runS (As := [.int (nI (a + ca)), .int (nI (b + rb))]) (rest := [.ref q3]) (wc := []) ⟨hx, hb, hml, hown, hts⟩ (m_at l G (a + ca) (b + rb) (by omega) (by omega)) (va_cwS 2 hts gX4_plan_X4_at rfl rfl rfl (by decide +kernel) ⟨Nat.le_of_ble_eq_true rfl, Nat.le_of_ble_eq_true rfl⟩) hK hZ hP hD hS hA [] rfl rfl rfl hl.1 rfl (Nat.le_of_ble_eq_true rfl) dX4_plan_119 ⟨Nat.le_of_ble_eq_true rfl, Nat.le_of_ble_eq_true rfl⟩) hP hD hS hA [] [0, 1, 2, 3, 4, 5, 6] [0, 1, 2, 3, 4, 5, 6] rfl rfl rfl (by decide) (fun _ => rfl) rfl (fun r_119 u_119 H locs hp_119 hP hD hS => ?_)
                          have hp_119 : r_119 = nI (plN (a + ca) (b + rb)) := hp_119.trans (congrArg nI (atN_0 (by omega)))
                          subst hp_119
                          refine lv_iload hx hb dX4_plan_122 (lv_at hl 6 rfl) ?_
                          have hi_9 : (plN (a + ca) (b + rb)) < 120 := by omega
                          refine va_iast (D := G.1) hx hb hK.1 hP hD hS 3 0 rfl rfl (vp_in_nI hi_9 (by omega)) dX4_plan_124 (fun H locs hP hD hS => ?_)
                          rw [nR_upd (f := (plF (wPl (eC a b gg ca rb) 0 v w0) (wPl (eC a b gg ca rb) 1 v w1))) (k := (plN (a + ca) (b + rb))) (v := v) (by omega)] at hP hD
                          have hP : va_P G.1 vwCl [kO q0 4 [.int (nI 0), .ref q1, .ref q2, .ref q3, .ref q4, .ref q5, .ref q6], kC G q1 8 (nR (peF w0 w1)), kC G q2 120 (nR (knF w0 w1)), kC G q3 120 (nR (updN (plF (wPl (eC a b gg ca rb) 0 v w0) (wPl (eC a b gg ca rb) 1 v w1)) (plN (a + ca) (b + rb)) v)), kC G q4 80 (nR ru), kC G q5 8 (nR bf), kC G q6 2 (nR (nuF ho un))] H := hP
                          have hD : va_D A [kO q0 4 [.int (nI 0), .ref q1, .ref q2, .ref q3, .ref q4, .ref q5, .ref q6], kC G q1 8 (nR (peF w0 w1)), kC G q2 120 (nR (knF w0 w1)), kC G q3 120 (nR (updN (plF (wPl (eC a b gg ca rb) 0 v w0) (wPl (eC a b gg ca rb) 1 v w1)) (plN (a + ca) (b + rb)) v)), kC G q4 80 (nR ru), kC G q5 8 (nR bf), kC G q6 2 (nR (nuF ho un))] := hD
                          rw [pf_lo hpl9] at hP hD
                          have hpF : plF (updN (vP (wPl (eC a b gg ca rb) 0 v w0)) (plN (a + ca) (b + rb)) v, vK w0, vC w0, vN w0, vS w0, vT w0, vM w0, vO w0) (wPl (eC a b gg ca rb) 1 v w1) = plF (wPl (eC a b gg ca (rb + 1)) 0 v w0) (wPl (eC a b gg ca (rb + 1)) 1 v w1) := plF_of (el_own (sd := 0) (by omega) hsd9.symm) (el_oth (sd := 1) (by omega) (by decide) (by rw [hsd9]; decide))
                          rw [hpF] at hP hD
                          have hP : va_P G.1 vwCl [kO q0 4 [.int (nI 0), .ref q1, .ref q2, .ref q3, .ref q4, .ref q5, .ref q6], kC G q1 8 (nR (peF w0 w1)), kC G q2 120 (nR (knF w0 w1)), kC G q3 120 (nR (plF (wPl (eC a b gg ca (rb + 1)) 0 v w0) (wPl (eC a b gg ca (rb + 1)) 1 v w1))), kC G q4 80 (nR ru), kC G q5 8 (nR bf), kC G q6 2 (nR (nuF ho un))] H := hP
                          have hD : va_D A [kO q0 4 [.int (nI 0), .ref q1, .ref q2, .ref q3, .ref q4, .ref q5, .ref q6], kC G q1 8 (nR (peF w0 w1)), kC G q2 120 (nR (knF w0 w1)), kC G q3 120 (nR (plF (wPl (eC a b gg ca (rb + 1)) 0 v w0) (wPl (eC a b gg ca (rb + 1)) 1 v w1))), kC G q4 80 (nR ru), kC G q5 8 (nR bf), kC G q6 2 (nR (nuF ho un))] := hD
                          refine lv_iinc (v := nI ((b + rb) + 1)) (lv' := [(8, .int (nI ((b + rb) + 1))), (6, .int (nI (z2 + 1))), (0, .ref q0), (1, .int (nI a)), (2, .int (nI b)), (3, .int (nI k)), (4, .int (nI gg)), (5, .int (nI v)), (7, .int (nI (a + ca)))]) hx hb dX4_plan_125 hl (k := 8) rfl (nI_add (b + rb) 1) (by decide) rfl (fun ls hl => ?_)
                          refine lv_goto (tgt := 75) hx hb dX4_plan_128 (by decide) ?_
                          exact ih_75 (rb + 1) (z2 + 1) (by omega) (by rw [hz2]; show _ = _ + (_ + plE w0 w1 v (a + ca) (b + rb)); rw [hpe]; first | done | omega) (by omega) _ _ _ hP hD hS (lv_sub hl [2, 3, 4, 5, 6, 7, 1, 8, 0] rfl)
                        · have c_100 : (vP w0 (plN (a + ca) (b + rb))) = v := (nI_eq (a := (vP w0 (plN (a + ca) (b + rb)))) (b := v) (by omega) (by omega)).mp c_100
                          have hpt : ptN w0 w1 (a + ca) (b + rb) = vP w0 (plN (a + ca) (b + rb)) := by unfold ptN rgW; rw [if_pos hx6]
                          have hpe : plE w0 w1 v (a + ca) (b + rb) = 0 := by unfold plE; rw [hpt, if_pos c_100]
                          refine lv_iconst (v := nI 0) hx hb dX4_plan_103 (by decide) ?_
                          refine lv_goto (tgt := 108) hx hb dX4_plan_104 (by decide) ?_
                          refine lv_iadd hx hb dX4_plan_108 ?_
                          refine lv_topi (fun y_10 hy_10 => ?_)
                          obtain rfl : y_10 = nI (z2 + 0) := hy_10.trans (nI_add z2 0)
                          refine lv_istore (lv' := [(6, .int (nI (z2 + 0))), (0, .ref q0), (1, .int (nI a)), (2, .int (nI b)), (3, .int (nI k)), (4, .int (nI gg)), (5, .int (nI v)), (7, .int (nI (a + ca))), (8, .int (nI (b + rb)))]) hx hb dX4_plan_109 hl (by decide) rfl (fun ls hl => ?_)
                          refine lv_aload_n hx hb dX4_plan_111 rfl (lv_at hl 1 rfl) ?_
                          refine va_get (D := G.1) (ci := 4) (v := .ref q3) (C := RX4) (T := TX4) (N := 7) hx hb hts hq_0 hown hK.1 hP 0 rfl rfl 3 (by decide) hq_2 (fun _ h9 => h9) rfl dX4_plan_112 ?_
                          refine lv_iload hx hb dX4_plan_115 (lv_at hl 7 rfl) ?_
                          refine lv_iload hx hb dX4_plan_117 (lv_at hl 8 rfl) ?_
                          refine k_calli (fun _ => [kO q0 4 [.int (nI 0), .ref q1, .ref q2, .ref q3, .ref q4, .ref q5, .ref q6], kC G q1 8 (nR (peF w0 w1)), kC G q2 120 (nR (knF w0 w1)), kC G q3 120 (nR (plF (wPl (eC a b gg ca rb) 0 v w0) (wPl (eC a b gg ca rb) 1 v w1))), kC G q4 80 (nR ru), kC G q5 8 (nR bf), kC G q6 2 (nR (nuF ho un))]) [kO q0 4 [.int (nI 0), .ref q1, .ref q2, .ref q3, .ref q4, .ref q5, .ref q6], kC G q1 8 (nR (peF w0 w1)), kC G q2 120 (nR (knF w0 w1)), kC G q3 120 (nR (plF (wPl (eC a b gg ca rb) 0 v w0) (wPl (eC a b gg ca rb) 1 v w1))), kC G q4 80 (nR ru), kC G q5 8 (nR bf), kC G q6 2 (nR (nuF ho un))] (k_runS (As := [.int (nI (a + ca)), .int (nI (b + rb))]) (rest := [.ref q3]) (wc := []) ⟨hx, hb, hml, hown, hts⟩ (m_at l G (a + ca) (b + rb) (by omega) (by omega)) (va_cwS 2 hts gX4_plan_X4_at rfl rfl rfl (by decide +kernel) ⟨Nat.le_of_ble_eq_true rfl, Nat.le_of_ble_eq_true rfl⟩) hK hZ hP hD hS hA [] rfl rfl rfl hl.1 rfl (Nat.le_of_ble_eq_true rfl) dX4_plan_119 ⟨Nat.le_of_ble_eq_true rfl, Nat.le_of_ble_eq_true rfl⟩) hP hD hS hA [] [0, 1, 2, 3, 4, 5, 6] [0, 1, 2, 3, 4, 5, 6] rfl rfl rfl (by decide) (fun _ => rfl) rfl (fun r_119 u_119 H locs hp_119 hP hD hS => ?_)
                          have hp_119 : r_119 = nI (plN (a + ca) (b + rb)) := hp_119.trans (congrArg nI (atN_0 (by omega)))
                          subst hp_119
                          refine lv_iload hx hb dX4_plan_122 (lv_at hl 6 rfl) ?_
                          have hi_11 : (plN (a + ca) (b + rb)) < 120 := by omega
                          refine va_iast (D := G.1) hx hb hK.1 hP hD hS 3 0 rfl rfl (vp_in_nI hi_11 (by omega)) dX4_plan_124 (fun H locs hP hD hS => ?_)
                          rw [nR_upd (f := (plF (wPl (eC a b gg ca rb) 0 v w0) (wPl (eC a b gg ca rb) 1 v w1))) (k := (plN (a + ca) (b + rb))) (v := v) (by omega)] at hP hD
                          have hP : va_P G.1 vwCl [kO q0 4 [.int (nI 0), .ref q1, .ref q2, .ref q3, .ref q4, .ref q5, .ref q6], kC G q1 8 (nR (peF w0 w1)), kC G q2 120 (nR (knF w0 w1)), kC G q3 120 (nR (updN (plF (wPl (eC a b gg ca rb) 0 v w0) (wPl (eC a b gg ca rb) 1 v w1)) (plN (a + ca) (b + rb)) v)), kC G q4 80 (nR ru), kC G q5 8 (nR bf), kC G q6 2 (nR (nuF ho un))] H := hP
                          have hD : va_D A [kO q0 4 [.int (nI 0), .ref q1, .ref q2, .ref q3, .ref q4, .ref q5, .ref q6], kC G q1 8 (nR (peF w0 w1)), kC G q2 120 (nR (knF w0 w1)), kC G q3 120 (nR (updN (plF (wPl (eC a b gg ca rb) 0 v w0) (wPl (eC a b gg ca rb) 1 v w1)) (plN (a + ca) (b + rb)) v)), kC G q4 80 (nR ru), kC G q5 8 (nR bf), kC G q6 2 (nR (nuF ho un))] := hD
                          rw [pf_lo hpl9] at hP hD
                          have hpF : plF (updN (vP (wPl (eC a b gg ca rb) 0 v w0)) (plN (a + ca) (b + rb)) v, vK w0, vC w0, vN w0, vS w0, vT w0, vM w0, vO w0) (wPl (eC a b gg ca rb) 1 v w1) = plF (wPl (eC a b gg ca (rb + 1)) 0 v w0) (wPl (eC a b gg ca (rb + 1)) 1 v w1) := plF_of (el_own (sd := 0) (by omega) hsd9.symm) (el_oth (sd := 1) (by omega) (by decide) (by rw [hsd9]; decide))
                          rw [hpF] at hP hD
                          have hP : va_P G.1 vwCl [kO q0 4 [.int (nI 0), .ref q1, .ref q2, .ref q3, .ref q4, .ref q5, .ref q6], kC G q1 8 (nR (peF w0 w1)), kC G q2 120 (nR (knF w0 w1)), kC G q3 120 (nR (plF (wPl (eC a b gg ca (rb + 1)) 0 v w0) (wPl (eC a b gg ca (rb + 1)) 1 v w1))), kC G q4 80 (nR ru), kC G q5 8 (nR bf), kC G q6 2 (nR (nuF ho un))] H := hP
                          have hD : va_D A [kO q0 4 [.int (nI 0), .ref q1, .ref q2, .ref q3, .ref q4, .ref q5, .ref q6], kC G q1 8 (nR (peF w0 w1)), kC G q2 120 (nR (knF w0 w1)), kC G q3 120 (nR (plF (wPl (eC a b gg ca (rb + 1)) 0 v w0) (wPl (eC a b gg ca (rb + 1)) 1 v w1))), kC G q4 80 (nR ru), kC G q5 8 (nR bf), kC G q6 2 (nR (nuF ho un))] := hD
                          refine lv_iinc (v := nI ((b + rb) + 1)) (lv' := [(8, .int (nI ((b + rb) + 1))), (6, .int (nI (z2 + 0))), (0, .ref q0), (1, .int (nI a)), (2, .int (nI b)), (3, .int (nI k)), (4, .int (nI gg)), (5, .int (nI v)), (7, .int (nI (a + ca)))]) hx hb dX4_plan_125 hl (k := 8) rfl (nI_add (b + rb) 1) (by decide) rfl (fun ls hl => ?_)
                          refine lv_goto (tgt := 75) hx hb dX4_plan_128 (by decide) ?_
                          exact ih_75 (rb + 1) (z2 + 0) (by omega) (by rw [hz2]; show _ = _ + (_ + plE w0 w1 v (a + ca) (b + rb)); rw [hpe]; first | done | omega) (by omega) _ _ _ hP hD hS (lv_sub hl [2, 3, 4, 5, 6, 7, 1, 8, 0] rfl)
                      · skip
                        refine lv_iload hx hb dX4_plan_84 (lv_at hl 6 rfl) ?_
                        refine lv_aload_n hx hb dX4_plan_86 rfl (lv_at hl 0 rfl) ?_
                        have hsd9 : sdN (a + ca) = 1 := by unfold sdN; rw [if_neg (by omega)]
                        have hpl9 : plN (a + ca) (b + rb) < 60 := plN_lt (by omega) (by omega)
                        have hb0 : ∀ i, i < 60 → plW (eC a b gg ca rb) 0 v (vP w0) i < 8 := (wPl_ok hv h0).2.2.2.2.1
                        have hb1 : ∀ i, i < 60 → plW (eC a b gg ca rb) 1 v (vP w1) i < 8 := (wPl_ok hv h1).2.2.2.2.1
                        have x9 := pb1 _ hpl9
                        refine va_get (D := G.1) (ci := 4) (v := .ref q3) (C := RX4) (T := TX4) (N := 7) hx hb hts hq_0 hown hK.1 hP 0 rfl rfl 3 (by decide) hq_2 (fun _ h9 => h9) rfl dX4_plan_87 ?_
                        refine lv_iload hx hb dX4_plan_90 (lv_at hl 7 rfl) ?_
                        refine lv_iload hx hb dX4_plan_92 (lv_at hl 8 rfl) ?_
                        refine k_calli (fun _ => [kO q0 4 [.int (nI 0), .ref q1, .ref q2, .ref q3, .ref q4, .ref q5, .ref q6], kC G q1 8 (nR (peF w0 w1)), kC G q2 120 (nR (knF w0 w1)), kC G q3 120 (nR (plF (wPl (eC a b gg ca rb) 0 v w0) (wPl (eC a b gg ca rb) 1 v w1))), kC G q4 80 (nR ru), kC G q5 8 (nR bf), kC G q6 2 (nR (nuF ho un))]) [kO q0 4 [.int (nI 0), .ref q1, .ref q2, .ref q3, .ref q4, .ref q5, .ref q6], kC G q1 8 (nR (peF w0 w1)), kC G q2 120 (nR (knF w0 w1)), kC G q3 120 (nR (plF (wPl (eC a b gg ca rb) 0 v w0) (wPl (eC a b gg ca rb) 1 v w1))), kC G q4 80 (nR ru), kC G q5 8 (nR bf), kC G q6 2 (nR (nuF ho un))] (k_runS (As := [.int (nI (a + ca)), .int (nI (b + rb))]) (rest := [.ref q3, .int (nI z2)]) (wc := []) ⟨hx, hb, hml, hown, hts⟩ (m_at l G (a + ca) (b + rb) (by omega) (by omega)) (va_cwS 2 hts gX4_plan_X4_at rfl rfl rfl (by decide +kernel) ⟨Nat.le_of_ble_eq_true rfl, Nat.le_of_ble_eq_true rfl⟩) hK hZ hP hD hS hA [] rfl rfl rfl hl.1 rfl (Nat.le_of_ble_eq_true rfl) dX4_plan_94 ⟨Nat.le_of_ble_eq_true rfl, Nat.le_of_ble_eq_true rfl⟩) hP hD hS hA [] [0, 1, 2, 3, 4, 5, 6] [0, 1, 2, 3, 4, 5, 6] rfl rfl rfl (by decide) (fun _ => rfl) rfl (fun r_94 u_94 H locs hp_94 hP hD hS => ?_)
                        have hp_94 : r_94 = nI (60 + plN (a + ca) (b + rb)) := hp_94.trans (congrArg nI (atN_1 (by omega) (by omega)))
                        subst hp_94
                        have hi_12 : (60 + plN (a + ca) (b + rb)) < 120 := by omega
                        refine va_iald (D := G.1) hx hb hK.1 hP 3 0 rfl rfl (vp_in_nI hi_12 (by omega)) dX4_plan_97 ?_
                        refine lv_topi (fun y_13 hy_13 => ?_)
                        obtain rfl : y_13 = nI ((plF (wPl (eC a b gg ca rb) 0 v w0) (wPl (eC a b gg ca rb) 1 v w1)) (60 + plN (a + ca) (b + rb))) := hy_13.trans (nR_at (by omega))
                        refine lv_topi (fun y_14 hy_14 => ?_)
                        obtain rfl : y_14 = nI (vP w1 (plN (a + ca) (b + rb))) := hy_14.trans (congrArg nI ((plF_hi).trans (el_at (sd := 1) (by omega) hsd9.symm)))
                        refine lv_iload hx hb dX4_plan_98 (lv_at hl 5 rfl) ?_
                        refine lv_icmp_ne (tgt := 107) hx hb dX4_plan_100 (by decide) (fun c_100 => ?_) (fun c_100 => ?_)
                        · have c_100 : ¬ ((vP w1 (plN (a + ca) (b + rb))) = v) := fun h9 => c_100 ((nI_eq (a := (vP w1 (plN (a + ca) (b + rb)))) (b := v) (by omega) (by omega)).mpr h9)
                          have hpt : ptN w0 w1 (a + ca) (b + rb) = vP w1 (plN (a + ca) (b + rb)) := by unfold ptN rgW; rw [if_neg (by omega)]
                          have hpe : plE w0 w1 v (a + ca) (b + rb) = 1 := by unfold plE; rw [hpt, if_neg c_100]
                          refine lv_iconst (v := nI 1) hx hb dX4_plan_107 (by decide) ?_
                          refine lv_iadd hx hb dX4_plan_108 ?_
                          refine lv_topi (fun y_15 hy_15 => ?_)
                          obtain rfl : y_15 = nI (z2 + 1) := hy_15.trans (nI_add z2 1)
                          refine lv_istore (lv' := [(6, .int (nI (z2 + 1))), (0, .ref q0), (1, .int (nI a)), (2, .int (nI b)), (3, .int (nI k)), (4, .int (nI gg)), (5, .int (nI v)), (7, .int (nI (a + ca))), (8, .int (nI (b + rb)))]) hx hb dX4_plan_109 hl (by decide) rfl (fun ls hl => ?_)
                          refine lv_aload_n hx hb dX4_plan_111 rfl (lv_at hl 1 rfl) ?_
                          refine va_get (D := G.1) (ci := 4) (v := .ref q3) (C := RX4) (T := TX4) (N := 7) hx hb hts hq_0 hown hK.1 hP 0 rfl rfl 3 (by decide) hq_2 (fun _ h9 => h9) rfl dX4_plan_112 ?_
                          refine lv_iload hx hb dX4_plan_115 (lv_at hl 7 rfl) ?_
                          refine lv_iload hx hb dX4_plan_117 (lv_at hl 8 rfl) ?_
                          refine k_calli (fun _ => [kO q0 4 [.int (nI 0), .ref q1, .ref q2, .ref q3, .ref q4, .ref q5, .ref q6], kC G q1 8 (nR (peF w0 w1)), kC G q2 120 (nR (knF w0 w1)), kC G q3 120 (nR (plF (wPl (eC a b gg ca rb) 0 v w0) (wPl (eC a b gg ca rb) 1 v w1))), kC G q4 80 (nR ru), kC G q5 8 (nR bf), kC G q6 2 (nR (nuF ho un))]) [kO q0 4 [.int (nI 0), .ref q1, .ref q2, .ref q3, .ref q4, .ref q5, .ref q6], kC G q1 8 (nR (peF w0 w1)), kC G q2 120 (nR (knF w0 w1)), kC G q3 120 (nR (plF (wPl (eC a b gg ca rb) 0 v w0) (wPl (eC a b gg ca rb) 1 v w1))), kC G q4 80 (nR ru), kC G q5 8 (nR bf), kC G q6 2 (nR (nuF ho un))] (k_runS (As := [.int (nI (a + ca)), .int (nI (b + rb))]) (rest := [.ref q3]) (wc := []) ⟨hx, hb, hml, hown, hts⟩ (m_at l G (a + ca) (b + rb) (by omega) (by omega)) (va_cwS 2 hts gX4_plan_X4_at rfl rfl rfl (by decide +kernel) ⟨Nat.le_of_ble_eq_true rfl, Nat.le_of_ble_eq_true rfl⟩) hK hZ hP hD hS hA [] rfl rfl rfl hl.1 rfl (Nat.le_of_ble_eq_true rfl) dX4_plan_119 ⟨Nat.le_of_ble_eq_true rfl, Nat.le_of_ble_eq_true rfl⟩) hP hD hS hA [] [0, 1, 2, 3, 4, 5, 6] [0, 1, 2, 3, 4, 5, 6] rfl rfl rfl (by decide) (fun _ => rfl) rfl (fun r_119 u_119 H locs hp_119 hP hD hS => ?_)
                          have hp_119 : r_119 = nI (60 + plN (a + ca) (b + rb)) := hp_119.trans (congrArg nI (atN_1 (by omega) (by omega)))
                          subst hp_119
                          refine lv_iload hx hb dX4_plan_122 (lv_at hl 6 rfl) ?_
                          have hi_16 : (60 + plN (a + ca) (b + rb)) < 120 := by omega
                          refine va_iast (D := G.1) hx hb hK.1 hP hD hS 3 0 rfl rfl (vp_in_nI hi_16 (by omega)) dX4_plan_124 (fun H locs hP hD hS => ?_)
                          rw [nR_upd (f := (plF (wPl (eC a b gg ca rb) 0 v w0) (wPl (eC a b gg ca rb) 1 v w1))) (k := (60 + plN (a + ca) (b + rb))) (v := v) (by omega)] at hP hD
                          have hP : va_P G.1 vwCl [kO q0 4 [.int (nI 0), .ref q1, .ref q2, .ref q3, .ref q4, .ref q5, .ref q6], kC G q1 8 (nR (peF w0 w1)), kC G q2 120 (nR (knF w0 w1)), kC G q3 120 (nR (updN (plF (wPl (eC a b gg ca rb) 0 v w0) (wPl (eC a b gg ca rb) 1 v w1)) (60 + plN (a + ca) (b + rb)) v)), kC G q4 80 (nR ru), kC G q5 8 (nR bf), kC G q6 2 (nR (nuF ho un))] H := hP
                          have hD : va_D A [kO q0 4 [.int (nI 0), .ref q1, .ref q2, .ref q3, .ref q4, .ref q5, .ref q6], kC G q1 8 (nR (peF w0 w1)), kC G q2 120 (nR (knF w0 w1)), kC G q3 120 (nR (updN (plF (wPl (eC a b gg ca rb) 0 v w0) (wPl (eC a b gg ca rb) 1 v w1)) (60 + plN (a + ca) (b + rb)) v)), kC G q4 80 (nR ru), kC G q5 8 (nR bf), kC G q6 2 (nR (nuF ho un))] := hD
                          rw [pf_hi] at hP hD
                          have hpF : plF (wPl (eC a b gg ca rb) 0 v w0) (updN (vP (wPl (eC a b gg ca rb) 1 v w1)) (plN (a + ca) (b + rb)) v, vK w1, vC w1, vN w1, vS w1, vT w1, vM w1, vO w1) = plF (wPl (eC a b gg ca (rb + 1)) 0 v w0) (wPl (eC a b gg ca (rb + 1)) 1 v w1) := plF_of (el_oth (sd := 0) (by omega) (by decide) (by rw [hsd9]; decide)) (el_own (sd := 1) (by omega) hsd9.symm)
                          rw [hpF] at hP hD
                          have hP : va_P G.1 vwCl [kO q0 4 [.int (nI 0), .ref q1, .ref q2, .ref q3, .ref q4, .ref q5, .ref q6], kC G q1 8 (nR (peF w0 w1)), kC G q2 120 (nR (knF w0 w1)), kC G q3 120 (nR (plF (wPl (eC a b gg ca (rb + 1)) 0 v w0) (wPl (eC a b gg ca (rb + 1)) 1 v w1))), kC G q4 80 (nR ru), kC G q5 8 (nR bf), kC G q6 2 (nR (nuF ho un))] H := hP
                          have hD : va_D A [kO q0 4 [.int (nI 0), .ref q1, .ref q2, .ref q3, .ref q4, .ref q5, .ref q6], kC G q1 8 (nR (peF w0 w1)), kC G q2 120 (nR (knF w0 w1)), kC G q3 120 (nR (plF (wPl (eC a b gg ca (rb + 1)) 0 v w0) (wPl (eC a b gg ca (rb + 1)) 1 v w1))), kC G q4 80 (nR ru), kC G q5 8 (nR bf), kC G q6 2 (nR (nuF ho un))] := hD
                          refine lv_iinc (v := nI ((b + rb) + 1)) (lv' := [(8, .int (nI ((b + rb) + 1))), (6, .int (nI (z2 + 1))), (0, .ref q0), (1, .int (nI a)), (2, .int (nI b)), (3, .int (nI k)), (4, .int (nI gg)), (5, .int (nI v)), (7, .int (nI (a + ca)))]) hx hb dX4_plan_125 hl (k := 8) rfl (nI_add (b + rb) 1) (by decide) rfl (fun ls hl => ?_)
                          refine lv_goto (tgt := 75) hx hb dX4_plan_128 (by decide) ?_
                          exact ih_75 (rb + 1) (z2 + 1) (by omega) (by rw [hz2]; show _ = _ + (_ + plE w0 w1 v (a + ca) (b + rb)); rw [hpe]; first | done | omega) (by omega) _ _ _ hP hD hS (lv_sub hl [2, 3, 4, 5, 6, 7, 1, 8, 0] rfl)
                        · have c_100 : (vP w1 (plN (a + ca) (b + rb))) = v := (nI_eq (a := (vP w1 (plN (a + ca) (b + rb)))) (b := v) (by omega) (by omega)).mp c_100
                          have hpt : ptN w0 w1 (a + ca) (b + rb) = vP w1 (plN (a + ca) (b + rb)) := by unfold ptN rgW; rw [if_neg (by omega)]
                          have hpe : plE w0 w1 v (a + ca) (b + rb) = 0 := by unfold plE; rw [hpt, if_pos c_100]
                          refine lv_iconst (v := nI 0) hx hb dX4_plan_103 (by decide) ?_
                          refine lv_goto (tgt := 108) hx hb dX4_plan_104 (by decide) ?_
                          refine lv_iadd hx hb dX4_plan_108 ?_
                          refine lv_topi (fun y_17 hy_17 => ?_)
                          obtain rfl : y_17 = nI (z2 + 0) := hy_17.trans (nI_add z2 0)
                          refine lv_istore (lv' := [(6, .int (nI (z2 + 0))), (0, .ref q0), (1, .int (nI a)), (2, .int (nI b)), (3, .int (nI k)), (4, .int (nI gg)), (5, .int (nI v)), (7, .int (nI (a + ca))), (8, .int (nI (b + rb)))]) hx hb dX4_plan_109 hl (by decide) rfl (fun ls hl => ?_)
                          refine lv_aload_n hx hb dX4_plan_111 rfl (lv_at hl 1 rfl) ?_
                          refine va_get (D := G.1) (ci := 4) (v := .ref q3) (C := RX4) (T := TX4) (N := 7) hx hb hts hq_0 hown hK.1 hP 0 rfl rfl 3 (by decide) hq_2 (fun _ h9 => h9) rfl dX4_plan_112 ?_
                          refine lv_iload hx hb dX4_plan_115 (lv_at hl 7 rfl) ?_
                          refine lv_iload hx hb dX4_plan_117 (lv_at hl 8 rfl) ?_
                          refine k_calli (fun _ => [kO q0 4 [.int (nI 0), .ref q1, .ref q2, .ref q3, .ref q4, .ref q5, .ref q6], kC G q1 8 (nR (peF w0 w1)), kC G q2 120 (nR (knF w0 w1)), kC G q3 120 (nR (plF (wPl (eC a b gg ca rb) 0 v w0) (wPl (eC a b gg ca rb) 1 v w1))), kC G q4 80 (nR ru), kC G q5 8 (nR bf), kC G q6 2 (nR (nuF ho un))]) [kO q0 4 [.int (nI 0), .ref q1, .ref q2, .ref q3, .ref q4, .ref q5, .ref q6], kC G q1 8 (nR (peF w0 w1)), kC G q2 120 (nR (knF w0 w1)), kC G q3 120 (nR (plF (wPl (eC a b gg ca rb) 0 v w0) (wPl (eC a b gg ca rb) 1 v w1))), kC G q4 80 (nR ru), kC G q5 8 (nR bf), kC G q6 2 (nR (nuF ho un))] (k_runS (As := [.int (nI (a + ca)), .int (nI (b + rb))]) (rest := [.ref q3]) (wc := []) ⟨hx, hb, hml, hown, hts⟩ (m_at l G (a + ca) (b + rb) (by omega) (by omega)) (va_cwS 2 hts gX4_plan_X4_at rfl rfl rfl (by decide +kernel) ⟨Nat.le_of_ble_eq_true rfl, Nat.le_of_ble_eq_true rfl⟩) hK hZ hP hD hS hA [] rfl rfl rfl hl.1 rfl (Nat.le_of_ble_eq_true rfl) dX4_plan_119 ⟨Nat.le_of_ble_eq_true rfl, Nat.le_of_ble_eq_true rfl⟩) hP hD hS hA [] [0, 1, 2, 3, 4, 5, 6] [0, 1, 2, 3, 4, 5, 6] rfl rfl rfl (by decide) (fun _ => rfl) rfl (fun r_119 u_119 H locs hp_119 hP hD hS => ?_)
                          have hp_119 : r_119 = nI (60 + plN (a + ca) (b + rb)) := hp_119.trans (congrArg nI (atN_1 (by omega) (by omega)))
                          subst hp_119
                          refine lv_iload hx hb dX4_plan_122 (lv_at hl 6 rfl) ?_
                          have hi_18 : (60 + plN (a + ca) (b + rb)) < 120 := by omega
                          refine va_iast (D := G.1) hx hb hK.1 hP hD hS 3 0 rfl rfl (vp_in_nI hi_18 (by omega)) dX4_plan_124 (fun H locs hP hD hS => ?_)
                          rw [nR_upd (f := (plF (wPl (eC a b gg ca rb) 0 v w0) (wPl (eC a b gg ca rb) 1 v w1))) (k := (60 + plN (a + ca) (b + rb))) (v := v) (by omega)] at hP hD
                          have hP : va_P G.1 vwCl [kO q0 4 [.int (nI 0), .ref q1, .ref q2, .ref q3, .ref q4, .ref q5, .ref q6], kC G q1 8 (nR (peF w0 w1)), kC G q2 120 (nR (knF w0 w1)), kC G q3 120 (nR (updN (plF (wPl (eC a b gg ca rb) 0 v w0) (wPl (eC a b gg ca rb) 1 v w1)) (60 + plN (a + ca) (b + rb)) v)), kC G q4 80 (nR ru), kC G q5 8 (nR bf), kC G q6 2 (nR (nuF ho un))] H := hP
                          have hD : va_D A [kO q0 4 [.int (nI 0), .ref q1, .ref q2, .ref q3, .ref q4, .ref q5, .ref q6], kC G q1 8 (nR (peF w0 w1)), kC G q2 120 (nR (knF w0 w1)), kC G q3 120 (nR (updN (plF (wPl (eC a b gg ca rb) 0 v w0) (wPl (eC a b gg ca rb) 1 v w1)) (60 + plN (a + ca) (b + rb)) v)), kC G q4 80 (nR ru), kC G q5 8 (nR bf), kC G q6 2 (nR (nuF ho un))] := hD
                          rw [pf_hi] at hP hD
                          have hpF : plF (wPl (eC a b gg ca rb) 0 v w0) (updN (vP (wPl (eC a b gg ca rb) 1 v w1)) (plN (a + ca) (b + rb)) v, vK w1, vC w1, vN w1, vS w1, vT w1, vM w1, vO w1) = plF (wPl (eC a b gg ca (rb + 1)) 0 v w0) (wPl (eC a b gg ca (rb + 1)) 1 v w1) := plF_of (el_oth (sd := 0) (by omega) (by decide) (by rw [hsd9]; decide)) (el_own (sd := 1) (by omega) hsd9.symm)
                          rw [hpF] at hP hD
                          have hP : va_P G.1 vwCl [kO q0 4 [.int (nI 0), .ref q1, .ref q2, .ref q3, .ref q4, .ref q5, .ref q6], kC G q1 8 (nR (peF w0 w1)), kC G q2 120 (nR (knF w0 w1)), kC G q3 120 (nR (plF (wPl (eC a b gg ca (rb + 1)) 0 v w0) (wPl (eC a b gg ca (rb + 1)) 1 v w1))), kC G q4 80 (nR ru), kC G q5 8 (nR bf), kC G q6 2 (nR (nuF ho un))] H := hP
                          have hD : va_D A [kO q0 4 [.int (nI 0), .ref q1, .ref q2, .ref q3, .ref q4, .ref q5, .ref q6], kC G q1 8 (nR (peF w0 w1)), kC G q2 120 (nR (knF w0 w1)), kC G q3 120 (nR (plF (wPl (eC a b gg ca (rb + 1)) 0 v w0) (wPl (eC a b gg ca (rb + 1)) 1 v w1))), kC G q4 80 (nR ru), kC G q5 8 (nR bf), kC G q6 2 (nR (nuF ho un))] := hD
                          refine lv_iinc (v := nI ((b + rb) + 1)) (lv' := [(8, .int (nI ((b + rb) + 1))), (6, .int (nI (z2 + 0))), (0, .ref q0), (1, .int (nI a)), (2, .int (nI b)), (3, .int (nI k)), (4, .int (nI gg)), (5, .int (nI v)), (7, .int (nI (a + ca)))]) hx hb dX4_plan_125 hl (k := 8) rfl (nI_add (b + rb) 1) (by decide) rfl (fun ls hl => ?_)
                          refine lv_goto (tgt := 75) hx hb dX4_plan_128 (by decide) ?_
                          exact ih_75 (rb + 1) (z2 + 0) (by omega) (by rw [hz2]; show _ = _ + (_ + plE w0 w1 v (a + ca) (b + rb)); rw [hpe]; first | done | omega) (by omega) _ _ _ hP hD hS (lv_sub hl [2, 3, 4, 5, 6, 7, 1, 8, 0] rfl)
                exact loop_75 (gg + 1) 0 z (by omega) (by rw [hz]; rfl) (by omega) H locs ls hP hD hS (lv_sub hl [1, 2, 3, 4, 5, 6, 7, 8, 0] rfl)
          have hpF : plF w0 w1 = plF (wPl (eC a b gg 0 0) 0 v w0) (wPl (eC a b gg 0 0) 1 v w1) := plF_of (eC_0 (P := vP w0)).symm (eC_0 (P := vP w1)).symm
          rw [hpF] at hP hD
          exact loop_64 (k + 1) 0 0 (by omega) rfl (by omega) H locs ls hP hD hS (lv_sub hl [2, 3, 4, 5, 6, 7, 1, 0] rfl)
        · refine lv_if_ne (tgt := 58) hx hb dX4_plan_49 (by decide) (fun c_49 => absurd c_49 (by decide)) (fun c_49 => ?_)
          refine lv_aload_n hx hb dX4_plan_52 rfl (lv_at hl 0 rfl) ?_
          refine lv_iconst (v := nI 2) hx hb dX4_plan_53 (by decide) ?_
          refine k_calli (fun _ => [kO q0 4 [.int (nI 2), .ref q1, .ref q2, .ref q3, .ref q4, .ref q5, .ref q6], kC G q1 8 (nR (peF w0 w1)), kC G q2 120 (nR (knF w0 w1)), kC G q3 120 (nR (plF w0 w1)), kC G q4 80 (nR ru), kC G q5 8 (nR bf), kC G q6 2 (nR (nuF ho un))]) [kC G q1 8 (nR (peF w0 w1)), kC G q2 120 (nR (knF w0 w1)), kC G q3 120 (nR (plF w0 w1)), kC G q4 80 (nR ru), kC G q5 8 (nR bf), kC G q6 2 (nR (nuF ho un))] (k_runV (As := [.int (nI 2)]) (rest := []) (wc := [kO q0 4 [.int (nI 0), .ref q1, .ref q2, .ref q3, .ref q4, .ref q5, .ref q6]]) ⟨hx, hb, hml, hown, hts⟩ (m_fail l G q0 q1 q2 q3 q4 q5 q6 0 2 ) (cwV 1 hts gX4_plan_X4_fail rfl rfl rfl (by decide +kernel) ⟨Nat.le_of_ble_eq_true rfl, Nat.le_of_ble_eq_true rfl⟩) hK hZ hP hD hS hA [0] rfl rfl 0 4 rfl rfl rfl rfl hl.1 rfl (Nat.le_of_ble_eq_true rfl) dX4_plan_54 ⟨Nat.le_of_ble_eq_true rfl, Nat.le_of_ble_eq_true rfl⟩) hP hD hS hA [0] [1, 2, 3, 4, 5, 6] [6, 0, 1, 2, 3, 4, 5] rfl rfl rfl (by decide) (fun _ => rfl) rfl (fun r_54 u_54 H locs hp_54 hP hD hS => ?_)
          have hp_54 : r_54 = nI 0 := hp_54
          subst hp_54
          exact k_iret (ws := [kO q0 4 [.int (nI th), .ref q1, .ref q2, .ref q3, .ref q4, .ref q5, .ref q6], kC G q1 8 (nR (peF w0 w1)), kC G q2 120 (nR (knF w0 w1)), kC G q3 120 (nR (plF w0 w1)), kC G q4 80 (nR ru), kC G q5 8 (nR bf), kC G q6 2 (nR (nuF ho un))]) (ru) hx hb hr hlocks hP hD hS hAe hQ (Nat.le_of_ble_eq_true rfl) (Nat.le_of_ble_eq_true rfl) dX4_plan_57 (by first | (rw [cdB_2 hp_7 (fun q => hp_46 q.2.2)]; first | done | rfl) | (rw [cdB_2 hp_7 (fun q => hp_38 (by have q2 := q.2.1; rw [tb] at q2; exact q2))]; first | done | rfl) | (rw [cdB_2 hp_7 (fun q => hp_25 (by have q2 := q.1; rw [ta] at q2; exact q2))]; first | done | rfl)) (by first | exact ⟨fun q => absurd ((cdB_2 hp_7 (fun q => hp_46 q.2.2)).symm.trans q) (by decide), by rw [cdB_2 hp_7 (fun q => hp_46 q.2.2)]; exact hru⟩ | exact ⟨fun q => absurd ((cdB_2 hp_7 (fun q => hp_38 (by have q2 := q.2.1; rw [tb] at q2; exact q2))).symm.trans q) (by decide), by rw [cdB_2 hp_7 (fun q => hp_38 (by have q2 := q.2.1; rw [tb] at q2; exact q2))]; exact hru⟩ | exact ⟨fun q => absurd ((cdB_2 hp_7 (fun q => hp_25 (by have q2 := q.1; rw [ta] at q2; exact q2))).symm.trans q) (by decide), by rw [cdB_2 hp_7 (fun q => hp_25 (by have q2 := q.1; rw [ta] at q2; exact q2))]; exact hru⟩)
      · refine lv_if_eq (tgt := 52) hx hb dX4_plan_41 (by decide) (fun c_41 => ?_) (fun c_41 => absurd c_41 (by decide))
        refine lv_aload_n hx hb dX4_plan_52 rfl (lv_at hl 0 rfl) ?_
        refine lv_iconst (v := nI 2) hx hb dX4_plan_53 (by decide) ?_
        refine k_calli (fun _ => [kO q0 4 [.int (nI 2), .ref q1, .ref q2, .ref q3, .ref q4, .ref q5, .ref q6], kC G q1 8 (nR (peF w0 w1)), kC G q2 120 (nR (knF w0 w1)), kC G q3 120 (nR (plF w0 w1)), kC G q4 80 (nR ru), kC G q5 8 (nR bf), kC G q6 2 (nR (nuF ho un))]) [kC G q1 8 (nR (peF w0 w1)), kC G q2 120 (nR (knF w0 w1)), kC G q3 120 (nR (plF w0 w1)), kC G q4 80 (nR ru), kC G q5 8 (nR bf), kC G q6 2 (nR (nuF ho un))] (k_runV (As := [.int (nI 2)]) (rest := []) (wc := [kO q0 4 [.int (nI 0), .ref q1, .ref q2, .ref q3, .ref q4, .ref q5, .ref q6]]) ⟨hx, hb, hml, hown, hts⟩ (m_fail l G q0 q1 q2 q3 q4 q5 q6 0 2 ) (cwV 1 hts gX4_plan_X4_fail rfl rfl rfl (by decide +kernel) ⟨Nat.le_of_ble_eq_true rfl, Nat.le_of_ble_eq_true rfl⟩) hK hZ hP hD hS hA [0] rfl rfl 0 4 rfl rfl rfl rfl hl.1 rfl (Nat.le_of_ble_eq_true rfl) dX4_plan_54 ⟨Nat.le_of_ble_eq_true rfl, Nat.le_of_ble_eq_true rfl⟩) hP hD hS hA [0] [1, 2, 3, 4, 5, 6] [6, 0, 1, 2, 3, 4, 5] rfl rfl rfl (by decide) (fun _ => rfl) rfl (fun r_54 u_54 H locs hp_54 hP hD hS => ?_)
        have hp_54 : r_54 = nI 0 := hp_54
        subst hp_54
        exact k_iret (ws := [kO q0 4 [.int (nI th), .ref q1, .ref q2, .ref q3, .ref q4, .ref q5, .ref q6], kC G q1 8 (nR (peF w0 w1)), kC G q2 120 (nR (knF w0 w1)), kC G q3 120 (nR (plF w0 w1)), kC G q4 80 (nR ru), kC G q5 8 (nR bf), kC G q6 2 (nR (nuF ho un))]) (ru) hx hb hr hlocks hP hD hS hAe hQ (Nat.le_of_ble_eq_true rfl) (Nat.le_of_ble_eq_true rfl) dX4_plan_57 (by first | (rw [cdB_2 hp_7 (fun q => hp_46 q.2.2)]; first | done | rfl) | (rw [cdB_2 hp_7 (fun q => hp_38 (by have q2 := q.2.1; rw [tb] at q2; exact q2))]; first | done | rfl) | (rw [cdB_2 hp_7 (fun q => hp_25 (by have q2 := q.1; rw [ta] at q2; exact q2))]; first | done | rfl)) (by first | exact ⟨fun q => absurd ((cdB_2 hp_7 (fun q => hp_46 q.2.2)).symm.trans q) (by decide), by rw [cdB_2 hp_7 (fun q => hp_46 q.2.2)]; exact hru⟩ | exact ⟨fun q => absurd ((cdB_2 hp_7 (fun q => hp_38 (by have q2 := q.2.1; rw [tb] at q2; exact q2))).symm.trans q) (by decide), by rw [cdB_2 hp_7 (fun q => hp_38 (by have q2 := q.2.1; rw [tb] at q2; exact q2))]; exact hru⟩ | exact ⟨fun q => absurd ((cdB_2 hp_7 (fun q => hp_25 (by have q2 := q.1; rw [ta] at q2; exact q2))).symm.trans q) (by decide), by rw [cdB_2 hp_7 (fun q => hp_25 (by have q2 := q.1; rw [ta] at q2; exact q2))]; exact hru⟩)
    · refine lv_if_eq (tgt := 52) hx hb dX4_plan_28 (by decide) (fun c_28 => ?_) (fun c_28 => absurd c_28 (by decide))
      refine lv_aload_n hx hb dX4_plan_52 rfl (lv_at hl 0 rfl) ?_
      refine lv_iconst (v := nI 2) hx hb dX4_plan_53 (by decide) ?_
      refine k_calli (fun _ => [kO q0 4 [.int (nI 2), .ref q1, .ref q2, .ref q3, .ref q4, .ref q5, .ref q6], kC G q1 8 (nR (peF w0 w1)), kC G q2 120 (nR (knF w0 w1)), kC G q3 120 (nR (plF w0 w1)), kC G q4 80 (nR ru), kC G q5 8 (nR bf), kC G q6 2 (nR (nuF ho un))]) [kC G q1 8 (nR (peF w0 w1)), kC G q2 120 (nR (knF w0 w1)), kC G q3 120 (nR (plF w0 w1)), kC G q4 80 (nR ru), kC G q5 8 (nR bf), kC G q6 2 (nR (nuF ho un))] (k_runV (As := [.int (nI 2)]) (rest := []) (wc := [kO q0 4 [.int (nI 0), .ref q1, .ref q2, .ref q3, .ref q4, .ref q5, .ref q6]]) ⟨hx, hb, hml, hown, hts⟩ (m_fail l G q0 q1 q2 q3 q4 q5 q6 0 2 ) (cwV 1 hts gX4_plan_X4_fail rfl rfl rfl (by decide +kernel) ⟨Nat.le_of_ble_eq_true rfl, Nat.le_of_ble_eq_true rfl⟩) hK hZ hP hD hS hA [0] rfl rfl 0 4 rfl rfl rfl rfl hl.1 rfl (Nat.le_of_ble_eq_true rfl) dX4_plan_54 ⟨Nat.le_of_ble_eq_true rfl, Nat.le_of_ble_eq_true rfl⟩) hP hD hS hA [0] [1, 2, 3, 4, 5, 6] [6, 0, 1, 2, 3, 4, 5] rfl rfl rfl (by decide) (fun _ => rfl) rfl (fun r_54 u_54 H locs hp_54 hP hD hS => ?_)
      have hp_54 : r_54 = nI 0 := hp_54
      subst hp_54
      exact k_iret (ws := [kO q0 4 [.int (nI th), .ref q1, .ref q2, .ref q3, .ref q4, .ref q5, .ref q6], kC G q1 8 (nR (peF w0 w1)), kC G q2 120 (nR (knF w0 w1)), kC G q3 120 (nR (plF w0 w1)), kC G q4 80 (nR ru), kC G q5 8 (nR bf), kC G q6 2 (nR (nuF ho un))]) (ru) hx hb hr hlocks hP hD hS hAe hQ (Nat.le_of_ble_eq_true rfl) (Nat.le_of_ble_eq_true rfl) dX4_plan_57 (by first | (rw [cdB_2 hp_7 (fun q => hp_46 q.2.2)]; first | done | rfl) | (rw [cdB_2 hp_7 (fun q => hp_38 (by have q2 := q.2.1; rw [tb] at q2; exact q2))]; first | done | rfl) | (rw [cdB_2 hp_7 (fun q => hp_25 (by have q2 := q.1; rw [ta] at q2; exact q2))]; first | done | rfl)) (by first | exact ⟨fun q => absurd ((cdB_2 hp_7 (fun q => hp_46 q.2.2)).symm.trans q) (by decide), by rw [cdB_2 hp_7 (fun q => hp_46 q.2.2)]; exact hru⟩ | exact ⟨fun q => absurd ((cdB_2 hp_7 (fun q => hp_38 (by have q2 := q.2.1; rw [tb] at q2; exact q2))).symm.trans q) (by decide), by rw [cdB_2 hp_7 (fun q => hp_38 (by have q2 := q.2.1; rw [tb] at q2; exact q2))]; exact hru⟩ | exact ⟨fun q => absurd ((cdB_2 hp_7 (fun q => hp_25 (by have q2 := q.1; rw [ta] at q2; exact q2))).symm.trans q) (by decide), by rw [cdB_2 hp_7 (fun q => hp_25 (by have q2 := q.1; rw [ta] at q2; exact q2))]; exact hru⟩)
  · refine lv_if_ne (tgt := 19) hx hb dX4_plan_10 (by decide) (fun c_10 => absurd c_10 (by decide)) (fun c_10 => ?_)
    refine lv_aload_n hx hb dX4_plan_13 rfl (lv_at hl 0 rfl) ?_
    refine lv_iconst (v := nI 1) hx hb dX4_plan_14 (by decide) ?_
    refine k_calli (fun _ => [kO q0 4 [.int (nI 1), .ref q1, .ref q2, .ref q3, .ref q4, .ref q5, .ref q6], kC G q1 8 (nR (peF w0 w1)), kC G q2 120 (nR (knF w0 w1)), kC G q3 120 (nR (plF w0 w1)), kC G q4 80 (nR ru), kC G q5 8 (nR bf), kC G q6 2 (nR (nuF ho un))]) [kC G q1 8 (nR (peF w0 w1)), kC G q2 120 (nR (knF w0 w1)), kC G q3 120 (nR (plF w0 w1)), kC G q4 80 (nR ru), kC G q5 8 (nR bf), kC G q6 2 (nR (nuF ho un))] (k_runV (As := [.int (nI 1)]) (rest := []) (wc := [kO q0 4 [.int (nI 0), .ref q1, .ref q2, .ref q3, .ref q4, .ref q5, .ref q6]]) ⟨hx, hb, hml, hown, hts⟩ (m_fail l G q0 q1 q2 q3 q4 q5 q6 0 1 ) (cwV 1 hts gX4_plan_X4_fail rfl rfl rfl (by decide +kernel) ⟨Nat.le_of_ble_eq_true rfl, Nat.le_of_ble_eq_true rfl⟩) hK hZ hP hD hS hA [0] rfl rfl 0 4 rfl rfl rfl rfl hl.1 rfl (Nat.le_of_ble_eq_true rfl) dX4_plan_15 ⟨Nat.le_of_ble_eq_true rfl, Nat.le_of_ble_eq_true rfl⟩) hP hD hS hA [0] [1, 2, 3, 4, 5, 6] [6, 0, 1, 2, 3, 4, 5] rfl rfl rfl (by decide) (fun _ => rfl) rfl (fun r_15 u_15 H locs hp_15 hP hD hS => ?_)
    have hp_15 : r_15 = nI 0 := hp_15
    subst hp_15
    exact k_iret (ws := [kO q0 4 [.int (nI th), .ref q1, .ref q2, .ref q3, .ref q4, .ref q5, .ref q6], kC G q1 8 (nR (peF w0 w1)), kC G q2 120 (nR (knF w0 w1)), kC G q3 120 (nR (plF w0 w1)), kC G q4 80 (nR ru), kC G q5 8 (nR bf), kC G q6 2 (nR (nuF ho un))]) (ru) hx hb hr hlocks hP hD hS hAe hQ (Nat.le_of_ble_eq_true rfl) (Nat.le_of_ble_eq_true rfl) dX4_plan_18 (by rw [cdB_1 hp_7]; first | done | rfl) (⟨fun q => absurd ((cdB_1 hp_7).symm.trans q) (by decide), by rw [cdB_1 hp_7]; exact hru⟩)
