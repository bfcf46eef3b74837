set_option maxHeartbeats 4000000 in
set_option maxRecDepth 100000 in
theorem m_bring (l : Launch) (G : kG) (q0 : Nat) (q1 : Nat) (q2 : Nat) (q3 : Nat) (q4 : Nat) (q5 : Nat) (q6 : Nat) (w0 : Wv) (w1 : Wv) (bf : Nat → Nat) (ho : Nat) (un : Nat) (ru : Nat → Nat) (th : Nat) (x1 : Int32) (x2 : Int32) (h0 : wOk w0) (h1 : wOk w1) (hB : bOk bf) (hru : ruOk w0 w1 ru) : kM l G yX4_bring wsX4_bring ({ frames := 2, cells := 0, slots := 0, locals := 42 } : Room) [.ref q0, .int x1, .int x2] [kO q0 4 [.int (nI th), .ref q1, .ref q2, .ref q3, .ref q4, .ref q5, .ref q6], kC G q1 8 (nR (peF w0 w1)), kC G q2 120 (nR (knF w0 w1)), kC G q3 120 (nR (plF w0 w1)), kC G q4 80 (nR ru), kC G q5 8 (nR bf), kC G q6 2 (nR (nuF ho un))] (kQi G [kO q0 4 [.int (nI th), .ref q1, .ref q2, .ref q3, .ref q4, .ref q5, .ref q6], kC G q1 8 (nR (peF w0 w1)), kC G q2 120 (nR (knF w0 w1)), kC G q3 120 (nR (plF w0 w1)), kC G q4 80 (nR ru), kC G q5 8 (nR bf), kC G q6 2 (nR (nuF ho un))] (fun (r : Int32) (u : Nat → Nat) => (cdA (inR x1 8 ∧ inG x2 1 200) = 0 → r = nI (min 200 (bf (tN x1) + tN x2))) ∧ ruOk (stIf (cdA (inR x1 8 ∧ inG x2 1 200)) (sBring (w0, w1, bf, ho, un) (tN x1) (tN x2)) (w0, w1, bf, ho, un)).1 (stIf (cdA (inR x1 8 ∧ inG x2 1 200)) (sBring (w0, w1, bf, ho, un) (tN x1) (tN x2)) (w0, w1, bf, ho, un)).2.1 u) (fun (u : Nat → Nat) => [kO q0 4 [.int (nI (cdA (inR x1 8 ∧ inG x2 1 200))), .ref q1, .ref q2, .ref q3, .ref q4, .ref q5, .ref q6], kC G q1 8 (nR (peF ((stIf (cdA (inR x1 8 ∧ inG x2 1 200)) (sBring (w0, w1, bf, ho, un) (tN x1) (tN x2)) (w0, w1, bf, ho, un)).1) ((stIf (cdA (inR x1 8 ∧ inG x2 1 200)) (sBring (w0, w1, bf, ho, un) (tN x1) (tN x2)) (w0, w1, bf, ho, un)).2.1))), kC G q2 120 (nR (knF ((stIf (cdA (inR x1 8 ∧ inG x2 1 200)) (sBring (w0, w1, bf, ho, un) (tN x1) (tN x2)) (w0, w1, bf, ho, un)).1) ((stIf (cdA (inR x1 8 ∧ inG x2 1 200)) (sBring (w0, w1, bf, ho, un) (tN x1) (tN x2)) (w0, w1, bf, ho, un)).2.1))), kC G q3 120 (nR (plF ((stIf (cdA (inR x1 8 ∧ inG x2 1 200)) (sBring (w0, w1, bf, ho, un) (tN x1) (tN x2)) (w0, w1, bf, ho, un)).1) ((stIf (cdA (inR x1 8 ∧ inG x2 1 200)) (sBring (w0, w1, bf, ho, un) (tN x1) (tN x2)) (w0, w1, bf, ho, un)).2.1))), kC G q4 80 (nR u), kC G q5 8 (nR ((stIf (cdA (inR x1 8 ∧ inG x2 1 200)) (sBring (w0, w1, bf, ho, un) (tN x1) (tN x2)) (w0, w1, bf, ho, un)).2.2.1)), kC G q6 2 (nR (nuF ((stIf (cdA (inR x1 8 ∧ inG x2 1 200)) (sBring (w0, w1, bf, ho, un) (tN x1) (tN x2)) (w0, w1, bf, ho, un)).2.2.2.1) ((stIf (cdA (inR x1 8 ∧ inG x2 1 200)) (sBring (w0, w1, bf, ho, un) (tN x1) (tN x2)) (w0, w1, bf, ho, un)).2.2.2.2)))])) := by
  refine k_ofW (cc := cX4_bring) (maxL := 3) (rt := (some .int)) (by decide) rfl (Nat.le_of_ble_eq_true rfl) ?_
  intro p e s m args below meth c A ls Qs H locs hQ hAe hx hb hr hml hts hown hlocks hin hK hZ hP hD hS hA hl
  have hown : s.vm.findClass RX4 = some m.cls := hown
  have hl : lv_has ls 3 [(0, .ref q0), (1, .int x1), (2, .int x2)] := hl
  have hq_0 : ∀ w ∈ wsX40, w ∈ wsX4_bring := by decide +kernel
  have hq_1 : (Cond.fieldLink RX4 28 "KnotRugsModel" "thrown" "I").before args s = true := hts _ (by decide +kernel)
  have hq_2 : (Cond.fieldLink RX4 22 "KnotRugsModel" "baskets" "[I").before args s = true := hts _ (by decide +kernel)
  have hq_3 : (Cond.methodLink RX4 55 Lib.Math.min.name).before args s = true := hts _ (by decide +kernel)
  have hq_4 : (Cond.static Lib.Math.min.name).before args s = true := hts _ (by decide +kernel)
  have hq_5 : (Cond.initialized "java/lang/Math").before args s = true := hts _ (by decide +kernel)
  have hq_6 : (Cond.code Lib.Math.min.name Lib.Math.min.code 2 (some .int)).before args s = true := hts _ (by decide +kernel)
  refine lv_aload_n hx hb dX4_bring_0 rfl (lv_at hl 0 rfl) ?_
  refine lv_iconst (v := nI 0) hx hb dX4_bring_1 (by decide) ?_
  refine va_put (D := G.1) (ci := 4) (v := .int (nI 0)) (ty := .int) (C := RX4) (T := TX4) (N := 7) hx hb hts hq_0 tyX4 tyX4_ok nmX4 hown hK.1 hP hD hS 0 rfl rfl 0 (by decide) hq_1 (fun _ h9 => h9) rfl (by decide +kernel) rfl rfl (Nat.le_of_ble_eq_true rfl) dX4_bring_2 (fun H locs hP hD hS => ?_)
  have hP : va_P G.1 vwCl [kO q0 4 [.int (nI 0), .ref q1, .ref q2, .ref q3, .ref q4, .ref q5, .ref q6], kC G q1 8 (nR (peF w0 w1)), kC G q2 120 (nR (knF w0 w1)), kC G q3 120 (nR (plF w0 w1)), kC G q4 80 (nR ru), kC G q5 8 (nR bf), kC G q6 2 (nR (nuF ho un))] H := hP
  have hD : va_D A [kO q0 4 [.int (nI 0), .ref q1, .ref q2, .ref q3, .ref q4, .ref q5, .ref q6], kC G q1 8 (nR (peF w0 w1)), kC G q2 120 (nR (knF w0 w1)), kC G q3 120 (nR (plF w0 w1)), kC G q4 80 (nR ru), kC G q5 8 (nR bf), kC G q6 2 (nR (nuF ho un))] := hD
  refine lv_iload_n hx hb dX4_bring_5 rfl (lv_at hl 1 rfl) ?_
  refine k_calli (fun u_6 => [kO q0 4 [.int (nI 0), .ref q1, .ref q2, .ref q3, .ref q4, .ref q5, .ref q6], kC G q1 8 (nR (peF w0 w1)), kC G q2 120 (nR (knF w0 w1)), kC G q3 120 (nR (plF w0 w1)), kC G q4 80 (nR ru), kC G q5 8 (nR bf), kC G q6 2 (nR (nuF ho un))]) [kO q0 4 [.int (nI 0), .ref q1, .ref q2, .ref q3, .ref q4, .ref q5, .ref q6], kC G q1 8 (nR (peF w0 w1)), kC G q2 120 (nR (knF w0 w1)), kC G q3 120 (nR (plF w0 w1)), kC G q4 80 (nR ru), kC G q5 8 (nR bf), kC G q6 2 (nR (nuF ho un))] (k_runS (As := [.int x1]) (rest := []) (wc := []) ⟨hx, hb, hml, hown, hts⟩ (m_isColour l G x1 ) (va_cwS 1 hts gX4_bring_X4_isColour rfl rfl rfl (by decide +kernel) ⟨Nat.le_of_ble_eq_true rfl, Nat.le_of_ble_eq_true rfl⟩) hK hZ hP hD hS hA [] rfl rfl rfl hl.1 rfl (Nat.le_of_ble_eq_true rfl) dX4_bring_6 ⟨Nat.le_of_ble_eq_true rfl, Nat.le_of_ble_eq_true rfl⟩) hP hD hS hA [] [0, 1, 2, 3, 4, 5, 6] [0, 1, 2, 3, 4, 5, 6] rfl rfl rfl (by decide) (fun _ => rfl) rfl (fun r_6 u_6 H locs hp_6 hP hD hS => ?_)
  rcases hp_6 with ⟨rfl, hp_6⟩ | ⟨rfl, hp_6⟩
  · refine lv_if_eq (tgt := 23) hx hb dX4_bring_9 (by decide) (fun c_9 => absurd c_9 (by decide)) (fun c_9 => ?_)
    refine lv_iload_n hx hb dX4_bring_12 rfl (lv_at hl 2 rfl) ?_
    refine lv_iconst (v := nI 1) hx hb dX4_bring_13 (by decide) ?_
    refine lv_sipush (v := nI 200) hx hb dX4_bring_14 (by decide) ?_
    refine k_calli (fun u_17 => [kO q0 4 [.int (nI 0), .ref q1, .ref q2, .ref q3, .ref q4, .ref q5, .ref q6], kC G q1 8 (nR (peF w0 w1)), kC G q2 120 (nR (knF w0 w1)), kC G q3 120 (nR (plF w0 w1)), kC G q4 80 (nR ru), kC G q5 8 (nR bf), kC G q6 2 (nR (nuF ho un))]) [kO q0 4 [.int (nI 0), .ref q1, .ref q2, .ref q3, .ref q4, .ref q5, .ref q6], kC G q1 8 (nR (peF w0 w1)), kC G q2 120 (nR (knF w0 w1)), kC G q3 120 (nR (plF w0 w1)), kC G q4 80 (nR ru), kC G q5 8 (nR bf), kC G q6 2 (nR (nuF ho un))] (k_runS (As := [.int x2, .int (nI 1), .int (nI 200)]) (rest := []) (wc := []) ⟨hx, hb, hml, hown, hts⟩ (m_isIn l G x2 (nI 1) (nI 200) ) (va_cwS 3 hts gX4_bring_X4_isIn rfl rfl rfl (by decide +kernel) ⟨Nat.le_of_ble_eq_true rfl, Nat.le_of_ble_eq_true rfl⟩) hK hZ hP hD hS hA [] rfl rfl rfl hl.1 rfl (Nat.le_of_ble_eq_true rfl) dX4_bring_17 ⟨Nat.le_of_ble_eq_true rfl, Nat.le_of_ble_eq_true rfl⟩) hP hD hS hA [] [0, 1, 2, 3, 4, 5, 6] [0, 1, 2, 3, 4, 5, 6] rfl rfl rfl (by decide) (fun _ => rfl) rfl (fun r_17 u_17 H locs hp_17 hP hD hS => ?_)
    rw [isIn_G (by decide) (by decide)] at hp_17
    rcases hp_17 with ⟨rfl, hp_17⟩ | ⟨rfl, hp_17⟩
    · refine lv_if_ne (tgt := 29) hx hb dX4_bring_20 (by decide) (fun c_20 => ?_) (fun c_20 => absurd c_20 (by decide))
      obtain ⟨j, hj, ej⟩ := id hp_6
      subst ej
      have tj : tN (nI j) = j := tN_nI (by omega)
      obtain ⟨k, hka, hkb, ek⟩ := id hp_17
      subst ek
      have tk : tN (nI k) = k := tN_nI (by omega)
      have hbj : bf j ≤ 200 := hB j hj
      refine lv_aload_n hx hb dX4_bring_29 rfl (lv_at hl 0 rfl) ?_
      refine va_get (D := G.1) (ci := 4) (v := .ref q5) (C := RX4) (T := TX4) (N := 7) hx hb hts hq_0 hown hK.1 hP 0 rfl rfl 5 (by decide) hq_2 (fun _ h9 => h9) rfl dX4_bring_30 ?_
      refine lv_iload_n hx hb dX4_bring_33 rfl (lv_at hl 1 rfl) ?_
      refine lv_sipush (v := nI 200) hx hb dX4_bring_34 (by decide) ?_
      refine lv_aload_n hx hb dX4_bring_37 rfl (lv_at hl 0 rfl) ?_
      refine va_get (D := G.1) (ci := 4) (v := .ref q5) (C := RX4) (T := TX4) (N := 7) hx hb hts hq_0 hown hK.1 hP 0 rfl rfl 5 (by decide) hq_2 (fun _ h9 => h9) rfl dX4_bring_38 ?_
      refine lv_iload_n hx hb dX4_bring_41 rfl (lv_at hl 1 rfl) ?_
      have hi_1 : j < 8 := by omega
      refine va_iald (D := G.1) hx hb hK.1 hP 5 0 rfl rfl (vp_in_nI hi_1 (by omega)) dX4_bring_42 ?_
      refine lv_topi (fun y_2 hy_2 => ?_)
      obtain rfl : y_2 = nI (bf j) := hy_2.trans (nR_at (by omega))
      refine lv_iload_n hx hb dX4_bring_43 rfl (lv_at hl 2 rfl) ?_
      refine lv_iadd hx hb dX4_bring_44 ?_
      refine lv_topi (fun y_3 hy_3 => ?_)
      obtain rfl : y_3 = nI ((bf j) + k) := hy_3.trans (nI_add (bf j) k)
      refine va_mmin hx hb (hml.trans hl.1.symm) hown hq_3 hq_4 hq_5 hq_6 (Nat.le_of_ble_eq_true rfl) (Nat.le_of_ble_eq_true rfl) (Nat.le_of_ble_eq_true rfl) (Nat.le_of_ble_eq_true rfl) dX4_bring_45 ?_
      refine lv_topi (fun y_4 hy_4 => ?_)
      obtain rfl : y_4 = nI (min 200 ((bf j) + k)) := hy_4.trans (k_min (a := 200) (b := ((bf j) + k)) (by omega) (by omega))
      have hi_5 : j < 8 := by omega
      refine va_iast (D := G.1) hx hb hK.1 hP hD hS 5 0 rfl rfl (vp_in_nI hi_5 (by omega)) dX4_bring_48 (fun H locs hP hD hS => ?_)
      rw [nR_upd (f := bf) (k := j) (v := (min 200 ((bf j) + k))) (by omega)] at hP hD
      have hP : va_P G.1 vwCl [kO q0 4 [.int (nI 0), .ref q1, .ref q2, .ref q3, .ref q4, .ref q5, .ref q6], kC G q1 8 (nR (peF w0 w1)), kC G q2 120 (nR (knF w0 w1)), kC G q3 120 (nR (plF w0 w1)), kC G q4 80 (nR ru), kC G q5 8 (nR (updN bf j (min 200 ((bf j) + k)))), kC G q6 2 (nR (nuF ho un))] H := hP
      have hD : va_D A [kO q0 4 [.int (nI 0), .ref q1, .ref q2, .ref q3, .ref q4, .ref q5, .ref q6], kC G q1 8 (nR (peF w0 w1)), kC G q2 120 (nR (knF w0 w1)), kC G q3 120 (nR (plF w0 w1)), kC G q4 80 (nR ru), kC G q5 8 (nR (updN bf j (min 200 ((bf j) + k)))), kC G q6 2 (nR (nuF ho un))] := hD
      refine lv_aload_n hx hb dX4_bring_49 rfl (lv_at hl 0 rfl) ?_
      refine va_get (D := G.1) (ci := 4) (v := .ref q5) (C := RX4) (T := TX4) (N := 7) hx hb hts hq_0 hown hK.1 hP 0 rfl rfl 5 (by decide) hq_2 (fun _ h9 => h9) rfl dX4_bring_50 ?_
      refine lv_iload_n hx hb dX4_bring_53 rfl (lv_at hl 1 rfl) ?_
      have hi_6 : j < 8 := by omega
      refine va_iald (D := G.1) hx hb hK.1 hP 5 0 rfl rfl (vp_in_nI hi_6 (by omega)) dX4_bring_54 ?_
      refine lv_topi (fun y_7 hy_7 => ?_)
      obtain rfl : y_7 = nI ((updN bf j (min 200 ((bf j) + k))) j) := hy_7.trans (nR_at (by omega))
      refine lv_topi (fun y_8 hy_8 => ?_)
      obtain rfl : y_8 = nI (min 200 (bf j + k)) := hy_8.trans (congrArg nI updN_self)
      exact k_iret (ws := [kO q0 4 [.int (nI th), .ref q1, .ref q2, .ref q3, .ref q4, .ref q5, .ref q6], kC G q1 8 (nR (peF w0 w1)), kC G q2 120 (nR (knF w0 w1)), kC G q3 120 (nR (plF w0 w1)), kC G q4 80 (nR ru), kC G q5 8 (nR bf), kC G q6 2 (nR (nuF ho un))]) (ru) hx hb hr hlocks hP hD hS hAe hQ (Nat.le_of_ble_eq_true rfl) (Nat.le_of_ble_eq_true rfl) dX4_bring_55 (by rw [cdA_0 ⟨hp_6, hp_17⟩, tj, tk]; first | done | rfl) (⟨fun _ => (by rw [tj, tk]), by rw [cdA_0 ⟨hp_6, hp_17⟩]; exact hru⟩)
    · refine lv_if_ne (tgt := 29) hx hb dX4_bring_20 (by decide) (fun c_20 => absurd c_20 (by decide)) (fun c_20 => ?_)
      refine lv_aload_n hx hb dX4_bring_23 rfl (lv_at hl 0 rfl) ?_
      refine lv_iconst (v := nI 1) hx hb dX4_bring_24 (by decide) ?_
      refine k_calli (fun _ => [kO q0 4 [.int (nI 1), .ref q1, .ref q2, .ref q3, .ref q4, .ref q5, .ref q6], kC G q1 8 (nR (peF w0 w1)), kC G q2 120 (nR (knF w0 w1)), kC G q3 120 (nR (plF w0 w1)), kC G q4 80 (nR ru), kC G q5 8 (nR bf), kC G q6 2 (nR (nuF ho un))]) [kC G q1 8 (nR (peF w0 w1)), kC G q2 120 (nR (knF w0 w1)), kC G q3 120 (nR (plF w0 w1)), kC G q4 80 (nR ru), kC G q5 8 (nR bf), kC G q6 2 (nR (nuF ho un))] (k_runV (As := [.int (nI 1)]) (rest := []) (wc := [kO q0 4 [.int (nI 0), .ref q1, .ref q2, .ref q3, .ref q4, .ref q5, .ref q6]]) ⟨hx, hb, hml, hown, hts⟩ (m_fail l G q0 q1 q2 q3 q4 q5 q6 0 1 ) (cwV 1 hts gX4_bring_X4_fail rfl rfl rfl (by decide +kernel) ⟨Nat.le_of_ble_eq_true rfl, Nat.le_of_ble_eq_true rfl⟩) hK hZ hP hD hS hA [0] rfl rfl 0 4 rfl rfl rfl rfl hl.1 rfl (Nat.le_of_ble_eq_true rfl) dX4_bring_25 ⟨Nat.le_of_ble_eq_true rfl, Nat.le_of_ble_eq_true rfl⟩) hP hD hS hA [0] [1, 2, 3, 4, 5, 6] [6, 0, 1, 2, 3, 4, 5] rfl rfl rfl (by decide) (fun _ => rfl) rfl (fun r_25 u_25 H locs hp_25 hP hD hS => ?_)
      have hp_25 : r_25 = nI 0 := hp_25
      subst hp_25
      exact k_iret (ws := [kO q0 4 [.int (nI th), .ref q1, .ref q2, .ref q3, .ref q4, .ref q5, .ref q6], kC G q1 8 (nR (peF w0 w1)), kC G q2 120 (nR (knF w0 w1)), kC G q3 120 (nR (plF w0 w1)), kC G q4 80 (nR ru), kC G q5 8 (nR bf), kC G q6 2 (nR (nuF ho un))]) (ru) hx hb hr hlocks hP hD hS hAe hQ (Nat.le_of_ble_eq_true rfl) (Nat.le_of_ble_eq_true rfl) dX4_bring_28 (by first | (rw [cdA_1 (fun q => hp_17 q.2)]; first | done | rfl) | (rw [cdA_1 (fun q => hp_6 q.1)]; first | done | rfl)) (by first | exact ⟨fun q => absurd ((cdA_1 (fun q => hp_17 q.2)).symm.trans q) (by decide), by rw [cdA_1 (fun q => hp_17 q.2)]; exact hru⟩ | exact ⟨fun q => absurd ((cdA_1 (fun q => hp_6 q.1)).symm.trans q) (by decide), by rw [cdA_1 (fun q => hp_6 q.1)]; exact hru⟩)
  · refine lv_if_eq (tgt := 23) hx hb dX4_bring_9 (by decide) (fun c_9 => ?_) (fun c_9 => absurd c_9 (by decide))
    refine lv_aload_n hx hb dX4_bring_23 rfl (lv_at hl 0 rfl) ?_
    refine lv_iconst (v := nI 1) hx hb dX4_bring_24 (by decide) ?_
    refine k_calli (fun _ => [kO q0 4 [.int (nI 1), .ref q1, .ref q2, .ref q3, .ref q4, .ref q5, .ref q6], kC G q1 8 (nR (peF w0 w1)), kC G q2 120 (nR (knF w0 w1)), kC G q3 120 (nR (plF w0 w1)), kC G q4 80 (nR ru), kC G q5 8 (nR bf), kC G q6 2 (nR (nuF ho un))]) [kC G q1 8 (nR (peF w0 w1)), kC G q2 120 (nR (knF w0 w1)), kC G q3 120 (nR (plF w0 w1)), kC G q4 80 (nR ru), kC G q5 8 (nR bf), kC G q6 2 (nR (nuF ho un))] (k_runV (As := [.int (nI 1)]) (rest := []) (wc := [kO q0 4 [.int (nI 0), .ref q1, .ref q2, .ref q3, .ref q4, .ref q5, .ref q6]]) ⟨hx, hb, hml, hown, hts⟩ (m_fail l G q0 q1 q2 q3 q4 q5 q6 0 1 ) (cwV 1 hts gX4_bring_X4_fail rfl rfl rfl (by decide +kernel) ⟨Nat.le_of_ble_eq_true rfl, Nat.le_of_ble_eq_true rfl⟩) hK hZ hP hD hS hA [0] rfl rfl 0 4 rfl rfl rfl rfl hl.1 rfl (Nat.le_of_ble_eq_true rfl) dX4_bring_25 ⟨Nat.le_of_ble_eq_true rfl, Nat.le_of_ble_eq_true rfl⟩) hP hD hS hA [0] [1, 2, 3, 4, 5, 6] [6, 0, 1, 2, 3, 4, 5] rfl rfl rfl (by decide) (fun _ => rfl) rfl (fun r_25 u_25 H locs hp_25 hP hD hS => ?_)
    have hp_25 : r_25 = nI 0 := hp_25
    subst hp_25
    exact k_iret (ws := [kO q0 4 [.int (nI th), .ref q1, .ref q2, .ref q3, .ref q4, .ref q5, .ref q6], kC G q1 8 (nR (peF w0 w1)), kC G q2 120 (nR (knF w0 w1)), kC G q3 120 (nR (plF w0 w1)), kC G q4 80 (nR ru), kC G q5 8 (nR bf), kC G q6 2 (nR (nuF ho un))]) (ru) hx hb hr hlocks hP hD hS hAe hQ (Nat.le_of_ble_eq_true rfl) (Nat.le_of_ble_eq_true rfl) dX4_bring_28 (by first | (rw [cdA_1 (fun q => hp_17 q.2)]; first | done | rfl) | (rw [cdA_1 (fun q => hp_6 q.1)]; first | done | rfl)) (by first | exact ⟨fun q => absurd ((cdA_1 (fun q => hp_17 q.2)).symm.trans q) (by decide), by rw [cdA_1 (fun q => hp_17 q.2)]; exact hru⟩ | exact ⟨fun q => absurd ((cdA_1 (fun q => hp_6 q.1)).symm.trans q) (by decide), by rw [cdA_1 (fun q => hp_6 q.1)]; exact hru⟩)
set_option maxHeartbeats 4000000 in
set_option maxRecDepth 100000 in
theorem m_setSpeed (l : Launch) (G : kG) (q0 : Nat) (q1 : Nat) (q2 : Nat) (q3 : Nat) (q4 : Nat) (q5 : Nat) (q6 : Nat) (w0 : Wv) (w1 : Wv) (bf : Nat → Nat) (ho : Nat) (un : Nat) (ru : Nat → Nat) (th : Nat) (x1 : Int32) (x2 : Int32) (h0 : wOk w0) (h1 : wOk w1) (hB : bOk bf) (hru : ruOk w0 w1 ru) : kM l G yX4_setSpeed wsX4_setSpeed ({ frames := 2, cells := 0, slots := 0, locals := 42 } : Room) [.ref q0, .int x1, .int x2] [kO q0 4 [.int (nI th), .ref q1, .ref q2, .ref q3, .ref q4, .ref q5, .ref q6], kC G q1 8 (nR (peF w0 w1)), kC G q2 120 (nR (knF w0 w1)), kC G q3 120 (nR (plF w0 w1)), kC G q4 80 (nR ru), kC G q5 8 (nR bf), kC G q6 2 (nR (nuF ho un))] (kQi G [kO q0 4 [.int (nI th), .ref q1, .ref q2, .ref q3, .ref q4, .ref q5, .ref q6], kC G q1 8 (nR (peF w0 w1)), kC G q2 120 (nR (knF w0 w1)), kC G q3 120 (nR (plF w0 w1)), kC G q4 80 (nR ru), kC G q5 8 (nR bf), kC G q6 2 (nR (nuF ho un))] (fun (r : Int32) (u : Nat → Nat) => (cdB (inR x1 2) (inG x2 1 6) = 0 → r = nI (vS (gW (w0, w1, bf, ho, un) (tN x1)))) ∧ ruOk (stIf (cdB (inR x1 2) (inG x2 1 6)) (gSet (w0, w1, bf, ho, un) (tN x1) (wSpeed (gW (w0, w1, bf, ho, un) (tN x1)) (tN x2))) (w0, w1, bf, ho, un)).1 (stIf (cdB (inR x1 2) (inG x2 1 6)) (gSet (w0, w1, bf, ho, un) (tN x1) (wSpeed (gW (w0, w1, bf, ho, un) (tN x1)) (tN x2))) (w0, w1, bf, ho, un)).2.1 u) (fun (u : Nat → Nat) => [kO q0 4 [.int (nI (cdB (inR x1 2) (inG x2 1 6))), .ref q1, .ref q2, .ref q3, .ref q4, .ref q5, .ref q6], kC G q1 8 (nR (peF ((stIf (cdB (inR x1 2) (inG x2 1 6)) (gSet (w0, w1, bf, ho, un) (tN x1) (wSpeed (gW (w0, w1, bf, ho, un) (tN x1)) (tN x2))) (w0, w1, bf, ho, un)).1) ((stIf (cdB (inR x1 2) (inG x2 1 6)) (gSet (w0, w1, bf, ho, un) (tN x1) (wSpeed (gW (w0, w1, bf, ho, un) (tN x1)) (tN x2))) (w0, w1, bf, ho, un)).2.1))), kC G q2 120 (nR (knF ((stIf (cdB (inR x1 2) (inG x2 1 6)) (gSet (w0, w1, bf, ho, un) (tN x1) (wSpeed (gW (w0, w1, bf, ho, un) (tN x1)) (tN x2))) (w0, w1, bf, ho, un)).1) ((stIf (cdB (inR x1 2) (inG x2 1 6)) (gSet (w0, w1, bf, ho, un) (tN x1) (wSpeed (gW (w0, w1, bf, ho, un) (tN x1)) (tN x2))) (w0, w1, bf, ho, un)).2.1))), kC G q3 120 (nR (plF ((stIf (cdB (inR x1 2) (inG x2 1 6)) (gSet (w0, w1, bf, ho, un) (tN x1) (wSpeed (gW (w0, w1, bf, ho, un) (tN x1)) (tN x2))) (w0, w1, bf, ho, un)).1) ((stIf (cdB (inR x1 2) (inG x2 1 6)) (gSet (w0, w1, bf, ho, un) (tN x1) (wSpeed (gW (w0, w1, bf, ho, un) (tN x1)) (tN x2))) (w0, w1, bf, ho, un)).2.1))), kC G q4 80 (nR u), kC G q5 8 (nR ((stIf (cdB (inR x1 2) (inG x2 1 6)) (gSet (w0, w1, bf, ho, un) (tN x1) (wSpeed (gW (w0, w1, bf, ho, un) (tN x1)) (tN x2))) (w0, w1, bf, ho, un)).2.2.1)), kC G q6 2 (nR (nuF ((stIf (cdB (inR x1 2) (inG x2 1 6)) (gSet (w0, w1, bf, ho, un) (tN x1) (wSpeed (gW (w0, w1, bf, ho, un) (tN x1)) (tN x2))) (w0, w1, bf, ho, un)).2.2.2.1) ((stIf (cdB (inR x1 2) (inG x2 1 6)) (gSet (w0, w1, bf, ho, un) (tN x1) (wSpeed (gW (w0, w1, bf, ho, un) (tN x1)) (tN x2))) (w0, w1, bf, ho, un)).2.2.2.2)))])) := by
  refine k_ofW (cc := cX4_setSpeed) (maxL := 4) (rt := (some .int)) (by decide) rfl (Nat.le_of_ble_eq_true rfl) ?_
  intro p e s m args below meth c A ls Qs H locs hQ hAe hx hb hr hml hts hown hlocks hin hK hZ hP hD hS hA hl
  have hown : s.vm.findClass RX4 = some m.cls := hown
  have hl : lv_has ls 4 [(0, .ref q0), (1, .int x1), (2, .int x2)] := hl
  have m0b : vM w0 ≤ 60 := h0.2.2.2.1
  have m1b : vM w1 ≤ 60 := h1.2.2.2.1
  have t0b : vT w0 ≤ 20 := h0.2.2.1
  have t1b : vT w1 ≤ 20 := h1.2.2.1
  have pb0 : ∀ i, i < 60 → vP w0 i < 8 := h0.2.2.2.2.1
  have pb1 : ∀ i, i < 60 → vP w1 i < 8 := h1.2.2.2.2.1
  have kb0 : ∀ i, i < 60 → vK w0 i < 8 := h0.2.2.2.2.2.1
  have kb1 : ∀ i, i < 60 → vK w1 i < 8 := h1.2.2.2.2.2.1
  have rk0 := hru.1
  have rk1 := hru.2
  have hq_0 : ∀ w ∈ wsX40, w ∈ wsX4_setSpeed := by decide +kernel
  have hq_1 : (Cond.fieldLink RX4 28 "KnotRugsModel" "thrown" "I").before args s = true := hts _ (by decide +kernel)
  refine lv_aload_n hx hb dX4_setSpeed_0 rfl (lv_at hl 0 rfl) ?_
  refine lv_iconst (v := nI 0) hx hb dX4_setSpeed_1 (by decide) ?_
  refine va_put (D := G.1) (ci := 4) (v := .int (nI 0)) (ty := .int) (C := RX4) (T := TX4) (N := 7) hx hb hts hq_0 tyX4 tyX4_ok nmX4 hown hK.1 hP hD hS 0 rfl rfl 0 (by decide) hq_1 (fun _ h9 => h9) rfl (by decide +kernel) rfl rfl (Nat.le_of_ble_eq_true rfl) dX4_setSpeed_2 (fun H locs hP hD hS => ?_)
  have hP : va_P G.1 vwCl [kO q0 4 [.int (nI 0), .ref q1, .ref q2, .ref q3, .ref q4, .ref q5, .ref q6], kC G q1 8 (nR (peF w0 w1)), kC G q2 120 (nR (knF w0 w1)), kC G q3 120 (nR (plF w0 w1)), kC G q4 80 (nR ru), kC G q5 8 (nR bf), kC G q6 2 (nR (nuF ho un))] H := hP
  have hD : va_D A [kO q0 4 [.int (nI 0), .ref q1, .ref q2, .ref q3, .ref q4, .ref q5, .ref q6], kC G q1 8 (nR (peF w0 w1)), kC G q2 120 (nR (knF w0 w1)), kC G q3 120 (nR (plF w0 w1)), kC G q4 80 (nR ru), kC G q5 8 (nR bf), kC G q6 2 (nR (nuF ho un))] := hD
  refine lv_iload_n hx hb dX4_setSpeed_5 rfl (lv_at hl 1 rfl) ?_
  refine k_calli (fun u_6 => [kO q0 4 [.int (nI 0), .ref q1, .ref q2, .ref q3, .ref q4, .ref q5, .ref q6], kC G q1 8 (nR (peF w0 w1)), kC G q2 120 (nR (knF w0 w1)), kC G q3 120 (nR (plF w0 w1)), kC G q4 80 (nR ru), kC G q5 8 (nR bf), kC G q6 2 (nR (nuF ho un))]) [kO q0 4 [.int (nI 0), .ref q1, .ref q2, .ref q3, .ref q4, .ref q5, .ref q6], kC G q1 8 (nR (peF w0 w1)), kC G q2 120 (nR (knF w0 w1)), kC G q3 120 (nR (plF w0 w1)), kC G q4 80 (nR ru), kC G q5 8 (nR bf), kC G q6 2 (nR (nuF ho un))] (k_runS (As := [.int x1]) (rest := []) (wc := []) ⟨hx, hb, hml, hown, hts⟩ (m_isWeaver l G x1 ) (va_cwS 1 hts gX4_setSpeed_X4_isWeaver rfl rfl rfl (by decide +kernel) ⟨Nat.le_of_ble_eq_true rfl, Nat.le_of_ble_eq_true rfl⟩) hK hZ hP hD hS hA [] rfl rfl rfl hl.1 rfl (Nat.le_of_ble_eq_true rfl) dX4_setSpeed_6 ⟨Nat.le_of_ble_eq_true rfl, Nat.le_of_ble_eq_true rfl⟩) hP hD hS hA [] [0, 1, 2, 3, 4, 5, 6] [0, 1, 2, 3, 4, 5, 6] rfl rfl rfl (by decide) (fun _ => rfl) rfl (fun r_6 u_6 H locs hp_6 hP hD hS => ?_)
  rcases hp_6 with ⟨rfl, hp_6⟩ | ⟨rfl, hp_6⟩
  · refine lv_if_ne (tgt := 18) hx hb dX4_setSpeed_9 (by decide) (fun c_9 => ?_) (fun c_9 => absurd c_9 (by decide))
    refine lv_iload_n hx hb dX4_setSpeed_18 rfl (lv_at hl 2 rfl) ?_
    refine lv_iconst (v := nI 1) hx hb dX4_setSpeed_19 (by decide) ?_
    refine lv_bipush (v := nI 6) hx hb dX4_setSpeed_20 (by decide) ?_
    refine k_calli (fun u_22 => [kO q0 4 [.int (nI 0), .ref q1, .ref q2, .ref q3, .ref q4, .ref q5, .ref q6], kC G q1 8 (nR (peF w0 w1)), kC G q2 120 (nR (knF w0 w1)), kC G q3 120 (nR (plF w0 w1)), kC G q4 80 (nR ru), kC G q5 8 (nR bf), kC G q6 2 (nR (nuF ho un))]) [kO q0 4 [.int (nI 0), .ref q1, .ref q2, .ref q3, .ref q4, .ref q5, .ref q6], kC G q1 8 (nR (peF w0 w1)), kC G q2 120 (nR (knF w0 w1)), kC G q3 120 (nR (plF w0 w1)), kC G q4 80 (nR ru), kC G q5 8 (nR bf), kC G q6 2 (nR (nuF ho un))] (k_runS (As := [.int x2, .int (nI 1), .int (nI 6)]) (rest := []) (wc := []) ⟨hx, hb, hml, hown, hts⟩ (m_isIn l G x2 (nI 1) (nI 6) ) (va_cwS 3 hts gX4_setSpeed_X4_isIn rfl rfl rfl (by decide +kernel) ⟨Nat.le_of_ble_eq_true rfl, Nat.le_of_ble_eq_true rfl⟩) hK hZ hP hD hS hA [] rfl rfl rfl hl.1 rfl (Nat.le_of_ble_eq_true rfl) dX4_setSpeed_22 ⟨Nat.le_of_ble_eq_true rfl, Nat.le_of_ble_eq_true rfl⟩) hP hD hS hA [] [0, 1, 2, 3, 4, 5, 6] [0, 1, 2, 3, 4, 5, 6] rfl rfl rfl (by decide) (fun _ => rfl) rfl (fun r_22 u_22 H locs hp_22 hP hD hS => ?_)
    rw [isIn_G (by decide) (by decide)] at hp_22
    rcases hp_22 with ⟨rfl, hp_22⟩ | ⟨rfl, hp_22⟩
    · refine lv_if_ne (tgt := 34) hx hb dX4_setSpeed_25 (by decide) (fun c_25 => ?_) (fun c_25 => absurd c_25 (by decide))
      obtain ⟨j, hj, ej⟩ := id hp_6
      subst ej
      have tj : tN (nI j) = j := tN_nI (by omega)
      obtain ⟨k, hka, hkb, ek⟩ := id hp_22
      subst ek
      have tk : tN (nI k) = k := tN_nI (by omega)
      rcases (show j = 0 ∨ j = 1 by omega) with rfl | rfl
      · skip
        refine lv_aload_n hx hb dX4_setSpeed_34 rfl (lv_at hl 0 rfl) ?_
        refine lv_iload_n hx hb dX4_setSpeed_35 rfl (lv_at hl 1 rfl) ?_
        refine lv_iconst (v := nI 0) hx hb dX4_setSpeed_36 (by decide) ?_
        refine k_calli (fun _ => [kO q0 4 [.int (nI 0), .ref q1, .ref q2, .ref q3, .ref q4, .ref q5, .ref q6], kC G q1 8 (nR (peF w0 w1)), kC G q2 120 (nR (knF w0 w1)), kC G q3 120 (nR (plF w0 w1)), kC G q4 80 (nR ru), kC G q5 8 (nR bf), kC G q6 2 (nR (nuF ho un))]) [kC G q2 120 (nR (knF w0 w1)), kC G q3 120 (nR (plF w0 w1)), kC G q4 80 (nR ru), kC G q5 8 (nR bf), kC G q6 2 (nR (nuF ho un))] (k_runV (As := [.int (nI 0), .int (nI 0)]) (rest := []) (wc := [kO q0 4 [.int (nI 0), .ref q1, .ref q2, .ref q3, .ref q4, .ref q5, .ref q6], kC G q1 8 (nR (peF w0 w1))]) ⟨hx, hb, hml, hown, hts⟩ (m_pe l G q0 q1 q2 q3 q4 q5 q6 0 (peF w0 w1) 0 0 (by decide) (by decide)) (cwV 2 hts gX4_setSpeed_X4_pe rfl rfl rfl (by decide +kernel) ⟨Nat.le_of_ble_eq_true rfl, Nat.le_of_ble_eq_true rfl⟩) hK hZ hP hD hS hA [0, 1] rfl rfl 0 4 rfl rfl rfl rfl hl.1 rfl (Nat.le_of_ble_eq_true rfl) dX4_setSpeed_37 ⟨Nat.le_of_ble_eq_true rfl, Nat.le_of_ble_eq_true rfl⟩) hP hD hS hA [0, 1] [2, 3, 4, 5, 6] [5, 6, 0, 1, 2, 3, 4] rfl rfl rfl (by decide) (fun _ => rfl) rfl (fun r_37 u_37 H locs hp_37 hP hD hS => ?_)
        have hp_37 : r_37 = nI (vS w0) := hp_37
        subst hp_37
        refine lv_istore_n (lv' := [(3, .int (nI (vS w0))), (0, .ref q0), (1, .int (nI 0)), (2, .int (nI k))]) hx hb dX4_setSpeed_40 rfl hl (by decide) rfl (fun ls hl => ?_)
        refine lv_aload_n hx hb dX4_setSpeed_41 rfl (lv_at hl 1 rfl) ?_
        refine lv_iload_n hx hb dX4_setSpeed_42 rfl (lv_at hl 2 rfl) ?_
        refine lv_iconst (v := nI 0) hx hb dX4_setSpeed_43 (by decide) ?_
        refine lv_iload_n hx hb dX4_setSpeed_44 rfl (lv_at hl 3 rfl) ?_
        refine k_callv (fun _ => [kO q0 4 [.int (nI 0), .ref q1, .ref q2, .ref q3, .ref q4, .ref q5, .ref q6], kC G q1 8 (nR (updN (peF w0 w1) (4 * 0 + 0) k)), kC G q2 120 (nR (knF w0 w1)), kC G q3 120 (nR (plF w0 w1)), kC G q4 80 (nR ru), kC G q5 8 (nR bf), kC G q6 2 (nR (nuF ho un))]) [kC G q2 120 (nR (knF w0 w1)), kC G q3 120 (nR (plF w0 w1)), kC G q4 80 (nR ru), kC G q5 8 (nR bf), kC G q6 2 (nR (nuF ho un))] (k_runV (As := [.int (nI 0), .int (nI 0), .int (nI k)]) (rest := []) (wc := [kO q0 4 [.int (nI 0), .ref q1, .ref q2, .ref q3, .ref q4, .ref q5, .ref q6], kC G q1 8 (nR (peF w0 w1))]) ⟨hx, hb, hml, hown, hts⟩ (m_put l G q0 q1 q2 q3 q4 q5 q6 0 (peF w0 w1) 0 0 k (by decide) (by decide)) (cwV 3 hts gX4_setSpeed_X4_put rfl rfl rfl (by decide +kernel) ⟨Nat.le_of_ble_eq_true rfl, Nat.le_of_ble_eq_true rfl⟩) hK hZ hP hD hS hA [0, 1] rfl rfl 0 4 rfl rfl rfl rfl hl.1 rfl (Nat.le_of_ble_eq_true rfl) dX4_setSpeed_45 ⟨Nat.le_of_ble_eq_true rfl, Nat.le_of_ble_eq_true rfl⟩) hP hD hS hA [0, 1] [2, 3, 4, 5, 6] [5, 6, 0, 1, 2, 3, 4] rfl rfl rfl (by decide) (fun _ => rfl) rfl (fun u_45 H locs hp_45 hP hD hS => ?_)
        rw [pe_0] at hP hD
        have hP : va_P G.1 vwCl [kO q0 4 [.int (nI 0), .ref q1, .ref q2, .ref q3, .ref q4, .ref q5, .ref q6], kC G q1 8 (nR (peF (wSpeed w0 k) w1)), kC G q2 120 (nR (knF w0 w1)), kC G q3 120 (nR (plF w0 w1)), kC G q4 80 (nR ru), kC G q5 8 (nR bf), kC G q6 2 (nR (nuF ho un))] H := hP
        have hD : va_D A [kO q0 4 [.int (nI 0), .ref q1, .ref q2, .ref q3, .ref q4, .ref q5, .ref q6], kC G q1 8 (nR (peF (wSpeed w0 k) w1)), kC G q2 120 (nR (knF w0 w1)), kC G q3 120 (nR (plF w0 w1)), kC G q4 80 (nR ru), kC G q5 8 (nR bf), kC G q6 2 (nR (nuF ho un))] := hD
        refine lv_iload_n hx hb dX4_setSpeed_48 rfl (lv_at hl 0 rfl) ?_
        exact k_iret (ws := [kO q0 4 [.int (nI th), .ref q1, .ref q2, .ref q3, .ref q4, .ref q5, .ref q6], kC G q1 8 (nR (peF w0 w1)), kC G q2 120 (nR (knF w0 w1)), kC G q3 120 (nR (plF w0 w1)), kC G q4 80 (nR ru), kC G q5 8 (nR bf), kC G q6 2 (nR (nuF ho un))]) (ru) hx hb hr hlocks hP hD hS hAe hQ (Nat.le_of_ble_eq_true rfl) (Nat.le_of_ble_eq_true rfl) dX4_setSpeed_49 (by rw [cdB_0 hp_6 hp_22, tj, tk]; first | done | rfl) (⟨fun _ => (by rw [tj]; rfl), by rw [cdB_0 hp_6 hp_22, tj, tk]; exact hru⟩)
      · skip
        refine lv_aload_n hx hb dX4_setSpeed_34 rfl (lv_at hl 0 rfl) ?_
        refine lv_iload_n hx hb dX4_setSpeed_35 rfl (lv_at hl 1 rfl) ?_
        refine lv_iconst (v := nI 0) hx hb dX4_setSpeed_36 (by decide) ?_
        refine k_calli (fun _ => [kO q0 4 [.int (nI 0), .ref q1, .ref q2, .ref q3, .ref q4, .ref q5, .ref q6], kC G q1 8 (nR (peF w0 w1)), kC G q2 120 (nR (knF w0 w1)), kC G q3 120 (nR (plF w0 w1)), kC G q4 80 (nR ru), kC G q5 8 (nR bf), kC G q6 2 (nR (nuF ho un))]) [kC G q2 120 (nR (knF w0 w1)), kC G q3 120 (nR (plF w0 w1)), kC G q4 80 (nR ru), kC G q5 8 (nR bf), kC G q6 2 (nR (nuF ho un))] (k_runV (As := [.int (nI 1), .int (nI 0)]) (rest := []) (wc := [kO q0 4 [.int (nI 0), .ref q1, .ref q2, .ref q3, .ref q4, .ref q5, .ref q6], kC G q1 8 (nR (peF w0 w1))]) ⟨hx, hb, hml, hown, hts⟩ (m_pe l G q0 q1 q2 q3 q4 q5 q6 0 (peF w0 w1) 1 0 (by decide) (by decide)) (cwV 2 hts gX4_setSpeed_X4_pe rfl rfl rfl (by decide +kernel) ⟨Nat.le_of_ble_eq_true rfl, Nat.le_of_ble_eq_true rfl⟩) hK hZ hP hD hS hA [0, 1] rfl rfl 0 4 rfl rfl rfl rfl hl.1 rfl (Nat.le_of_ble_eq_true rfl) dX4_setSpeed_37 ⟨Nat.le_of_ble_eq_true rfl, Nat.le_of_ble_eq_true rfl⟩) hP hD hS hA [0, 1] [2, 3, 4, 5, 6] [5, 6, 0, 1, 2, 3, 4] rfl rfl rfl (by decide) (fun _ => rfl) rfl (fun r_37 u_37 H locs hp_37 hP hD hS => ?_)
        have hp_37 : r_37 = nI (vS w1) := hp_37
        subst hp_37
        refine lv_istore_n (lv' := [(3, .int (nI (vS w1))), (0, .ref q0), (1, .int (nI 1)), (2, .int (nI k))]) hx hb dX4_setSpeed_40 rfl hl (by decide) rfl (fun ls hl => ?_)
        refine lv_aload_n hx hb dX4_setSpeed_41 rfl (lv_at hl 1 rfl) ?_
        refine lv_iload_n hx hb dX4_setSpeed_42 rfl (lv_at hl 2 rfl) ?_
        refine lv_iconst (v := nI 0) hx hb dX4_setSpeed_43 (by decide) ?_
        refine lv_iload_n hx hb dX4_setSpeed_44 rfl (lv_at hl 3 rfl) ?_
        refine k_callv (fun _ => [kO q0 4 [.int (nI 0), .ref q1, .ref q2, .ref q3, .ref q4, .ref q5, .ref q6], kC G q1 8 (nR (updN (peF w0 w1) (4 * 1 + 0) k)), kC G q2 120 (nR (knF w0 w1)), kC G q3 120 (nR (plF w0 w1)), kC G q4 80 (nR ru), kC G q5 8 (nR bf), kC G q6 2 (nR (nuF ho un))]) [kC G q2 120 (nR (knF w0 w1)), kC G q3 120 (nR (plF w0 w1)), kC G q4 80 (nR ru), kC G q5 8 (nR bf), kC G q6 2 (nR (nuF ho un))] (k_runV (As := [.int (nI 1), .int (nI 0), .int (nI k)]) (rest := []) (wc := [kO q0 4 [.int (nI 0), .ref q1, .ref q2, .ref q3, .ref q4, .ref q5, .ref q6], kC G q1 8 (nR (peF w0 w1))]) ⟨hx, hb, hml, hown, hts⟩ (m_put l G q0 q1 q2 q3 q4 q5 q6 0 (peF w0 w1) 1 0 k (by decide) (by decide)) (cwV 3 hts gX4_setSpeed_X4_put rfl rfl rfl (by decide +kernel) ⟨Nat.le_of_ble_eq_true rfl, Nat.le_of_ble_eq_true rfl⟩) hK hZ hP hD hS hA [0, 1] rfl rfl 0 4 rfl rfl rfl rfl hl.1 rfl (Nat.le_of_ble_eq_true rfl) dX4_setSpeed_45 ⟨Nat.le_of_ble_eq_true rfl, Nat.le_of_ble_eq_true rfl⟩) hP hD hS hA [0, 1] [2, 3, 4, 5, 6] [5, 6, 0, 1, 2, 3, 4] rfl rfl rfl (by decide) (fun _ => rfl) rfl (fun u_45 H locs hp_45 hP hD hS => ?_)
        rw [pe_4] at hP hD
        have hP : va_P G.1 vwCl [kO q0 4 [.int (nI 0), .ref q1, .ref q2, .ref q3, .ref q4, .ref q5, .ref q6], kC G q1 8 (nR (peF w0 (wSpeed w1 k))), kC G q2 120 (nR (knF w0 w1)), kC G q3 120 (nR (plF w0 w1)), kC G q4 80 (nR ru), kC G q5 8 (nR bf), kC G q6 2 (nR (nuF ho un))] H := hP
        have hD : va_D A [kO q0 4 [.int (nI 0), .ref q1, .ref q2, .ref q3, .ref q4, .ref q5, .ref q6], kC G q1 8 (nR (peF w0 (wSpeed w1 k))), kC G q2 120 (nR (knF w0 w1)), kC G q3 120 (nR (plF w0 w1)), kC G q4 80 (nR ru), kC G q5 8 (nR bf), kC G q6 2 (nR (nuF ho un))] := hD
        refine lv_iload_n hx hb dX4_setSpeed_48 rfl (lv_at hl 0 rfl) ?_
        exact k_iret (ws := [kO q0 4 [.int (nI th), .ref q1, .ref q2, .ref q3, .ref q4, .ref q5, .ref q6], kC G q1 8 (nR (peF w0 w1)), kC G q2 120 (nR (knF w0 w1)), kC G q3 120 (nR (plF w0 w1)), kC G q4 80 (nR ru), kC G q5 8 (nR bf), kC G q6 2 (nR (nuF ho un))]) (ru) hx hb hr hlocks hP hD hS hAe hQ (Nat.le_of_ble_eq_true rfl) (Nat.le_of_ble_eq_true rfl) dX4_setSpeed_49 (by rw [cdB_0 hp_6 hp_22, tj, tk]; first | done | rfl) (⟨fun _ => (by rw [tj]; rfl), by rw [cdB_0 hp_6 hp_22, tj, tk]; exact hru⟩)
    · refine lv_if_ne (tgt := 34) hx hb dX4_setSpeed_25 (by decide) (fun c_25 => absurd c_25 (by decide)) (fun c_25 => ?_)
      refine lv_aload_n hx hb dX4_setSpeed_28 rfl (lv_at hl 0 rfl) ?_
      refine lv_iconst (v := nI 2) hx hb dX4_setSpeed_29 (by decide) ?_
      refine k_calli (fun _ => [kO q0 4 [.int (nI 2), .ref q1, .ref q2, .ref q3, .ref q4, .ref q5, .ref q6], kC G q1 8 (nR (peF w0 w1)), kC G q2 120 (nR (knF w0 w1)), kC G q3 120 (nR (plF w0 w1)), kC G q4 80 (nR ru), kC G q5 8 (nR bf), kC G q6 2 (nR (nuF ho un))]) [kC G q1 8 (nR (peF w0 w1)), kC G q2 120 (nR (knF w0 w1)), kC G q3 120 (nR (plF w0 w1)), kC G q4 80 (nR ru), kC G q5 8 (nR bf), kC G q6 2 (nR (nuF ho un))] (k_runV (As := [.int (nI 2)]) (rest := []) (wc := [kO q0 4 [.int (nI 0), .ref q1, .ref q2, .ref q3, .ref q4, .ref q5, .ref q6]]) ⟨hx, hb, hml, hown, hts⟩ (m_fail l G q0 q1 q2 q3 q4 q5 q6 0 2 ) (cwV 1 hts gX4_setSpeed_X4_fail rfl rfl rfl (by decide +kernel) ⟨Nat.le_of_ble_eq_true rfl, Nat.le_of_ble_eq_true rfl⟩) hK hZ hP hD hS hA [0] rfl rfl 0 4 rfl rfl rfl rfl hl.1 rfl (Nat.le_of_ble_eq_true rfl) dX4_setSpeed_30 ⟨Nat.le_of_ble_eq_true rfl, Nat.le_of_ble_eq_true rfl⟩) hP hD hS hA [0] [1, 2, 3, 4, 5, 6] [6, 0, 1, 2, 3, 4, 5] rfl rfl rfl (by decide) (fun _ => rfl) rfl (fun r_30 u_30 H locs hp_30 hP hD hS => ?_)
      have hp_30 : r_30 = nI 0 := hp_30
      subst hp_30
      exact k_iret (ws := [kO q0 4 [.int (nI th), .ref q1, .ref q2, .ref q3, .ref q4, .ref q5, .ref q6], kC G q1 8 (nR (peF w0 w1)), kC G q2 120 (nR (knF w0 w1)), kC G q3 120 (nR (plF w0 w1)), kC G q4 80 (nR ru), kC G q5 8 (nR bf), kC G q6 2 (nR (nuF ho un))]) (ru) hx hb hr hlocks hP hD hS hAe hQ (Nat.le_of_ble_eq_true rfl) (Nat.le_of_ble_eq_true rfl) dX4_setSpeed_33 (by rw [cdB_2 hp_6 hp_22]; first | done | rfl) (⟨fun q => absurd ((cdB_2 hp_6 hp_22).symm.trans q) (by decide), by rw [cdB_2 hp_6 hp_22]; exact hru⟩)
  · refine lv_if_ne (tgt := 18) hx hb dX4_setSpeed_9 (by decide) (fun c_9 => absurd c_9 (by decide)) (fun c_9 => ?_)
    refine lv_aload_n hx hb dX4_setSpeed_12 rfl (lv_at hl 0 rfl) ?_
    refine lv_iconst (v := nI 1) hx hb dX4_setSpeed_13 (by decide) ?_
    refine k_calli (fun _ => [kO q0 4 [.int (nI 1), .ref q1, .ref q2, .ref q3, .ref q4, .ref q5, .ref q6], kC G q1 8 (nR (peF w0 w1)), kC G q2 120 (nR (knF w0 w1)), kC G q3 120 (nR (plF w0 w1)), kC G q4 80 (nR ru), kC G q5 8 (nR bf), kC G q6 2 (nR (nuF ho un))]) [kC G q1 8 (nR (peF w0 w1)), kC G q2 120 (nR (knF w0 w1)), kC G q3 120 (nR (plF w0 w1)), kC G q4 80 (nR ru), kC G q5 8 (nR bf), kC G q6 2 (nR (nuF ho un))] (k_runV (As := [.int (nI 1)]) (rest := []) (wc := [kO q0 4 [.int (nI 0), .ref q1, .ref q2, .ref q3, .ref q4, .ref q5, .ref q6]]) ⟨hx, hb, hml, hown, hts⟩ (m_fail l G q0 q1 q2 q3 q4 q5 q6 0 1 ) (cwV 1 hts gX4_setSpeed_X4_fail rfl rfl rfl (by decide +kernel) ⟨Nat.le_of_ble_eq_true rfl, Nat.le_of_ble_eq_true rfl⟩) hK hZ hP hD hS hA [0] rfl rfl 0 4 rfl rfl rfl rfl hl.1 rfl (Nat.le_of_ble_eq_true rfl) dX4_setSpeed_14 ⟨Nat.le_of_ble_eq_true rfl, Nat.le_of_ble_eq_true rfl⟩) hP hD hS hA [0] [1, 2, 3, 4, 5, 6] [6, 0, 1, 2, 3, 4, 5] rfl rfl rfl (by decide) (fun _ => rfl) rfl (fun r_14 u_14 H locs hp_14 hP hD hS => ?_)
    have hp_14 : r_14 = nI 0 := hp_14
    subst hp_14
    exact k_iret (ws := [kO q0 4 [.int (nI th), .ref q1, .ref q2, .ref q3, .ref q4, .ref q5, .ref q6], kC G q1 8 (nR (peF w0 w1)), kC G q2 120 (nR (knF w0 w1)), kC G q3 120 (nR (plF w0 w1)), kC G q4 80 (nR ru), kC G q5 8 (nR bf), kC G q6 2 (nR (nuF ho un))]) (ru) hx hb hr hlocks hP hD hS hAe hQ (Nat.le_of_ble_eq_true rfl) (Nat.le_of_ble_eq_true rfl) dX4_setSpeed_17 (by rw [cdB_1 hp_6]; first | done | rfl) (⟨fun q => absurd ((cdB_1 hp_6).symm.trans q) (by decide), by rw [cdB_1 hp_6]; exact hru⟩)
set_option maxHeartbeats 4000000 in
set_option maxRecDepth 100000 in
theorem m_tell (l : Launch) (G : kG) (q0 : Nat) (q1 : Nat) (q2 : Nat) (q3 : Nat) (q4 : Nat) (q5 : Nat) (q6 : Nat) (w0 : Wv) (w1 : Wv) (bf : Nat → Nat) (ho : Nat) (un : Nat) (ru : Nat → Nat) (th : Nat) (x1 : Int32) (x2 : Int32) (x3 : Int32) (h0 : wOk w0) (h1 : wOk w1) (hB : bOk bf) (hru : ruOk w0 w1 ru) : kM l G yX4_tell wsX4_tell ({ frames := 2, cells := 0, slots := 0, locals := 42 } : Room) [.ref q0, .int x1, .int x2, .int x3] [kO q0 4 [.int (nI th), .ref q1, .ref q2, .ref q3, .ref q4, .ref q5, .ref q6], kC G q1 8 (nR (peF w0 w1)), kC G q2 120 (nR (knF w0 w1)), kC G q3 120 (nR (plF w0 w1)), kC G q4 80 (nR ru), kC G q5 8 (nR bf), kC G q6 2 (nR (nuF ho un))] (kQi G [kO q0 4 [.int (nI th), .ref q1, .ref q2, .ref q3, .ref q4, .ref q5, .ref q6], kC G q1 8 (nR (peF w0 w1)), kC G q2 120 (nR (knF w0 w1)), kC G q3 120 (nR (plF w0 w1)), kC G q4 80 (nR ru), kC G q5 8 (nR bf), kC G q6 2 (nR (nuF ho un))] (fun (r : Int32) (u : Nat → Nat) => (cdC (inR x1 2) (inR x2 8 ∧ inG x3 1 60) (vT (gW (w0, w1, bf, ho, un) (tN x1)) < 20) = 0 → r = nI (vT (gW (w0, w1, bf, ho, un) (tN x1)) + 1)) ∧ ruOk (stIf (cdC (inR x1 2) (inR x2 8 ∧ inG x3 1 60) (vT (gW (w0, w1, bf, ho, un) (tN x1)) < 20)) (gSet (w0, w1, bf, ho, un) (tN x1) (wTell (gW (w0, w1, bf, ho, un) (tN x1)) (tN x2) (tN x3))) (w0, w1, bf, ho, un)).1 (stIf (cdC (inR x1 2) (inR x2 8 ∧ inG x3 1 60) (vT (gW (w0, w1, bf, ho, un) (tN x1)) < 20)) (gSet (w0, w1, bf, ho, un) (tN x1) (wTell (gW (w0, w1, bf, ho, un) (tN x1)) (tN x2) (tN x3))) (w0, w1, bf, ho, un)).2.1 u) (fun (u : Nat → Nat) => [kO q0 4 [.int (nI (cdC (inR x1 2) (inR x2 8 ∧ inG x3 1 60) (vT (gW (w0, w1, bf, ho, un) (tN x1)) < 20))), .ref q1, .ref q2, .ref q3, .ref q4, .ref q5, .ref q6], kC G q1 8 (nR (peF ((stIf (cdC (inR x1 2) (inR x2 8 ∧ inG x3 1 60) (vT (gW (w0, w1, bf, ho, un) (tN x1)) < 20)) (gSet (w0, w1, bf, ho, un) (tN x1) (wTell (gW (w0, w1, bf, ho, un) (tN x1)) (tN x2) (tN x3))) (w0, w1, bf, ho, un)).1) ((stIf (cdC (inR x1 2) (inR x2 8 ∧ inG x3 1 60) (vT (gW (w0, w1, bf, ho, un) (tN x1)) < 20)) (gSet (w0, w1, bf, ho, un) (tN x1) (wTell (gW (w0, w1, bf, ho, un) (tN x1)) (tN x2) (tN x3))) (w0, w1, bf, ho, un)).2.1))), kC G q2 120 (nR (knF ((stIf (cdC (inR x1 2) (inR x2 8 ∧ inG x3 1 60) (vT (gW (w0, w1, bf, ho, un) (tN x1)) < 20)) (gSet (w0, w1, bf, ho, un) (tN x1) (wTell (gW (w0, w1, bf, ho, un) (tN x1)) (tN x2) (tN x3))) (w0, w1, bf, ho, un)).1) ((stIf (cdC (inR x1 2) (inR x2 8 ∧ inG x3 1 60) (vT (gW (w0, w1, bf, ho, un) (tN x1)) < 20)) (gSet (w0, w1, bf, ho, un) (tN x1) (wTell (gW (w0, w1, bf, ho, un) (tN x1)) (tN x2) (tN x3))) (w0, w1, bf, ho, un)).2.1))), kC G q3 120 (nR (plF ((stIf (cdC (inR x1 2) (inR x2 8 ∧ inG x3 1 60) (vT (gW (w0, w1, bf, ho, un) (tN x1)) < 20)) (gSet (w0, w1, bf, ho, un) (tN x1) (wTell (gW (w0, w1, bf, ho, un) (tN x1)) (tN x2) (tN x3))) (w0, w1, bf, ho, un)).1) ((stIf (cdC (inR x1 2) (inR x2 8 ∧ inG x3 1 60) (vT (gW (w0, w1, bf, ho, un) (tN x1)) < 20)) (gSet (w0, w1, bf, ho, un) (tN x1) (wTell (gW (w0, w1, bf, ho, un) (tN x1)) (tN x2) (tN x3))) (w0, w1, bf, ho, un)).2.1))), kC G q4 80 (nR u), kC G q5 8 (nR ((stIf (cdC (inR x1 2) (inR x2 8 ∧ inG x3 1 60) (vT (gW (w0, w1, bf, ho, un) (tN x1)) < 20)) (gSet (w0, w1, bf, ho, un) (tN x1) (wTell (gW (w0, w1, bf, ho, un) (tN x1)) (tN x2) (tN x3))) (w0, w1, bf, ho, un)).2.2.1)), kC G q6 2 (nR (nuF ((stIf (cdC (inR x1 2) (inR x2 8 ∧ inG x3 1 60) (vT (gW (w0, w1, bf, ho, un) (tN x1)) < 20)) (gSet (w0, w1, bf, ho, un) (tN x1) (wTell (gW (w0, w1, bf, ho, un) (tN x1)) (tN x2) (tN x3))) (w0, w1, bf, ho, un)).2.2.2.1) ((stIf (cdC (inR x1 2) (inR x2 8 ∧ inG x3 1 60) (vT (gW (w0, w1, bf, ho, un) (tN x1)) < 20)) (gSet (w0, w1, bf, ho, un) (tN x1) (wTell (gW (w0, w1, bf, ho, un) (tN x1)) (tN x2) (tN x3))) (w0, w1, bf, ho, un)).2.2.2.2)))])) := by
  refine k_ofW (cc := cX4_tell) (maxL := 5) (rt := (some .int)) (by decide) rfl (Nat.le_of_ble_eq_true rfl) ?_
  intro p e s m args below meth c A ls Qs H locs hQ hAe hx hb hr hml hts hown hlocks hin hK hZ hP hD hS hA hl
  have hown : s.vm.findClass RX4 = some m.cls := hown
  have hl : lv_has ls 5 [(0, .ref q0), (1, .int x1), (2, .int x2), (3, .int x3)] := hl
  have m0b : vM w0 ≤ 60 := h0.2.2.2.1
  have m1b : vM w1 ≤ 60 := h1.2.2.2.1
  have t0b : vT w0 ≤ 20 := h0.2.2.1
  have t1b : vT w1 ≤ 20 := h1.2.2.1
  have pb0 : ∀ i, i < 60 → vP w0 i < 8 := h0.2.2.2.2.1
  have pb1 : ∀ i, i < 60 → vP w1 i < 8 := h1.2.2.2.2.1
  have kb0 : ∀ i, i < 60 → vK w0 i < 8 := h0.2.2.2.2.2.1
  have kb1 : ∀ i, i < 60 → vK w1 i < 8 := h1.2.2.2.2.2.1
  have rk0 := hru.1
  have rk1 := hru.2
  have hq_0 : ∀ w ∈ wsX40, w ∈ wsX4_tell := by decide +kernel
  have hq_1 : (Cond.fieldLink RX4 28 "KnotRugsModel" "thrown" "I").before args s = true := hts _ (by decide +kernel)
  have hq_2 : (Cond.fieldLink RX4 19 "KnotRugsModel" "runs" "[I").before args s = true := hts _ (by decide +kernel)
  refine lv_aload_n hx hb dX4_tell_0 rfl (lv_at hl 0 rfl) ?_
  refine lv_iconst (v := nI 0) hx hb dX4_tell_1 (by decide) ?_
  refine va_put (D := G.1) (ci := 4) (v := .int (nI 0)) (ty := .int) (C := RX4) (T := TX4) (N := 7) hx hb hts hq_0 tyX4 tyX4_ok nmX4 hown hK.1 hP hD hS 0 rfl rfl 0 (by decide) hq_1 (fun _ h9 => h9) rfl (by decide +kernel) rfl rfl (Nat.le_of_ble_eq_true rfl) dX4_tell_2 (fun H locs hP hD hS => ?_)
  have hP : va_P G.1 vwCl [kO q0 4 [.int (nI 0), .ref q1, .ref q2, .ref q3, .ref q4, .ref q5, .ref q6], kC G q1 8 (nR (peF w0 w1)), kC G q2 120 (nR (knF w0 w1)), kC G q3 120 (nR (plF w0 w1)), kC G q4 80 (nR ru), kC G q5 8 (nR bf), kC G q6 2 (nR (nuF ho un))] H := hP
  have hD : va_D A [kO q0 4 [.int (nI 0), .ref q1, .ref q2, .ref q3, .ref q4, .ref q5, .ref q6], kC G q1 8 (nR (peF w0 w1)), kC G q2 120 (nR (knF w0 w1)), kC G q3 120 (nR (plF w0 w1)), kC G q4 80 (nR ru), kC G q5 8 (nR bf), kC G q6 2 (nR (nuF ho un))] := hD
  refine lv_iload_n hx hb dX4_tell_5 rfl (lv_at hl 1 rfl) ?_
  refine k_calli (fun u_6 => [kO q0 4 [.int (nI 0), .ref q1, .ref q2, .ref q3, .ref q4, .ref q5, .ref q6], kC G q1 8 (nR (peF w0 w1)), kC G q2 120 (nR (knF w0 w1)), kC G q3 120 (nR (plF w0 w1)), kC G q4 80 (nR ru), kC G q5 8 (nR bf), kC G q6 2 (nR (nuF ho un))]) [kO q0 4 [.int (nI 0), .ref q1, .ref q2, .ref q3, .ref q4, .ref q5, .ref q6], kC G q1 8 (nR (peF w0 w1)), kC G q2 120 (nR (knF w0 w1)), kC G q3 120 (nR (plF w0 w1)), kC G q4 80 (nR ru), kC G q5 8 (nR bf), kC G q6 2 (nR (nuF ho un))] (k_runS (As := [.int x1]) (rest := []) (wc := []) ⟨hx, hb, hml, hown, hts⟩ (m_isWeaver l G x1 ) (va_cwS 1 hts gX4_tell_X4_isWeaver rfl rfl rfl (by decide +kernel) ⟨Nat.le_of_ble_eq_true rfl, Nat.le_of_ble_eq_true rfl⟩) hK hZ hP hD hS hA [] rfl rfl rfl hl.1 rfl (Nat.le_of_ble_eq_true rfl) dX4_tell_6 ⟨Nat.le_of_ble_eq_true rfl, Nat.le_of_ble_eq_true rfl⟩) hP hD hS hA [] [0, 1, 2, 3, 4, 5, 6] [0, 1, 2, 3, 4, 5, 6] rfl rfl rfl (by decide) (fun _ => rfl) rfl (fun r_6 u_6 H locs hp_6 hP hD hS => ?_)
  rcases hp_6 with ⟨rfl, hp_6⟩ | ⟨rfl, hp_6⟩
  · refine lv_if_ne (tgt := 18) hx hb dX4_tell_9 (by decide) (fun c_9 => ?_) (fun c_9 => absurd c_9 (by decide))
    refine lv_iload_n hx hb dX4_tell_18 rfl (lv_at hl 2 rfl) ?_
    refine k_calli (fun u_19 => [kO q0 4 [.int (nI 0), .ref q1, .ref q2, .ref q3, .ref q4, .ref q5, .ref q6], kC G q1 8 (nR (peF w0 w1)), kC G q2 120 (nR (knF w0 w1)), kC G q3 120 (nR (plF w0 w1)), kC G q4 80 (nR ru), kC G q5 8 (nR bf), kC G q6 2 (nR (nuF ho un))]) [kO q0 4 [.int (nI 0), .ref q1, .ref q2, .ref q3, .ref q4, .ref q5, .ref q6], kC G q1 8 (nR (peF w0 w1)), kC G q2 120 (nR (knF w0 w1)), kC G q3 120 (nR (plF w0 w1)), kC G q4 80 (nR ru), kC G q5 8 (nR bf), kC G q6 2 (nR (nuF ho un))] (k_runS (As := [.int x2]) (rest := []) (wc := []) ⟨hx, hb, hml, hown, hts⟩ (m_isColour l G x2 ) (va_cwS 1 hts gX4_tell_X4_isColour rfl rfl rfl (by decide +kernel) ⟨Nat.le_of_ble_eq_true rfl, Nat.le_of_ble_eq_true rfl⟩) hK hZ hP hD hS hA [] rfl rfl rfl hl.1 rfl (Nat.le_of_ble_eq_true rfl) dX4_tell_19 ⟨Nat.le_of_ble_eq_true rfl, Nat.le_of_ble_eq_true rfl⟩) hP hD hS hA [] [0, 1, 2, 3, 4, 5, 6] [0, 1, 2, 3, 4, 5, 6] rfl rfl rfl (by decide) (fun _ => rfl) rfl (fun r_19 u_19 H locs hp_19 hP hD hS => ?_)
    rcases hp_19 with ⟨rfl, hp_19⟩ | ⟨rfl, hp_19⟩
    · refine lv_if_eq (tgt := 35) hx hb dX4_tell_22 (by decide) (fun c_22 => absurd c_22 (by decide)) (fun c_22 => ?_)
      refine lv_iload_n hx hb dX4_tell_25 rfl (lv_at hl 3 rfl) ?_
      refine lv_iconst (v := nI 1) hx hb dX4_tell_26 (by decide) ?_
      refine lv_bipush (v := nI 60) hx hb dX4_tell_27 (by decide) ?_
      refine k_calli (fun u_29 => [kO q0 4 [.int (nI 0), .ref q1, .ref q2, .ref q3, .ref q4, .ref q5, .ref q6], kC G q1 8 (nR (peF w0 w1)), kC G q2 120 (nR (knF w0 w1)), kC G q3 120 (nR (plF w0 w1)), kC G q4 80 (nR ru), kC G q5 8 (nR bf), kC G q6 2 (nR (nuF ho un))]) [kO q0 4 [.int (nI 0), .ref q1, .ref q2, .ref q3, .ref q4, .ref q5, .ref q6], kC G q1 8 (nR (peF w0 w1)), kC G q2 120 (nR (knF w0 w1)), kC G q3 120 (nR (plF w0 w1)), kC G q4 80 (nR ru), kC G q5 8 (nR bf), kC G q6 2 (nR (nuF ho un))] (k_runS (As := [.int x3, .int (nI 1), .int (nI 60)]) (rest := []) (wc := []) ⟨hx, hb, hml, hown, hts⟩ (m_isIn l G x3 (nI 1) (nI 60) ) (va_cwS 3 hts gX4_tell_X4_isIn rfl rfl rfl (by decide +kernel) ⟨Nat.le_of_ble_eq_true rfl, Nat.le_of_ble_eq_true rfl⟩) hK hZ hP hD hS hA [] rfl rfl rfl hl.1 rfl (Nat.le_of_ble_eq_true rfl) dX4_tell_29 ⟨Nat.le_of_ble_eq_true rfl, Nat.le_of_ble_eq_true rfl⟩) hP hD hS hA [] [0, 1, 2, 3, 4, 5, 6] [0, 1, 2, 3, 4, 5, 6] rfl rfl rfl (by decide) (fun _ => rfl) rfl (fun r_29 u_29 H locs hp_29 hP hD hS => ?_)
      rw [isIn_G (by decide) (by decide)] at hp_29
      rcases hp_29 with ⟨rfl, hp_29⟩ | ⟨rfl, hp_29⟩
      · refine lv_if_ne (tgt := 41) hx hb dX4_tell_32 (by decide) (fun c_32 => ?_) (fun c_32 => absurd c_32 (by decide))
        obtain ⟨j, hj, ej⟩ := id hp_6
        subst ej
        have tj : tN (nI j) = j := tN_nI (by omega)
        obtain ⟨i, hi, ei⟩ := id hp_19
        subst ei
        have ti : tN (nI i) = i := tN_nI (by omega)
        obtain ⟨k, hka, hkb, ek⟩ := id hp_29
        subst ek
        have tk : tN (nI k) = k := tN_nI (by omega)
        rcases (show j = 0 ∨ j = 1 by omega) with rfl | rfl
        · skip
          refine lv_aload_n hx hb dX4_tell_41 rfl (lv_at hl 0 rfl) ?_
          refine lv_iload_n hx hb dX4_tell_42 rfl (lv_at hl 1 rfl) ?_
          refine lv_iconst (v := nI 2) hx hb dX4_tell_43 (by decide) ?_
          refine k_calli (fun _ => [kO q0 4 [.int (nI 0), .ref q1, .ref q2, .ref q3, .ref q4, .ref q5, .ref q6], kC G q1 8 (nR (peF w0 w1)), kC G q2 120 (nR (knF w0 w1)), kC G q3 120 (nR (plF w0 w1)), kC G q4 80 (nR ru), kC G q5 8 (nR bf), kC G q6 2 (nR (nuF ho un))]) [kC G q2 120 (nR (knF w0 w1)), kC G q3 120 (nR (plF w0 w1)), kC G q4 80 (nR ru), kC G q5 8 (nR bf), kC G q6 2 (nR (nuF ho un))] (k_runV (As := [.int (nI 0), .int (nI 2)]) (rest := []) (wc := [kO q0 4 [.int (nI 0), .ref q1, .ref q2, .ref q3, .ref q4, .ref q5, .ref q6], kC G q1 8 (nR (peF w0 w1))]) ⟨hx, hb, hml, hown, hts⟩ (m_pe l G q0 q1 q2 q3 q4 q5 q6 0 (peF w0 w1) 0 2 (by decide) (by decide)) (cwV 2 hts gX4_tell_X4_pe rfl rfl rfl (by decide +kernel) ⟨Nat.le_of_ble_eq_true rfl, Nat.le_of_ble_eq_true rfl⟩) hK hZ hP hD hS hA [0, 1] rfl rfl 0 4 rfl rfl rfl rfl hl.1 rfl (Nat.le_of_ble_eq_true rfl) dX4_tell_44 ⟨Nat.le_of_ble_eq_true rfl, Nat.le_of_ble_eq_true rfl⟩) hP hD hS hA [0, 1] [2, 3, 4, 5, 6] [5, 6, 0, 1, 2, 3, 4] rfl rfl rfl (by decide) (fun _ => rfl) rfl (fun r_44 u_44 H locs hp_44 hP hD hS => ?_)
          have hp_44 : r_44 = nI (vT w0) := hp_44
          subst hp_44
          refine lv_istore (lv' := [(4, .int (nI (vT w0))), (0, .ref q0), (1, .int (nI 0)), (2, .int (nI i)), (3, .int (nI k))]) hx hb dX4_tell_47 hl (by decide) rfl (fun ls hl => ?_)
          refine lv_iload hx hb dX4_tell_49 (lv_at hl 0 rfl) ?_
          refine lv_bipush (v := nI 20) hx hb dX4_tell_51 (by decide) ?_
          refine lv_icmp_ne (tgt := 62) hx hb dX4_tell_53 (by decide) (fun c_53 => ?_) (fun c_53 => ?_)
          · have c_53 : ¬ ((vT w0) = 20) := fun h9 => c_53 ((nI_eq (a := (vT w0)) (b := 20) (by omega) (by omega)).mpr h9)
            refine lv_aload_n hx hb dX4_tell_62 rfl (lv_at hl 1 rfl) ?_
            refine va_get (D := G.1) (ci := 4) (v := .ref q4) (C := RX4) (T := TX4) (N := 7) hx hb hts hq_0 hown hK.1 hP 0 rfl rfl 4 (by decide) hq_2 (fun _ h9 => h9) rfl dX4_tell_63 ?_
            refine lv_aload_n hx hb dX4_tell_66 rfl (lv_at hl 1 rfl) ?_
            refine lv_iload_n hx hb dX4_tell_67 rfl (lv_at hl 2 rfl) ?_
            refine lv_iload hx hb dX4_tell_68 (lv_at hl 0 rfl) ?_
            refine k_calli (fun _ => [kO q0 4 [.int (nI 0), .ref q1, .ref q2, .ref q3, .ref q4, .ref q5, .ref q6], kC G q1 8 (nR (peF w0 w1)), kC G q2 120 (nR (knF w0 w1)), kC G q3 120 (nR (plF w0 w1)), kC G q4 80 (nR ru), kC G q5 8 (nR bf), kC G q6 2 (nR (nuF ho un))]) [kC G q1 8 (nR (peF w0 w1)), kC G q2 120 (nR (knF w0 w1)), kC G q3 120 (nR (plF w0 w1)), kC G q4 80 (nR ru), kC G q5 8 (nR bf), kC G q6 2 (nR (nuF ho un))] (k_runV (As := [.int (nI 0), .int (nI (vT w0))]) (rest := [.ref q4]) (wc := [kO q0 4 [.int (nI 0), .ref q1, .ref q2, .ref q3, .ref q4, .ref q5, .ref q6]]) ⟨hx, hb, hml, hown, hts⟩ (m_runAt l G q0 q1 q2 q3 q4 q5 q6 0 0 (vT w0) ) (cwV 2 hts gX4_tell_X4_runAt rfl rfl rfl (by decide +kernel) ⟨Nat.le_of_ble_eq_true rfl, Nat.le_of_ble_eq_true rfl⟩) hK hZ hP hD hS hA [0] rfl rfl 0 4 rfl rfl rfl rfl hl.1 rfl (Nat.le_of_ble_eq_true rfl) dX4_tell_70 ⟨Nat.le_of_ble_eq_true rfl, Nat.le_of_ble_eq_true rfl⟩) hP hD hS hA [0] [1, 2, 3, 4, 5, 6] [6, 0, 1, 2, 3, 4, 5] rfl rfl rfl (by decide) (fun _ => rfl) rfl (fun r_70 u_70 H locs hp_70 hP hD hS => ?_)
            have hp_70 : r_70 = nI (2 * (0 + (vT w0))) := hp_70
            subst hp_70
            refine lv_iload_n hx hb dX4_tell_73 rfl (lv_at hl 3 rfl) ?_
            have hi_1 : (2 * (0 + (vT w0))) < 80 := by omega
            refine va_iast (D := G.1) hx hb hK.1 hP hD hS 4 0 rfl rfl (vp_in_nI hi_1 (by omega)) dX4_tell_74 (fun H locs hP hD hS => ?_)
            rw [nR_upd (f := ru) (k := (2 * (0 + (vT w0)))) (v := i) (by omega)] at hP hD
            have hP : va_P G.1 vwCl [kO q0 4 [.int (nI 0), .ref q1, .ref q2, .ref q3, .ref q4, .ref q5, .ref q6], kC G q1 8 (nR (peF w0 w1)), kC G q2 120 (nR (knF w0 w1)), kC G q3 120 (nR (plF w0 w1)), kC G q4 80 (nR (updN ru (2 * (0 + (vT w0))) i)), kC G q5 8 (nR bf), kC G q6 2 (nR (nuF ho un))] H := hP
            have hD : va_D A [kO q0 4 [.int (nI 0), .ref q1, .ref q2, .ref q3, .ref q4, .ref q5, .ref q6], kC G q1 8 (nR (peF w0 w1)), kC G q2 120 (nR (knF w0 w1)), kC G q3 120 (nR (plF w0 w1)), kC G q4 80 (nR (updN ru (2 * (0 + (vT w0))) i)), kC G q5 8 (nR bf), kC G q6 2 (nR (nuF ho un))] := hD
            refine lv_aload_n hx hb dX4_tell_75 rfl (lv_at hl 1 rfl) ?_
            refine va_get (D := G.1) (ci := 4) (v := .ref q4) (C := RX4) (T := TX4) (N := 7) hx hb hts hq_0 hown hK.1 hP 0 rfl rfl 4 (by decide) hq_2 (fun _ h9 => h9) rfl dX4_tell_76 ?_
            refine lv_aload_n hx hb dX4_tell_79 rfl (lv_at hl 1 rfl) ?_
            refine lv_iload_n hx hb dX4_tell_80 rfl (lv_at hl 2 rfl) ?_
            refine lv_iload hx hb dX4_tell_81 (lv_at hl 0 rfl) ?_
            refine k_calli (fun _ => [kO q0 4 [.int (nI 0), .ref q1, .ref q2, .ref q3, .ref q4, .ref q5, .ref q6], kC G q1 8 (nR (peF w0 w1)), kC G q2 120 (nR (knF w0 w1)), kC G q3 120 (nR (plF w0 w1)), kC G q4 80 (nR (updN ru (2 * (0 + (vT w0))) i)), kC G q5 8 (nR bf), kC G q6 2 (nR (nuF ho un))]) [kC G q1 8 (nR (peF w0 w1)), kC G q2 120 (nR (knF w0 w1)), kC G q3 120 (nR (plF w0 w1)), kC G q4 80 (nR (updN ru (2 * (0 + (vT w0))) i)), kC G q5 8 (nR bf), kC G q6 2 (nR (nuF ho un))] (k_runV (As := [.int (nI 0), .int (nI (vT w0))]) (rest := [.ref q4]) (wc := [kO q0 4 [.int (nI 0), .ref q1, .ref q2, .ref q3, .ref q4, .ref q5, .ref q6]]) ⟨hx, hb, hml, hown, hts⟩ (m_runAt l G q0 q1 q2 q3 q4 q5 q6 0 0 (vT w0) ) (cwV 2 hts gX4_tell_X4_runAt rfl rfl rfl (by decide +kernel) ⟨Nat.le_of_ble_eq_true rfl, Nat.le_of_ble_eq_true rfl⟩) hK hZ hP hD hS hA [0] rfl rfl 0 4 rfl rfl rfl rfl hl.1 rfl (Nat.le_of_ble_eq_true rfl) dX4_tell_83 ⟨Nat.le_of_ble_eq_true rfl, Nat.le_of_ble_eq_true rfl⟩) hP hD hS hA [0] [1, 2, 3, 4, 5, 6] [6, 0, 1, 2, 3, 4, 5] rfl rfl rfl (by decide) (fun _ => rfl) rfl (fun r_83 u_83 H locs hp_83 hP hD hS => ?_)
            have hp_83 : r_83 = nI (2 * (0 + (vT w0))) := hp_83
            subst hp_83
            refine lv_iconst (v := nI 1) hx hb dX4_tell_86 (by decide) ?_
            refine lv_iadd hx hb dX4_tell_87 ?_
            refine lv_topi (fun y_2 hy_2 => ?_)
            obtain rfl : y_2 = nI ((2 * (0 + (vT w0))) + 1) := hy_2.trans (nI_add (2 * (0 + (vT w0))) 1)
            refine lv_iload_n hx hb dX4_tell_88 rfl (lv_at hl 4 rfl) ?_
            have hi_3 : ((2 * (0 + (vT w0))) + 1) < 80 := by omega
            refine va_iast (D := G.1) hx hb hK.1 hP hD hS 4 0 rfl rfl (vp_in_nI hi_3 (by omega)) dX4_tell_89 (fun H locs hP hD hS => ?_)
            rw [nR_upd (f := (updN ru (2 * (0 + (vT w0))) i)) (k := ((2 * (0 + (vT w0))) + 1)) (v := k) (by omega)] at hP hD
            have hP : va_P G.1 vwCl [kO q0 4 [.int (nI 0), .ref q1, .ref q2, .ref q3, .ref q4, .ref q5, .ref q6], kC G q1 8 (nR (peF w0 w1)), kC G q2 120 (nR (knF w0 w1)), kC G q3 120 (nR (plF w0 w1)), kC G q4 80 (nR (updN (updN ru (2 * (0 + (vT w0))) i) ((2 * (0 + (vT w0))) + 1) k)), kC G q5 8 (nR bf), kC G q6 2 (nR (nuF ho un))] H := hP
            have hD : va_D A [kO q0 4 [.int (nI 0), .ref q1, .ref q2, .ref q3, .ref q4, .ref q5, .ref q6], kC G q1 8 (nR (peF w0 w1)), kC G q2 120 (nR (knF w0 w1)), kC G q3 120 (nR (plF w0 w1)), kC G q4 80 (nR (updN (updN ru (2 * (0 + (vT w0))) i) ((2 * (0 + (vT w0))) + 1) k)), kC G q5 8 (nR bf), kC G q6 2 (nR (nuF ho un))] := hD
            refine lv_aload_n hx hb dX4_tell_90 rfl (lv_at hl 1 rfl) ?_
            refine lv_iload_n hx hb dX4_tell_91 rfl (lv_at hl 2 rfl) ?_
            refine lv_iconst (v := nI 2) hx hb dX4_tell_92 (by decide) ?_
            refine lv_iload hx hb dX4_tell_93 (lv_at hl 0 rfl) ?_
            refine lv_iconst (v := nI 1) hx hb dX4_tell_95 (by decide) ?_
            refine lv_iadd hx hb dX4_tell_96 ?_
            refine lv_topi (fun y_4 hy_4 => ?_)
            obtain rfl : y_4 = nI ((vT w0) + 1) := hy_4.trans (nI_add (vT w0) 1)
            refine k_callv (fun _ => [kO q0 4 [.int (nI 0), .ref q1, .ref q2, .ref q3, .ref q4, .ref q5, .ref q6], kC G q1 8 (nR (updN (peF w0 w1) (4 * 0 + 2) ((vT w0) + 1))), kC G q2 120 (nR (knF w0 w1)), kC G q3 120 (nR (plF w0 w1)), kC G q4 80 (nR (updN (updN ru (2 * (0 + (vT w0))) i) ((2 * (0 + (vT w0))) + 1) k)), kC G q5 8 (nR bf), kC G q6 2 (nR (nuF ho un))]) [kC G q2 120 (nR (knF w0 w1)), kC G q3 120 (nR (plF w0 w1)), kC G q4 80 (nR (updN (updN ru (2 * (0 + (vT w0))) i) ((2 * (0 + (vT w0))) + 1) k)), kC G q5 8 (nR bf), kC G q6 2 (nR (nuF ho un))] (k_runV (As := [.int (nI 0), .int (nI 2), .int (nI ((vT w0) + 1))]) (rest := []) (wc := [kO q0 4 [.int (nI 0), .ref q1, .ref q2, .ref q3, .ref q4, .ref q5, .ref q6], kC G q1 8 (nR (peF w0 w1))]) ⟨hx, hb, hml, hown, hts⟩ (m_put l G q0 q1 q2 q3 q4 q5 q6 0 (peF w0 w1) 0 2 ((vT w0) + 1) (by decide) (by decide)) (cwV 3 hts gX4_tell_X4_put rfl rfl rfl (by decide +kernel) ⟨Nat.le_of_ble_eq_true rfl, Nat.le_of_ble_eq_true rfl⟩) hK hZ hP hD hS hA [0, 1] rfl rfl 0 4 rfl rfl rfl rfl hl.1 rfl (Nat.le_of_ble_eq_true rfl) dX4_tell_97 ⟨Nat.le_of_ble_eq_true rfl, Nat.le_of_ble_eq_true rfl⟩) hP hD hS hA [0, 1] [2, 3, 4, 5, 6] [5, 6, 0, 1, 2, 3, 4] rfl rfl rfl (by decide) (fun _ => rfl) rfl (fun u_97 H locs hp_97 hP hD hS => ?_)
            rw [pe_2] at hP hD
            have hP : va_P G.1 vwCl [kO q0 4 [.int (nI 0), .ref q1, .ref q2, .ref q3, .ref q4, .ref q5, .ref q6], kC G q1 8 (nR (peF (wTold w0 (vT w0 + 1)) w1)), kC G q2 120 (nR (knF w0 w1)), kC G q3 120 (nR (plF w0 w1)), kC G q4 80 (nR (updN (updN ru (2 * (0 + (vT w0))) i) ((2 * (0 + (vT w0))) + 1) k)), kC G q5 8 (nR bf), kC G q6 2 (nR (nuF ho un))] H := hP
            have hD : va_D A [kO q0 4 [.int (nI 0), .ref q1, .ref q2, .ref q3, .ref q4, .ref q5, .ref q6], kC G q1 8 (nR (peF (wTold w0 (vT w0 + 1)) w1)), kC G q2 120 (nR (knF w0 w1)), kC G q3 120 (nR (plF w0 w1)), kC G q4 80 (nR (updN (updN ru (2 * (0 + (vT w0))) i) ((2 * (0 + (vT w0))) + 1) k)), kC G q5 8 (nR bf), kC G q6 2 (nR (nuF ho un))] := hD
            refine lv_iload hx hb dX4_tell_100 (lv_at hl 0 rfl) ?_
            refine lv_iconst (v := nI 1) hx hb dX4_tell_102 (by decide) ?_
            refine lv_iadd hx hb dX4_tell_103 ?_
            refine lv_topi (fun y_5 hy_5 => ?_)
            obtain rfl : y_5 = nI ((vT w0) + 1) := hy_5.trans (nI_add (vT w0) 1)
            exact k_iret (ws := [kO q0 4 [.int (nI th), .ref q1, .ref q2, .ref q3, .ref q4, .ref q5, .ref q6], kC G q1 8 (nR (peF w0 w1)), kC G q2 120 (nR (knF w0 w1)), kC G q3 120 (nR (plF w0 w1)), kC G q4 80 (nR ru), kC G q5 8 (nR bf), kC G q6 2 (nR (nuF ho un))]) ((updN (updN ru (2 * (0 + vT w0)) i) (2 * (0 + vT w0) + 1) k)) hx hb hr hlocks hP hD hS hAe hQ (Nat.le_of_ble_eq_true rfl) (Nat.le_of_ble_eq_true rfl) dX4_tell_104 (by rw [cdC_0 hp_6 ⟨hp_19, hp_29⟩ (by rw [tj]; show  vT w0 < 20; omega), tj, ti, tk]; first | done | rfl) (⟨fun _ => (by rw [tj]; rfl), by rw [cdC_0 hp_6 ⟨hp_19, hp_29⟩ (by rw [tj]; show  vT w0 < 20; omega), tj, ti, tk]; exact ruOk_tell0 (w0 := w0) (w1 := w1) hru (by omega)⟩)
          · have c_53 : (vT w0) = 20 := (nI_eq (a := (vT w0)) (b := 20) (by omega) (by omega)).mp c_53
            refine lv_aload_n hx hb dX4_tell_56 rfl (lv_at hl 1 rfl) ?_
            refine lv_iconst (v := nI 3) hx hb dX4_tell_57 (by decide) ?_
            refine k_calli (fun _ => [kO q0 4 [.int (nI 3), .ref q1, .ref q2, .ref q3, .ref q4, .ref q5, .ref q6], kC G q1 8 (nR (peF w0 w1)), kC G q2 120 (nR (knF w0 w1)), kC G q3 120 (nR (plF w0 w1)), kC G q4 80 (nR ru), kC G q5 8 (nR bf), kC G q6 2 (nR (nuF ho un))]) [kC G q1 8 (nR (peF w0 w1)), kC G q2 120 (nR (knF w0 w1)), kC G q3 120 (nR (plF w0 w1)), kC G q4 80 (nR ru), kC G q5 8 (nR bf), kC G q6 2 (nR (nuF ho un))] (k_runV (As := [.int (nI 3)]) (rest := []) (wc := [kO q0 4 [.int (nI 0), .ref q1, .ref q2, .ref q3, .ref q4, .ref q5, .ref q6]]) ⟨hx, hb, hml, hown, hts⟩ (m_fail l G q0 q1 q2 q3 q4 q5 q6 0 3 ) (cwV 1 hts gX4_tell_X4_fail rfl rfl rfl (by decide +kernel) ⟨Nat.le_of_ble_eq_true rfl, Nat.le_of_ble_eq_true rfl⟩) hK hZ hP hD hS hA [0] rfl rfl 0 4 rfl rfl rfl rfl hl.1 rfl (Nat.le_of_ble_eq_true rfl) dX4_tell_58 ⟨Nat.le_of_ble_eq_true rfl, Nat.le_of_ble_eq_true rfl⟩) hP hD hS hA [0] [1, 2, 3, 4, 5, 6] [6, 0, 1, 2, 3, 4, 5] rfl rfl rfl (by decide) (fun _ => rfl) rfl (fun r_58 u_58 H locs hp_58 hP hD hS => ?_)
            have hp_58 : r_58 = nI 0 := hp_58
            subst hp_58
            exact k_iret (ws := [kO q0 4 [.int (nI th), .ref q1, .ref q2, .ref q3, .ref q4, .ref q5, .ref q6], kC G q1 8 (nR (peF w0 w1)), kC G q2 120 (nR (knF w0 w1)), kC G q3 120 (nR (plF w0 w1)), kC G q4 80 (nR ru), kC G q5 8 (nR bf), kC G q6 2 (nR (nuF ho un))]) (ru) hx hb hr hlocks hP hD hS hAe hQ (Nat.le_of_ble_eq_true rfl) (Nat.le_of_ble_eq_true rfl) dX4_tell_61 (by rw [cdC_3 hp_6 ⟨hp_19, hp_29⟩ (by rw [tj]; show ¬ vT w0 < 20; omega)]; first | done | rfl) (⟨fun q => absurd ((cdC_3 hp_6 ⟨hp_19, hp_29⟩ (by rw [tj]; show ¬ vT w0 < 20; omega)).symm.trans q) (by decide), by rw [cdC_3 hp_6 ⟨hp_19, hp_29⟩ (by rw [tj]; show ¬ vT w0 < 20; omega)]; exact hru⟩)
        · skip
          refine lv_aload_n hx hb dX4_tell_41 rfl (lv_at hl 0 rfl) ?_
          refine lv_iload_n hx hb dX4_tell_42 rfl (lv_at hl 1 rfl) ?_
          refine lv_iconst (v := nI 2) hx hb dX4_tell_43 (by decide) ?_
          refine k_calli (fun _ => [kO q0 4 [.int (nI 0), .ref q1, .ref q2, .ref q3, .ref q4, .ref q5, .ref q6], kC G q1 8 (nR (peF w0 w1)), kC G q2 120 (nR (knF w0 w1)), kC G q3 120 (nR (plF w0 w1)), kC G q4 80 (nR ru), kC G q5 8 (nR bf), kC G q6 2 (nR (nuF ho un))]) [kC G q2 120 (nR (knF w0 w1)), kC G q3 120 (nR (plF w0 w1)), kC G q4 80 (nR ru), kC G q5 8 (nR bf), kC G q6 2 (nR (nuF ho un))] (k_runV (As := [.int (nI 1), .int (nI 2)]) (rest := []) (wc := [kO q0 4 [.int (nI 0), .ref q1, .ref q2, .ref q3, .ref q4, .ref q5, .ref q6], kC G q1 8 (nR (peF w0 w1))]) ⟨hx, hb, hml, hown, hts⟩ (m_pe l G q0 q1 q2 q3 q4 q5 q6 0 (peF w0 w1) 1 2 (by decide) (by decide)) (cwV 2 hts gX4_tell_X4_pe rfl rfl rfl (by decide +kernel) ⟨Nat.le_of_ble_eq_true rfl, Nat.le_of_ble_eq_true rfl⟩) hK hZ hP hD hS hA [0, 1] rfl rfl 0 4 rfl rfl rfl rfl hl.1 rfl (Nat.le_of_ble_eq_true rfl) dX4_tell_44 ⟨Nat.le_of_ble_eq_true rfl, Nat.le_of_ble_eq_true rfl⟩) hP hD hS hA [0, 1] [2, 3, 4, 5, 6] [5, 6, 0, 1, 2, 3, 4] rfl rfl rfl (by decide) (fun _ => rfl) rfl (fun r_44 u_44 H locs hp_44 hP hD hS => ?_)
          have hp_44 : r_44 = nI (vT w1) := hp_44
          subst hp_44
          refine lv_istore (lv' := [(4, .int (nI (vT w1))), (0, .ref q0), (1, .int (nI 1)), (2, .int (nI i)), (3, .int (nI k))]) hx hb dX4_tell_47 hl (by decide) rfl (fun ls hl => ?_)
          refine lv_iload hx hb dX4_tell_49 (lv_at hl 0 rfl) ?_
          refine lv_bipush (v := nI 20) hx hb dX4_tell_51 (by decide) ?_
          refine lv_icmp_ne (tgt := 62) hx hb dX4_tell_53 (by decide) (fun c_53 => ?_) (fun c_53 => ?_)
          · have c_53 : ¬ ((vT w1) = 20) := fun h9 => c_53 ((nI_eq (a := (vT w1)) (b := 20) (by omega) (by omega)).mpr h9)
            refine lv_aload_n hx hb dX4_tell_62 rfl (lv_at hl 1 rfl) ?_
            refine va_get (D := G.1) (ci := 4) (v := .ref q4) (C := RX4) (T := TX4) (N := 7) hx hb hts hq_0 hown hK.1 hP 0 rfl rfl 4 (by decide) hq_2 (fun _ h9 => h9) rfl dX4_tell_63 ?_
            refine lv_aload_n hx hb dX4_tell_66 rfl (lv_at hl 1 rfl) ?_
            refine lv_iload_n hx hb dX4_tell_67 rfl (lv_at hl 2 rfl) ?_
            refine lv_iload hx hb dX4_tell_68 (lv_at hl 0 rfl) ?_
            refine k_calli (fun _ => [kO q0 4 [.int (nI 0), .ref q1, .ref q2, .ref q3, .ref q4, .ref q5, .ref q6], kC G q1 8 (nR (peF w0 w1)), kC G q2 120 (nR (knF w0 w1)), kC G q3 120 (nR (plF w0 w1)), kC G q4 80 (nR ru), kC G q5 8 (nR bf), kC G q6 2 (nR (nuF ho un))]) [kC G q1 8 (nR (peF w0 w1)), kC G q2 120 (nR (knF w0 w1)), kC G q3 120 (nR (plF w0 w1)), kC G q4 80 (nR ru), kC G q5 8 (nR bf), kC G q6 2 (nR (nuF ho un))] (k_runV (As := [.int (nI 1), .int (nI (vT w1))]) (rest := [.ref q4]) (wc := [kO q0 4 [.int (nI 0), .ref q1, .ref q2, .ref q3, .ref q4, .ref q5, .ref q6]]) ⟨hx, hb, hml, hown, hts⟩ (m_runAt l G q0 q1 q2 q3 q4 q5 q6 0 1 (vT w1) ) (cwV 2 hts gX4_tell_X4_runAt rfl rfl rfl (by decide +kernel) ⟨Nat.le_of_ble_eq_true rfl, Nat.le_of_ble_eq_true rfl⟩) hK hZ hP hD hS hA [0] rfl rfl 0 4 rfl rfl rfl rfl hl.1 rfl (Nat.le_of_ble_eq_true rfl) dX4_tell_70 ⟨Nat.le_of_ble_eq_true rfl, Nat.le_of_ble_eq_true rfl⟩) hP hD hS hA [0] [1, 2, 3, 4, 5, 6] [6, 0, 1, 2, 3, 4, 5] rfl rfl rfl (by decide) (fun _ => rfl) rfl (fun r_70 u_70 H locs hp_70 hP hD hS => ?_)
            have hp_70 : r_70 = nI (2 * (20 + (vT w1))) := hp_70
            subst hp_70
            refine lv_iload_n hx hb dX4_tell_73 rfl (lv_at hl 3 rfl) ?_
            have hi_6 : (2 * (20 + (vT w1))) < 80 := by omega
            refine va_iast (D := G.1) hx hb hK.1 hP hD hS 4 0 rfl rfl (vp_in_nI hi_6 (by omega)) dX4_tell_74 (fun H locs hP hD hS => ?_)
            rw [nR_upd (f := ru) (k := (2 * (20 + (vT w1)))) (v := i) (by omega)] at hP hD
            have hP : va_P G.1 vwCl [kO q0 4 [.int (nI 0), .ref q1, .ref q2, .ref q3, .ref q4, .ref q5, .ref q6], kC G q1 8 (nR (peF w0 w1)), kC G q2 120 (nR (knF w0 w1)), kC G q3 120 (nR (plF w0 w1)), kC G q4 80 (nR (updN ru (2 * (20 + (vT w1))) i)), kC G q5 8 (nR bf), kC G q6 2 (nR (nuF ho un))] H := hP
            have hD : va_D A [kO q0 4 [.int (nI 0), .ref q1, .ref q2, .ref q3, .ref q4, .ref q5, .ref q6], kC G q1 8 (nR (peF w0 w1)), kC G q2 120 (nR (knF w0 w1)), kC G q3 120 (nR (plF w0 w1)), kC G q4 80 (nR (updN ru (2 * (20 + (vT w1))) i)), kC G q5 8 (nR bf), kC G q6 2 (nR (nuF ho un))] := hD
            refine lv_aload_n hx hb dX4_tell_75 rfl (lv_at hl 1 rfl) ?_
            refine va_get (D := G.1) (ci := 4) (v := .ref q4) (C := RX4) (T := TX4) (N := 7) hx hb hts hq_0 hown hK.1 hP 0 rfl rfl 4 (by decide) hq_2 (fun _ h9 => h9) rfl dX4_tell_76 ?_
            refine lv_aload_n hx hb dX4_tell_79 rfl (lv_at hl 1 rfl) ?_
            refine lv_iload_n hx hb dX4_tell_80 rfl (lv_at hl 2 rfl) ?_
            refine lv_iload hx hb dX4_tell_81 (lv_at hl 0 rfl) ?_
            refine k_calli (fun _ => [kO q0 4 [.int (nI 0), .ref q1, .ref q2, .ref q3, .ref q4, .ref q5, .ref q6], kC G q1 8 (nR (peF w0 w1)), kC G q2 120 (nR (knF w0 w1)), kC G q3 120 (nR (plF w0 w1)), kC G q4 80 (nR (updN ru (2 * (20 + (vT w1))) i)), kC G q5 8 (nR bf), kC G q6 2 (nR (nuF ho un))]) [kC G q1 8 (nR (peF w0 w1)), kC G q2 120 (nR (knF w0 w1)), kC G q3 120 (nR (plF w0 w1)), kC G q4 80 (nR (updN ru (2 * (20 + (vT w1))) i)), kC G q5 8 (nR bf), kC G q6 2 (nR (nuF ho un))] (k_runV (As := [.int (nI 1), .int (nI (vT w1))]) (rest := [.ref q4]) (wc := [kO q0 4 [.int (nI 0), .ref q1, .ref q2, .ref q3, .ref q4, .ref q5, .ref q6]]) ⟨hx, hb, hml, hown, hts⟩ (m_runAt l G q0 q1 q2 q3 q4 q5 q6 0 1 (vT w1) ) (cwV 2 hts gX4_tell_X4_runAt rfl rfl rfl (by decide +kernel) ⟨Nat.le_of_ble_eq_true rfl, Nat.le_of_ble_eq_true rfl⟩) hK hZ hP hD hS hA [0] rfl rfl 0 4 rfl rfl rfl rfl hl.1 rfl (Nat.le_of_ble_eq_true rfl) dX4_tell_83 ⟨Nat.le_of_ble_eq_true rfl, Nat.le_of_ble_eq_true rfl⟩) hP hD hS hA [0] [1, 2, 3, 4, 5, 6] [6, 0, 1, 2, 3, 4, 5] rfl rfl rfl (by decide) (fun _ => rfl) rfl (fun r_83 u_83 H locs hp_83 hP hD hS => ?_)
            have hp_83 : r_83 = nI (2 * (20 + (vT w1))) := hp_83
            subst hp_83
            refine lv_iconst (v := nI 1) hx hb dX4_tell_86 (by decide) ?_
            refine lv_iadd hx hb dX4_tell_87 ?_
            refine lv_topi (fun y_7 hy_7 => ?_)
            obtain rfl : y_7 = nI ((2 * (20 + (vT w1))) + 1) := hy_7.trans (nI_add (2 * (20 + (vT w1))) 1)
            refine lv_iload_n hx hb dX4_tell_88 rfl (lv_at hl 4 rfl) ?_
            have hi_8 : ((2 * (20 + (vT w1))) + 1) < 80 := by omega
            refine va_iast (D := G.1) hx hb hK.1 hP hD hS 4 0 rfl rfl (vp_in_nI hi_8 (by omega)) dX4_tell_89 (fun H locs hP hD hS => ?_)
            rw [nR_upd (f := (updN ru (2 * (20 + (vT w1))) i)) (k := ((2 * (20 + (vT w1))) + 1)) (v := k) (by omega)] at hP hD
            have hP : va_P G.1 vwCl [kO q0 4 [.int (nI 0), .ref q1, .ref q2, .ref q3, .ref q4, .ref q5, .ref q6], kC G q1 8 (nR (peF w0 w1)), kC G q2 120 (nR (knF w0 w1)), kC G q3 120 (nR (plF w0 w1)), kC G q4 80 (nR (updN (updN ru (2 * (20 + (vT w1))) i) ((2 * (20 + (vT w1))) + 1) k)), kC G q5 8 (nR bf), kC G q6 2 (nR (nuF ho un))] H := hP
            have hD : va_D A [kO q0 4 [.int (nI 0), .ref q1, .ref q2, .ref q3, .ref q4, .ref q5, .ref q6], kC G q1 8 (nR (peF w0 w1)), kC G q2 120 (nR (knF w0 w1)), kC G q3 120 (nR (plF w0 w1)), kC G q4 80 (nR (updN (updN ru (2 * (20 + (vT w1))) i) ((2 * (20 + (vT w1))) + 1) k)), kC G q5 8 (nR bf), kC G q6 2 (nR (nuF ho un))] := hD
            refine lv_aload_n hx hb dX4_tell_90 rfl (lv_at hl 1 rfl) ?_
            refine lv_iload_n hx hb dX4_tell_91 rfl (lv_at hl 2 rfl) ?_
            refine lv_iconst (v := nI 2) hx hb dX4_tell_92 (by decide) ?_
            refine lv_iload hx hb dX4_tell_93 (lv_at hl 0 rfl) ?_
            refine lv_iconst (v := nI 1) hx hb dX4_tell_95 (by decide) ?_
            refine lv_iadd hx hb dX4_tell_96 ?_
            refine lv_topi (fun y_9 hy_9 => ?_)
            obtain rfl : y_9 = nI ((vT w1) + 1) := hy_9.trans (nI_add (vT w1) 1)
            refine k_callv (fun _ => [kO q0 4 [.int (nI 0), .ref q1, .ref q2, .ref q3, .ref q4, .ref q5, .ref q6], kC G q1 8 (nR (updN (peF w0 w1) (4 * 1 + 2) ((vT w1) + 1))), kC G q2 120 (nR (knF w0 w1)), kC G q3 120 (nR (plF w0 w1)), kC G q4 80 (nR (updN (updN ru (2 * (20 + (vT w1))) i) ((2 * (20 + (vT w1))) + 1) k)), kC G q5 8 (nR bf), kC G q6 2 (nR (nuF ho un))]) [kC G q2 120 (nR (knF w0 w1)), kC G q3 120 (nR (plF w0 w1)), kC G q4 80 (nR (updN (updN ru (2 * (20 + (vT w1))) i) ((2 * (20 + (vT w1))) + 1) k)), kC G q5 8 (nR bf), kC G q6 2 (nR (nuF ho un))] (k_runV (As := [.int (nI 1), .int (nI 2), .int (nI ((vT w1) + 1))]) (rest := []) (wc := [kO q0 4 [.int (nI 0), .ref q1, .ref q2, .ref q3, .ref q4, .ref q5, .ref q6], kC G q1 8 (nR (peF w0 w1))]) ⟨hx, hb, hml, hown, hts⟩ (m_put l G q0 q1 q2 q3 q4 q5 q6 0 (peF w0 w1) 1 2 ((vT w1) + 1) (by decide) (by decide)) (cwV 3 hts gX4_tell_X4_put rfl rfl rfl (by decide +kernel) ⟨Nat.le_of_ble_eq_true rfl, Nat.le_of_ble_eq_true rfl⟩) hK hZ hP hD hS hA [0, 1] rfl rfl 0 4 rfl rfl rfl rfl hl.1 rfl (Nat.le_of_ble_eq_true rfl) dX4_tell_97 ⟨Nat.le_of_ble_eq_true rfl, Nat.le_of_ble_eq_true rfl⟩) hP hD hS hA [0, 1] [2, 3, 4, 5, 6] [5, 6, 0, 1, 2, 3, 4] rfl rfl rfl (by decide) (fun _ => rfl) rfl (fun u_97 H locs hp_97 hP hD hS => ?_)
            rw [pe_6] at hP hD
            have hP : va_P G.1 vwCl [kO q0 4 [.int (nI 0), .ref q1, .ref q2, .ref q3, .ref q4, .ref q5, .ref q6], kC G q1 8 (nR (peF w0 (wTold w1 (vT w1 + 1)))), kC G q2 120 (nR (knF w0 w1)), kC G q3 120 (nR (plF w0 w1)), kC G q4 80 (nR (updN (updN ru (2 * (20 + (vT w1))) i) ((2 * (20 + (vT w1))) + 1) k)), kC G q5 8 (nR bf), kC G q6 2 (nR (nuF ho un))] H := hP
            have hD : va_D A [kO q0 4 [.int (nI 0), .ref q1, .ref q2, .ref q3, .ref q4, .ref q5, .ref q6], kC G q1 8 (nR (peF w0 (wTold w1 (vT w1 + 1)))), kC G q2 120 (nR (knF w0 w1)), kC G q3 120 (nR (plF w0 w1)), kC G q4 80 (nR (updN (updN ru (2 * (20 + (vT w1))) i) ((2 * (20 + (vT w1))) + 1) k)), kC G q5 8 (nR bf), kC G q6 2 (nR (nuF ho un))] := hD
            refine lv_iload hx hb dX4_tell_100 (lv_at hl 0 rfl) ?_
            refine lv_iconst (v := nI 1) hx hb dX4_tell_102 (by decide) ?_
            refine lv_iadd hx hb dX4_tell_103 ?_
            refine lv_topi (fun y_10 hy_10 => ?_)
            obtain rfl : y_10 = nI ((vT w1) + 1) := hy_10.trans (nI_add (vT w1) 1)
            exact k_iret (ws := [kO q0 4 [.int (nI th), .ref q1, .ref q2, .ref q3, .ref q4, .ref q5, .ref q6], kC G q1 8 (nR (peF w0 w1)), kC G q2 120 (nR (knF w0 w1)), kC G q3 120 (nR (plF w0 w1)), kC G q4 80 (nR ru), kC G q5 8 (nR bf), kC G q6 2 (nR (nuF ho un))]) ((updN (updN ru (2 * (20 + vT w1)) i) (2 * (20 + vT w1) + 1) k)) hx hb hr hlocks hP hD hS hAe hQ (Nat.le_of_ble_eq_true rfl) (Nat.le_of_ble_eq_true rfl) dX4_tell_104 (by rw [cdC_0 hp_6 ⟨hp_19, hp_29⟩ (by rw [tj]; show  vT w1 < 20; omega), tj, ti, tk]; first | done | rfl) (⟨fun _ => (by rw [tj]; rfl), by rw [cdC_0 hp_6 ⟨hp_19, hp_29⟩ (by rw [tj]; show  vT w1 < 20; omega), tj, ti, tk]; exact ruOk_tell1 (w0 := w0) (w1 := w1) hru t0b⟩)
          · have c_53 : (vT w1) = 20 := (nI_eq (a := (vT w1)) (b := 20) (by omega) (by omega)).mp c_53
            refine lv_aload_n hx hb dX4_tell_56 rfl (lv_at hl 1 rfl) ?_
            refine lv_iconst (v := nI 3) hx hb dX4_tell_57 (by decide) ?_
            refine k_calli (fun _ => [kO q0 4 [.int (nI 3), .ref q1, .ref q2, .ref q3, .ref q4, .ref q5, .ref q6], kC G q1 8 (nR (peF w0 w1)), kC G q2 120 (nR (knF w0 w1)), kC G q3 120 (nR (plF w0 w1)), kC G q4 80 (nR ru), kC G q5 8 (nR bf), kC G q6 2 (nR (nuF ho un))]) [kC G q1 8 (nR (peF w0 w1)), kC G q2 120 (nR (knF w0 w1)), kC G q3 120 (nR (plF w0 w1)), kC G q4 80 (nR ru), kC G q5 8 (nR bf), kC G q6 2 (nR (nuF ho un))] (k_runV (As := [.int (nI 3)]) (rest := []) (wc := [kO q0 4 [.int (nI 0), .ref q1, .ref q2, .ref q3, .ref q4, .ref q5, .ref q6]]) ⟨hx, hb, hml, hown, hts⟩ (m_fail l G q0 q1 q2 q3 q4 q5 q6 0 3 ) (cwV 1 hts gX4_tell_X4_fail rfl rfl rfl (by decide +kernel) ⟨Nat.le_of_ble_eq_true rfl, Nat.le_of_ble_eq_true rfl⟩) hK hZ hP hD hS hA [0] rfl rfl 0 4 rfl rfl rfl rfl hl.1 rfl (Nat.le_of_ble_eq_true rfl) dX4_tell_58 ⟨Nat.le_of_ble_eq_true rfl, Nat.le_of_ble_eq_true rfl⟩) hP hD hS hA [0] [1, 2, 3, 4, 5, 6] [6, 0, 1, 2, 3, 4, 5] rfl rfl rfl (by decide) (fun _ => rfl) rfl (fun r_58 u_58 H locs hp_58 hP hD hS => ?_)
            have hp_58 : r_58 = nI 0 := hp_58
            subst hp_58
            exact k_iret (ws := [kO q0 4 [.int (nI th), .ref q1, .ref q2, .ref q3, .ref q4, .ref q5, .ref q6], kC G q1 8 (nR (peF w0 w1)), kC G q2 120 (nR (knF w0 w1)), kC G q3 120 (nR (plF w0 w1)), kC G q4 80 (nR ru), kC G q5 8 (nR bf), kC G q6 2 (nR (nuF ho un))]) (ru) hx hb hr hlocks hP hD hS hAe hQ (Nat.le_of_ble_eq_true rfl) (Nat.le_of_ble_eq_true rfl) dX4_tell_61 (by rw [cdC_3 hp_6 ⟨hp_19, hp_29⟩ (by rw [tj]; show ¬ vT w1 < 20; omega)]; first | done | rfl) (⟨fun q => absurd ((cdC_3 hp_6 ⟨hp_19, hp_29⟩ (by rw [tj]; show ¬ vT w1 < 20; omega)).symm.trans q) (by decide), by rw [cdC_3 hp_6 ⟨hp_19, hp_29⟩ (by rw [tj]; show ¬ vT w1 < 20; omega)]; exact hru⟩)
      · refine lv_if_ne (tgt := 41) hx hb dX4_tell_32 (by decide) (fun c_32 => absurd c_32 (by decide)) (fun c_32 => ?_)
        refine lv_aload_n hx hb dX4_tell_35 rfl (lv_at hl 0 rfl) ?_
        refine lv_iconst (v := nI 2) hx hb dX4_tell_36 (by decide) ?_
        refine k_calli (fun _ => [kO q0 4 [.int (nI 2), .ref q1, .ref q2, .ref q3, .ref q4, .ref q5, .ref q6], kC G q1 8 (nR (peF w0 w1)), kC G q2 120 (nR (knF w0 w1)), kC G q3 120 (nR (plF w0 w1)), kC G q4 80 (nR ru), kC G q5 8 (nR bf), kC G q6 2 (nR (nuF ho un))]) [kC G q1 8 (nR (peF w0 w1)), kC G q2 120 (nR (knF w0 w1)), kC G q3 120 (nR (plF w0 w1)), kC G q4 80 (nR ru), kC G q5 8 (nR bf), kC G q6 2 (nR (nuF ho un))] (k_runV (As := [.int (nI 2)]) (rest := []) (wc := [kO q0 4 [.int (nI 0), .ref q1, .ref q2, .ref q3, .ref q4, .ref q5, .ref q6]]) ⟨hx, hb, hml, hown, hts⟩ (m_fail l G q0 q1 q2 q3 q4 q5 q6 0 2 ) (cwV 1 hts gX4_tell_X4_fail rfl rfl rfl (by decide +kernel) ⟨Nat.le_of_ble_eq_true rfl, Nat.le_of_ble_eq_true rfl⟩) hK hZ hP hD hS hA [0] rfl rfl 0 4 rfl rfl rfl rfl hl.1 rfl (Nat.le_of_ble_eq_true rfl) dX4_tell_37 ⟨Nat.le_of_ble_eq_true rfl, Nat.le_of_ble_eq_true rfl⟩) hP hD hS hA [0] [1, 2, 3, 4, 5, 6] [6, 0, 1, 2, 3, 4, 5] rfl rfl rfl (by decide) (fun _ => rfl) rfl (fun r_37 u_37 H locs hp_37 hP hD hS => ?_)
        have hp_37 : r_37 = nI 0 := hp_37
        subst hp_37
        exact k_iret (ws := [kO q0 4 [.int (nI th), .ref q1, .ref q2, .ref q3, .ref q4, .ref q5, .ref q6], kC G q1 8 (nR (peF w0 w1)), kC G q2 120 (nR (knF w0 w1)), kC G q3 120 (nR (plF w0 w1)), kC G q4 80 (nR ru), kC G q5 8 (nR bf), kC G q6 2 (nR (nuF ho un))]) (ru) hx hb hr hlocks hP hD hS hAe hQ (Nat.le_of_ble_eq_true rfl) (Nat.le_of_ble_eq_true rfl) dX4_tell_40 (by first | (rw [cdC_2 hp_6 (fun q => hp_29 q.2)]; first | done | rfl) | (rw [cdC_2 hp_6 (fun q => hp_19 q.1)]; first | done | rfl)) (by first | exact ⟨fun q => absurd ((cdC_2 hp_6 (fun q => hp_29 q.2)).symm.trans q) (by decide), by rw [cdC_2 hp_6 (fun q => hp_29 q.2)]; exact hru⟩ | exact ⟨fun q => absurd ((cdC_2 hp_6 (fun q => hp_19 q.1)).symm.trans q) (by decide), by rw [cdC_2 hp_6 (fun q => hp_19 q.1)]; exact hru⟩)
    · refine lv_if_eq (tgt := 35) hx hb dX4_tell_22 (by decide) (fun c_22 => ?_) (fun c_22 => absurd c_22 (by decide))
      refine lv_aload_n hx hb dX4_tell_35 rfl (lv_at hl 0 rfl) ?_
      refine lv_iconst (v := nI 2) hx hb dX4_tell_36 (by decide) ?_
      refine k_calli (fun _ => [kO q0 4 [.int (nI 2), .ref q1, .ref q2, .ref q3, .ref q4, .ref q5, .ref q6], kC G q1 8 (nR (peF w0 w1)), kC G q2 120 (nR (knF w0 w1)), kC G q3 120 (nR (plF w0 w1)), kC G q4 80 (nR ru), kC G q5 8 (nR bf), kC G q6 2 (nR (nuF ho un))]) [kC G q1 8 (nR (peF w0 w1)), kC G q2 120 (nR (knF w0 w1)), kC G q3 120 (nR (plF w0 w1)), kC G q4 80 (nR ru), kC G q5 8 (nR bf), kC G q6 2 (nR (nuF ho un))] (k_runV (As := [.int (nI 2)]) (rest := []) (wc := [kO q0 4 [.int (nI 0), .ref q1, .ref q2, .ref q3, .ref q4, .ref q5, .ref q6]]) ⟨hx, hb, hml, hown, hts⟩ (m_fail l G q0 q1 q2 q3 q4 q5 q6 0 2 ) (cwV 1 hts gX4_tell_X4_fail rfl rfl rfl (by decide +kernel) ⟨Nat.le_of_ble_eq_true rfl, Nat.le_of_ble_eq_true rfl⟩) hK hZ hP hD hS hA [0] rfl rfl 0 4 rfl rfl rfl rfl hl.1 rfl (Nat.le_of_ble_eq_true rfl) dX4_tell_37 ⟨Nat.le_of_ble_eq_true rfl, Nat.le_of_ble_eq_true rfl⟩) hP hD hS hA [0] [1, 2, 3, 4, 5, 6] [6, 0, 1, 2, 3, 4, 5] rfl rfl rfl (by decide) (fun _ => rfl) rfl (fun r_37 u_37 H locs hp_37 hP hD hS => ?_)
      have hp_37 : r_37 = nI 0 := hp_37
      subst hp_37
      exact k_iret (ws := [kO q0 4 [.int (nI th), .ref q1, .ref q2, .ref q3, .ref q4, .ref q5, .ref q6], kC G q1 8 (nR (peF w0 w1)), kC G q2 120 (nR (knF w0 w1)), kC G q3 120 (nR (plF w0 w1)), kC G q4 80 (nR ru), kC G q5 8 (nR bf), kC G q6 2 (nR (nuF ho un))]) (ru) hx hb hr hlocks hP hD hS hAe hQ (Nat.le_of_ble_eq_true rfl) (Nat.le_of_ble_eq_true rfl) dX4_tell_40 (by first | (rw [cdC_2 hp_6 (fun q => hp_29 q.2)]; first | done | rfl) | (rw [cdC_2 hp_6 (fun q => hp_19 q.1)]; first | done | rfl)) (by first | exact ⟨fun q => absurd ((cdC_2 hp_6 (fun q => hp_29 q.2)).symm.trans q) (by decide), by rw [cdC_2 hp_6 (fun q => hp_29 q.2)]; exact hru⟩ | exact ⟨fun q => absurd ((cdC_2 hp_6 (fun q => hp_19 q.1)).symm.trans q) (by decide), by rw [cdC_2 hp_6 (fun q => hp_19 q.1)]; exact hru⟩)
  · refine lv_if_ne (tgt := 18) hx hb dX4_tell_9 (by decide) (fun c_9 => absurd c_9 (by decide)) (fun c_9 => ?_)
    refine lv_aload_n hx hb dX4_tell_12 rfl (lv_at hl 0 rfl) ?_
    refine lv_iconst (v := nI 1) hx hb dX4_tell_13 (by decide) ?_
    refine k_calli (fun _ => [kO q0 4 [.int (nI 1), .ref q1, .ref q2, .ref q3, .ref q4, .ref q5, .ref q6], kC G q1 8 (nR (peF w0 w1)), kC G q2 120 (nR (knF w0 w1)), kC G q3 120 (nR (plF w0 w1)), kC G q4 80 (nR ru), kC G q5 8 (nR bf), kC G q6 2 (nR (nuF ho un))]) [kC G q1 8 (nR (peF w0 w1)), kC G q2 120 (nR (knF w0 w1)), kC G q3 120 (nR (plF w0 w1)), kC G q4 80 (nR ru), kC G q5 8 (nR bf), kC G q6 2 (nR (nuF ho un))] (k_runV (As := [.int (nI 1)]) (rest := []) (wc := [kO q0 4 [.int (nI 0), .ref q1, .ref q2, .ref q3, .ref q4, .ref q5, .ref q6]]) ⟨hx, hb, hml, hown, hts⟩ (m_fail l G q0 q1 q2 q3 q4 q5 q6 0 1 ) (cwV 1 hts gX4_tell_X4_fail rfl rfl rfl (by decide +kernel) ⟨Nat.le_of_ble_eq_true rfl, Nat.le_of_ble_eq_true rfl⟩) hK hZ hP hD hS hA [0] rfl rfl 0 4 rfl rfl rfl rfl hl.1 rfl (Nat.le_of_ble_eq_true rfl) dX4_tell_14 ⟨Nat.le_of_ble_eq_true rfl, Nat.le_of_ble_eq_true rfl⟩) hP hD hS hA [0] [1, 2, 3, 4, 5, 6] [6, 0, 1, 2, 3, 4, 5] rfl rfl rfl (by decide) (fun _ => rfl) rfl (fun r_14 u_14 H locs hp_14 hP hD hS => ?_)
    have hp_14 : r_14 = nI 0 := hp_14
    subst hp_14
    exact k_iret (ws := [kO q0 4 [.int (nI th), .ref q1, .ref q2, .ref q3, .ref q4, .ref q5, .ref q6], kC G q1 8 (nR (peF w0 w1)), kC G q2 120 (nR (knF w0 w1)), kC G q3 120 (nR (plF w0 w1)), kC G q4 80 (nR ru), kC G q5 8 (nR bf), kC G q6 2 (nR (nuF ho un))]) (ru) hx hb hr hlocks hP hD hS hAe hQ (Nat.le_of_ble_eq_true rfl) (Nat.le_of_ble_eq_true rfl) dX4_tell_17 (by rw [cdC_1 hp_6]; first | done | rfl) (⟨fun q => absurd ((cdC_1 hp_6).symm.trans q) (by decide), by rw [cdC_1 hp_6]; exact hru⟩)
set_option maxHeartbeats 4000000 in
set_option maxRecDepth 100000 in
theorem m_hush (l : Launch) (G : kG) (q0 : Nat) (q1 : Nat) (q2 : Nat) (q3 : Nat) (q4 : Nat) (q5 : Nat) (q6 : Nat) (w0 : Wv) (w1 : Wv) (bf : Nat → Nat) (ho : Nat) (un : Nat) (ru : Nat → Nat) (th : Nat) (x1 : Int32) (h0 : wOk w0) (h1 : wOk w1) (hB : bOk bf) (hru : ruOk w0 w1 ru) : kM l G yX4_hush wsX4_hush ({ frames := 2, cells := 0, slots := 0, locals := 45 } : Room) [.ref q0, .int x1] [kO q0 4 [.int (nI th), .ref q1, .ref q2, .ref q3, .ref q4, .ref q5, .ref q6], kC G q1 8 (nR (peF w0 w1)), kC G q2 120 (nR (knF w0 w1)), kC G q3 120 (nR (plF w0 w1)), kC G q4 80 (nR ru), kC G q5 8 (nR bf), kC G q6 2 (nR (nuF ho un))] (kQi G [kO q0 4 [.int (nI th), .ref q1, .ref q2, .ref q3, .ref q4, .ref q5, .ref q6], kC G q1 8 (nR (peF w0 w1)), kC G q2 120 (nR (knF w0 w1)), kC G q3 120 (nR (plF w0 w1)), kC G q4 80 (nR ru), kC G q5 8 (nR bf), kC G q6 2 (nR (nuF ho un))] (fun (r : Int32) (u : Nat → Nat) => (cdA (inR x1 2) = 0 → r = nI (sumN (vN (gW (w0, w1, bf, ho, un) (tN x1))) (vT (gW (w0, w1, bf, ho, un) (tN x1))))) ∧ ruOk (stIf (cdA (inR x1 2)) (gSet (w0, w1, bf, ho, un) (tN x1) (wHush (gW (w0, w1, bf, ho, un) (tN x1)))) (w0, w1, bf, ho, un)).1 (stIf (cdA (inR x1 2)) (gSet (w0, w1, bf, ho, un) (tN x1) (wHush (gW (w0, w1, bf, ho, un) (tN x1)))) (w0, w1, bf, ho, un)).2.1 u) (fun (u : Nat → Nat) => [kO q0 4 [.int (nI (cdA (inR x1 2))), .ref q1, .ref q2, .ref q3, .ref q4, .ref q5, .ref q6], kC G q1 8 (nR (peF ((stIf (cdA (inR x1 2)) (gSet (w0, w1, bf, ho, un) (tN x1) (wHush (gW (w0, w1, bf, ho, un) (tN x1)))) (w0, w1, bf, ho, un)).1) ((stIf (cdA (inR x1 2)) (gSet (w0, w1, bf, ho, un) (tN x1) (wHush (gW (w0, w1, bf, ho, un) (tN x1)))) (w0, w1, bf, ho, un)).2.1))), kC G q2 120 (nR (knF ((stIf (cdA (inR x1 2)) (gSet (w0, w1, bf, ho, un) (tN x1) (wHush (gW (w0, w1, bf, ho, un) (tN x1)))) (w0, w1, bf, ho, un)).1) ((stIf (cdA (inR x1 2)) (gSet (w0, w1, bf, ho, un) (tN x1) (wHush (gW (w0, w1, bf, ho, un) (tN x1)))) (w0, w1, bf, ho, un)).2.1))), kC G q3 120 (nR (plF ((stIf (cdA (inR x1 2)) (gSet (w0, w1, bf, ho, un) (tN x1) (wHush (gW (w0, w1, bf, ho, un) (tN x1)))) (w0, w1, bf, ho, un)).1) ((stIf (cdA (inR x1 2)) (gSet (w0, w1, bf, ho, un) (tN x1) (wHush (gW (w0, w1, bf, ho, un) (tN x1)))) (w0, w1, bf, ho, un)).2.1))), kC G q4 80 (nR u), kC G q5 8 (nR ((stIf (cdA (inR x1 2)) (gSet (w0, w1, bf, ho, un) (tN x1) (wHush (gW (w0, w1, bf, ho, un) (tN x1)))) (w0, w1, bf, ho, un)).2.2.1)), kC G q6 2 (nR (nuF ((stIf (cdA (inR x1 2)) (gSet (w0, w1, bf, ho, un) (tN x1) (wHush (gW (w0, w1, bf, ho, un) (tN x1)))) (w0, w1, bf, ho, un)).2.2.2.1) ((stIf (cdA (inR x1 2)) (gSet (w0, w1, bf, ho, un) (tN x1) (wHush (gW (w0, w1, bf, ho, un) (tN x1)))) (w0, w1, bf, ho, un)).2.2.2.2)))])) := by
  refine k_ofW (cc := cX4_hush) (maxL := 3) (rt := (some .int)) (by decide) rfl (Nat.le_of_ble_eq_true rfl) ?_
  intro p e s m args below meth c A ls Qs H locs hQ hAe hx hb hr hml hts hown hlocks hin hK hZ hP hD hS hA hl
  have hown : s.vm.findClass RX4 = some m.cls := hown
  have hl : lv_has ls 3 [(0, .ref q0), (1, .int x1)] := hl
  have m0b : vM w0 ≤ 60 := h0.2.2.2.1
  have m1b : vM w1 ≤ 60 := h1.2.2.2.1
  have t0b : vT w0 ≤ 20 := h0.2.2.1
  have t1b : vT w1 ≤ 20 := h1.2.2.1
  have pb0 : ∀ i, i < 60 → vP w0 i < 8 := h0.2.2.2.2.1
  have pb1 : ∀ i, i < 60 → vP w1 i < 8 := h1.2.2.2.2.1
  have kb0 : ∀ i, i < 60 → vK w0 i < 8 := h0.2.2.2.2.2.1
  have kb1 : ∀ i, i < 60 → vK w1 i < 8 := h1.2.2.2.2.2.1
  have rk0 := hru.1
  have rk1 := hru.2
  have hq_0 : ∀ w ∈ wsX40, w ∈ wsX4_hush := by decide +kernel
  have hq_1 : (Cond.fieldLink RX4 28 "KnotRugsModel" "thrown" "I").before args s = true := hts _ (by decide +kernel)
  refine lv_aload_n hx hb dX4_hush_0 rfl (lv_at hl 0 rfl) ?_
  refine lv_iconst (v := nI 0) hx hb dX4_hush_1 (by decide) ?_
  refine va_put (D := G.1) (ci := 4) (v := .int (nI 0)) (ty := .int) (C := RX4) (T := TX4) (N := 7) hx hb hts hq_0 tyX4 tyX4_ok nmX4 hown hK.1 hP hD hS 0 rfl rfl 0 (by decide) hq_1 (fun _ h9 => h9) rfl (by decide +kernel) rfl rfl (Nat.le_of_ble_eq_true rfl) dX4_hush_2 (fun H locs hP hD hS => ?_)
  have hP : va_P G.1 vwCl [kO q0 4 [.int (nI 0), .ref q1, .ref q2, .ref q3, .ref q4, .ref q5, .ref q6], kC G q1 8 (nR (peF w0 w1)), kC G q2 120 (nR (knF w0 w1)), kC G q3 120 (nR (plF w0 w1)), kC G q4 80 (nR ru), kC G q5 8 (nR bf), kC G q6 2 (nR (nuF ho un))] H := hP
  have hD : va_D A [kO q0 4 [.int (nI 0), .ref q1, .ref q2, .ref q3, .ref q4, .ref q5, .ref q6], kC G q1 8 (nR (peF w0 w1)), kC G q2 120 (nR (knF w0 w1)), kC G q3 120 (nR (plF w0 w1)), kC G q4 80 (nR ru), kC G q5 8 (nR bf), kC G q6 2 (nR (nuF ho un))] := hD
  refine lv_iload_n hx hb dX4_hush_5 rfl (lv_at hl 1 rfl) ?_
  refine k_calli (fun u_6 => [kO q0 4 [.int (nI 0), .ref q1, .ref q2, .ref q3, .ref q4, .ref q5, .ref q6], kC G q1 8 (nR (peF w0 w1)), kC G q2 120 (nR (knF w0 w1)), kC G q3 120 (nR (plF w0 w1)), kC G q4 80 (nR ru), kC G q5 8 (nR bf), kC G q6 2 (nR (nuF ho un))]) [kO q0 4 [.int (nI 0), .ref q1, .ref q2, .ref q3, .ref q4, .ref q5, .ref q6], kC G q1 8 (nR (peF w0 w1)), kC G q2 120 (nR (knF w0 w1)), kC G q3 120 (nR (plF w0 w1)), kC G q4 80 (nR ru), kC G q5 8 (nR bf), kC G q6 2 (nR (nuF ho un))] (k_runS (As := [.int x1]) (rest := []) (wc := []) ⟨hx, hb, hml, hown, hts⟩ (m_isWeaver l G x1 ) (va_cwS 1 hts gX4_hush_X4_isWeaver rfl rfl rfl (by decide +kernel) ⟨Nat.le_of_ble_eq_true rfl, Nat.le_of_ble_eq_true rfl⟩) hK hZ hP hD hS hA [] rfl rfl rfl hl.1 rfl (Nat.le_of_ble_eq_true rfl) dX4_hush_6 ⟨Nat.le_of_ble_eq_true rfl, Nat.le_of_ble_eq_true rfl⟩) hP hD hS hA [] [0, 1, 2, 3, 4, 5, 6] [0, 1, 2, 3, 4, 5, 6] rfl rfl rfl (by decide) (fun _ => rfl) rfl (fun r_6 u_6 H locs hp_6 hP hD hS => ?_)
  rcases hp_6 with ⟨rfl, hp_6⟩ | ⟨rfl, hp_6⟩
  · refine lv_if_ne (tgt := 18) hx hb dX4_hush_9 (by decide) (fun c_9 => ?_) (fun c_9 => absurd c_9 (by decide))
    obtain ⟨j, hj, ej⟩ := id hp_6
    subst ej
    have tj : tN (nI j) = j := tN_nI (by omega)
    rcases (show j = 0 ∨ j = 1 by omega) with rfl | rfl
    · skip
      refine lv_aload_n hx hb dX4_hush_18 rfl (lv_at hl 0 rfl) ?_
      refine lv_iload_n hx hb dX4_hush_19 rfl (lv_at hl 1 rfl) ?_
      refine k_calli (fun _ => [kO q0 4 [.int (nI 0), .ref q1, .ref q2, .ref q3, .ref q4, .ref q5, .ref q6], kC G q1 8 (nR (peF w0 w1)), kC G q2 120 (nR (knF w0 w1)), kC G q3 120 (nR (plF w0 w1)), kC G q4 80 (nR ru), kC G q5 8 (nR bf), kC G q6 2 (nR (nuF ho un))]) [] (k_runV (As := [.int (nI 0)]) (rest := []) (wc := [kO q0 4 [.int (nI 0), .ref q1, .ref q2, .ref q3, .ref q4, .ref q5, .ref q6], kC G q1 8 (nR (peF w0 w1)), kC G q2 120 (nR (knF w0 w1)), kC G q3 120 (nR (plF w0 w1)), kC G q4 80 (nR ru), kC G q5 8 (nR bf), kC G q6 2 (nR (nuF ho un))]) ⟨hx, hb, hml, hown, hts⟩ (m_told0 l G q0 q1 q2 q3 q4 q5 q6 w0 w1 bf ho un ru 0 h0 h1 hru) (cwV 1 hts gX4_hush_X4_told rfl rfl rfl (by decide +kernel) ⟨Nat.le_of_ble_eq_true rfl, Nat.le_of_ble_eq_true rfl⟩) hK hZ hP hD hS hA [0, 1, 2, 3, 4, 5, 6] rfl rfl 0 4 rfl rfl rfl rfl hl.1 rfl (Nat.le_of_ble_eq_true rfl) dX4_hush_20 ⟨Nat.le_of_ble_eq_true rfl, Nat.le_of_ble_eq_true rfl⟩) hP hD hS hA [0, 1, 2, 3, 4, 5, 6] [] [0, 1, 2, 3, 4, 5, 6] rfl rfl rfl (by decide) (fun _ => rfl) rfl (fun r_20 u_20 H locs hp_20 hP hD hS => ?_)
      have hp_20 : r_20 = nI (sumN (vN w0) (vT w0)) := hp_20
      subst hp_20
      refine lv_istore_n (lv' := [(2, .int (nI (sumN (vN w0) (vT w0)))), (0, .ref q0), (1, .int (nI 0))]) hx hb dX4_hush_23 rfl hl (by decide) rfl (fun ls hl => ?_)
      refine lv_aload_n hx hb dX4_hush_24 rfl (lv_at hl 1 rfl) ?_
      refine lv_iload_n hx hb dX4_hush_25 rfl (lv_at hl 2 rfl) ?_
      refine lv_iconst (v := nI 2) hx hb dX4_hush_26 (by decide) ?_
      refine lv_iconst (v := nI 0) hx hb dX4_hush_27 (by decide) ?_
      refine k_callv (fun _ => [kO q0 4 [.int (nI 0), .ref q1, .ref q2, .ref q3, .ref q4, .ref q5, .ref q6], kC G q1 8 (nR (updN (peF w0 w1) (4 * 0 + 2) 0)), kC G q2 120 (nR (knF w0 w1)), kC G q3 120 (nR (plF w0 w1)), kC G q4 80 (nR ru), kC G q5 8 (nR bf), kC G q6 2 (nR (nuF ho un))]) [kC G q2 120 (nR (knF w0 w1)), kC G q3 120 (nR (plF w0 w1)), kC G q4 80 (nR ru), kC G q5 8 (nR bf), kC G q6 2 (nR (nuF ho un))] (k_runV (As := [.int (nI 0), .int (nI 2), .int (nI 0)]) (rest := []) (wc := [kO q0 4 [.int (nI 0), .ref q1, .ref q2, .ref q3, .ref q4, .ref q5, .ref q6], kC G q1 8 (nR (peF w0 w1))]) ⟨hx, hb, hml, hown, hts⟩ (m_put l G q0 q1 q2 q3 q4 q5 q6 0 (peF w0 w1) 0 2 0 (by decide) (by decide)) (cwV 3 hts gX4_hush_X4_put rfl rfl rfl (by decide +kernel) ⟨Nat.le_of_ble_eq_true rfl, Nat.le_of_ble_eq_true rfl⟩) hK hZ hP hD hS hA [0, 1] rfl rfl 0 4 rfl rfl rfl rfl hl.1 rfl (Nat.le_of_ble_eq_true rfl) dX4_hush_28 ⟨Nat.le_of_ble_eq_true rfl, Nat.le_of_ble_eq_true rfl⟩) hP hD hS hA [0, 1] [2, 3, 4, 5, 6] [5, 6, 0, 1, 2, 3, 4] rfl rfl rfl (by decide) (fun _ => rfl) rfl (fun u_28 H locs hp_28 hP hD hS => ?_)
      rw [pe_2] at hP hD
      have hP : va_P G.1 vwCl [kO q0 4 [.int (nI 0), .ref q1, .ref q2, .ref q3, .ref q4, .ref q5, .ref q6], kC G q1 8 (nR (peF (wTold w0 0) w1)), kC G q2 120 (nR (knF w0 w1)), kC G q3 120 (nR (plF w0 w1)), kC G q4 80 (nR ru), kC G q5 8 (nR bf), kC G q6 2 (nR (nuF ho un))] H := hP
      have hD : va_D A [kO q0 4 [.int (nI 0), .ref q1, .ref q2, .ref q3, .ref q4, .ref q5, .ref q6], kC G q1 8 (nR (peF (wTold w0 0) w1)), kC G q2 120 (nR (knF w0 w1)), kC G q3 120 (nR (plF w0 w1)), kC G q4 80 (nR ru), kC G q5 8 (nR bf), kC G q6 2 (nR (nuF ho un))] := hD
      refine lv_iload_n hx hb dX4_hush_31 rfl (lv_at hl 0 rfl) ?_
      exact k_iret (ws := [kO q0 4 [.int (nI th), .ref q1, .ref q2, .ref q3, .ref q4, .ref q5, .ref q6], kC G q1 8 (nR (peF w0 w1)), kC G q2 120 (nR (knF w0 w1)), kC G q3 120 (nR (plF w0 w1)), kC G q4 80 (nR ru), kC G q5 8 (nR bf), kC G q6 2 (nR (nuF ho un))]) (ru) hx hb hr hlocks hP hD hS hAe hQ (Nat.le_of_ble_eq_true rfl) (Nat.le_of_ble_eq_true rfl) dX4_hush_32 (by rw [cdA_0 hp_6, tj]; first | done | rfl) (⟨fun _ => (by rw [tj]; rfl), by rw [cdA_0 hp_6, tj]; exact ⟨fun i hi => absurd hi (Nat.not_lt_zero i), hru.2⟩⟩)
    · skip
      refine lv_aload_n hx hb dX4_hush_18 rfl (lv_at hl 0 rfl) ?_
      refine lv_iload_n hx hb dX4_hush_19 rfl (lv_at hl 1 rfl) ?_
      refine k_calli (fun _ => [kO q0 4 [.int (nI 0), .ref q1, .ref q2, .ref q3, .ref q4, .ref q5, .ref q6], kC G q1 8 (nR (peF w0 w1)), kC G q2 120 (nR (knF w0 w1)), kC G q3 120 (nR (plF w0 w1)), kC G q4 80 (nR ru), kC G q5 8 (nR bf), kC G q6 2 (nR (nuF ho un))]) [] (k_runV (As := [.int (nI 1)]) (rest := []) (wc := [kO q0 4 [.int (nI 0), .ref q1, .ref q2, .ref q3, .ref q4, .ref q5, .ref q6], kC G q1 8 (nR (peF w0 w1)), kC G q2 120 (nR (knF w0 w1)), kC G q3 120 (nR (plF w0 w1)), kC G q4 80 (nR ru), kC G q5 8 (nR bf), kC G q6 2 (nR (nuF ho un))]) ⟨hx, hb, hml, hown, hts⟩ (m_told1 l G q0 q1 q2 q3 q4 q5 q6 w0 w1 bf ho un ru 0 h0 h1 hru) (cwV 1 hts gX4_hush_X4_told rfl rfl rfl (by decide +kernel) ⟨Nat.le_of_ble_eq_true rfl, Nat.le_of_ble_eq_true rfl⟩) hK hZ hP hD hS hA [0, 1, 2, 3, 4, 5, 6] rfl rfl 0 4 rfl rfl rfl rfl hl.1 rfl (Nat.le_of_ble_eq_true rfl) dX4_hush_20 ⟨Nat.le_of_ble_eq_true rfl, Nat.le_of_ble_eq_true rfl⟩) hP hD hS hA [0, 1, 2, 3, 4, 5, 6] [] [0, 1, 2, 3, 4, 5, 6] rfl rfl rfl (by decide) (fun _ => rfl) rfl (fun r_20 u_20 H locs hp_20 hP hD hS => ?_)
      have hp_20 : r_20 = nI (sumN (vN w1) (vT w1)) := hp_20
      subst hp_20
      refine lv_istore_n (lv' := [(2, .int (nI (sumN (vN w1) (vT w1)))), (0, .ref q0), (1, .int (nI 1))]) hx hb dX4_hush_23 rfl hl (by decide) rfl (fun ls hl => ?_)
      refine lv_aload_n hx hb dX4_hush_24 rfl (lv_at hl 1 rfl) ?_
      refine lv_iload_n hx hb dX4_hush_25 rfl (lv_at hl 2 rfl) ?_
      refine lv_iconst (v := nI 2) hx hb dX4_hush_26 (by decide) ?_
      refine lv_iconst (v := nI 0) hx hb dX4_hush_27 (by decide) ?_
      refine k_callv (fun _ => [kO q0 4 [.int (nI 0), .ref q1, .ref q2, .ref q3, .ref q4, .ref q5, .ref q6], kC G q1 8 (nR (updN (peF w0 w1) (4 * 1 + 2) 0)), kC G q2 120 (nR (knF w0 w1)), kC G q3 120 (nR (plF w0 w1)), kC G q4 80 (nR ru), kC G q5 8 (nR bf), kC G q6 2 (nR (nuF ho un))]) [kC G q2 120 (nR (knF w0 w1)), kC G q3 120 (nR (plF w0 w1)), kC G q4 80 (nR ru), kC G q5 8 (nR bf), kC G q6 2 (nR (nuF ho un))] (k_runV (As := [.int (nI 1), .int (nI 2), .int (nI 0)]) (rest := []) (wc := [kO q0 4 [.int (nI 0), .ref q1, .ref q2, .ref q3, .ref q4, .ref q5, .ref q6], kC G q1 8 (nR (peF w0 w1))]) ⟨hx, hb, hml, hown, hts⟩ (m_put l G q0 q1 q2 q3 q4 q5 q6 0 (peF w0 w1) 1 2 0 (by decide) (by decide)) (cwV 3 hts gX4_hush_X4_put rfl rfl rfl (by decide +kernel) ⟨Nat.le_of_ble_eq_true rfl, Nat.le_of_ble_eq_true rfl⟩) hK hZ hP hD hS hA [0, 1] rfl rfl 0 4 rfl rfl rfl rfl hl.1 rfl (Nat.le_of_ble_eq_true rfl) dX4_hush_28 ⟨Nat.le_of_ble_eq_true rfl, Nat.le_of_ble_eq_true rfl⟩) hP hD hS hA [0, 1] [2, 3, 4, 5, 6] [5, 6, 0, 1, 2, 3, 4] rfl rfl rfl (by decide) (fun _ => rfl) rfl (fun u_28 H locs hp_28 hP hD hS => ?_)
      rw [pe_6] at hP hD
      have hP : va_P G.1 vwCl [kO q0 4 [.int (nI 0), .ref q1, .ref q2, .ref q3, .ref q4, .ref q5, .ref q6], kC G q1 8 (nR (peF w0 (wTold w1 0))), kC G q2 120 (nR (knF w0 w1)), kC G q3 120 (nR (plF w0 w1)), kC G q4 80 (nR ru), kC G q5 8 (nR bf), kC G q6 2 (nR (nuF ho un))] H := hP
      have hD : va_D A [kO q0 4 [.int (nI 0), .ref q1, .ref q2, .ref q3, .ref q4, .ref q5, .ref q6], kC G q1 8 (nR (peF w0 (wTold w1 0))), kC G q2 120 (nR (knF w0 w1)), kC G q3 120 (nR (plF w0 w1)), kC G q4 80 (nR ru), kC G q5 8 (nR bf), kC G q6 2 (nR (nuF ho un))] := hD
      refine lv_iload_n hx hb dX4_hush_31 rfl (lv_at hl 0 rfl) ?_
      exact k_iret (ws := [kO q0 4 [.int (nI th), .ref q1, .ref q2, .ref q3, .ref q4, .ref q5, .ref q6], kC G q1 8 (nR (peF w0 w1)), kC G q2 120 (nR (knF w0 w1)), kC G q3 120 (nR (plF w0 w1)), kC G q4 80 (nR ru), kC G q5 8 (nR bf), kC G q6 2 (nR (nuF ho un))]) (ru) hx hb hr hlocks hP hD hS hAe hQ (Nat.le_of_ble_eq_true rfl) (Nat.le_of_ble_eq_true rfl) dX4_hush_32 (by rw [cdA_0 hp_6, tj]; first | done | rfl) (⟨fun _ => (by rw [tj]; rfl), by rw [cdA_0 hp_6, tj]; exact ⟨hru.1, fun i hi => absurd hi (Nat.not_lt_zero i)⟩⟩)
  · refine lv_if_ne (tgt := 18) hx hb dX4_hush_9 (by decide) (fun c_9 => absurd c_9 (by decide)) (fun c_9 => ?_)
    refine lv_aload_n hx hb dX4_hush_12 rfl (lv_at hl 0 rfl) ?_
    refine lv_iconst (v := nI 1) hx hb dX4_hush_13 (by decide) ?_
    refine k_calli (fun _ => [kO q0 4 [.int (nI 1), .ref q1, .ref q2, .ref q3, .ref q4, .ref q5, .ref q6], kC G q1 8 (nR (peF w0 w1)), kC G q2 120 (nR (knF w0 w1)), kC G q3 120 (nR (plF w0 w1)), kC G q4 80 (nR ru), kC G q5 8 (nR bf), kC G q6 2 (nR (nuF ho un))]) [kC G q1 8 (nR (peF w0 w1)), kC G q2 120 (nR (knF w0 w1)), kC G q3 120 (nR (plF w0 w1)), kC G q4 80 (nR ru), kC G q5 8 (nR bf), kC G q6 2 (nR (nuF ho un))] (k_runV (As := [.int (nI 1)]) (rest := []) (wc := [kO q0 4 [.int (nI 0), .ref q1, .ref q2, .ref q3, .ref q4, .ref q5, .ref q6]]) ⟨hx, hb, hml, hown, hts⟩ (m_fail l G q0 q1 q2 q3 q4 q5 q6 0 1 ) (cwV 1 hts gX4_hush_X4_fail rfl rfl rfl (by decide +kernel) ⟨Nat.le_of_ble_eq_true rfl, Nat.le_of_ble_eq_true rfl⟩) hK hZ hP hD hS hA [0] rfl rfl 0 4 rfl rfl rfl rfl hl.1 rfl (Nat.le_of_ble_eq_true rfl) dX4_hush_14 ⟨Nat.le_of_ble_eq_true rfl, Nat.le_of_ble_eq_true rfl⟩) hP hD hS hA [0] [1, 2, 3, 4, 5, 6] [6, 0, 1, 2, 3, 4, 5] rfl rfl rfl (by decide) (fun _ => rfl) rfl (fun r_14 u_14 H locs hp_14 hP hD hS => ?_)
    have hp_14 : r_14 = nI 0 := hp_14
    subst hp_14
    exact k_iret (ws := [kO q0 4 [.int (nI th), .ref q1, .ref q2, .ref q3, .ref q4, .ref q5, .ref q6], kC G q1 8 (nR (peF w0 w1)), kC G q2 120 (nR (knF w0 w1)), kC G q3 120 (nR (plF w0 w1)), kC G q4 80 (nR ru), kC G q5 8 (nR bf), kC G q6 2 (nR (nuF ho un))]) (ru) hx hb hr hlocks hP hD hS hAe hQ (Nat.le_of_ble_eq_true rfl) (Nat.le_of_ble_eq_true rfl) dX4_hush_17 (by rw [cdA_1 hp_6]; first | done | rfl) (⟨fun q => absurd ((cdA_1 hp_6).symm.trans q) (by decide), by rw [cdA_1 hp_6]; exact hru⟩)
set_option maxHeartbeats 4000000 in
set_option maxRecDepth 100000 in
theorem m_unpick (l : Launch) (G : kG) (q0 : Nat) (q1 : Nat) (q2 : Nat) (q3 : Nat) (q4 : Nat) (q5 : Nat) (q6 : Nat) (w0 : Wv) (w1 : Wv) (bf : Nat → Nat) (ho : Nat) (un : Nat) (ru : Nat → Nat) (th : Nat) (x1 : Int32) (x2 : Int32) (h0 : wOk w0) (h1 : wOk w1) (hB : bOk bf) (hru : ruOk w0 w1 ru) : kM l G yX4_unpick wsX4_unpick ({ frames := 2, cells := 0, slots := 0, locals := 42 } : Room) [.ref q0, .int x1, .int x2] [kO q0 4 [.int (nI th), .ref q1, .ref q2, .ref q3, .ref q4, .ref q5, .ref q6], kC G q1 8 (nR (peF w0 w1)), kC G q2 120 (nR (knF w0 w1)), kC G q3 120 (nR (plF w0 w1)), kC G q4 80 (nR ru), kC G q5 8 (nR bf), kC G q6 2 (nR (nuF ho un))] (kQi G [kO q0 4 [.int (nI th), .ref q1, .ref q2, .ref q3, .ref q4, .ref q5, .ref q6], kC G q1 8 (nR (peF w0 w1)), kC G q2 120 (nR (knF w0 w1)), kC G q3 120 (nR (plF w0 w1)), kC G q4 80 (nR ru), kC G q5 8 (nR bf), kC G q6 2 (nR (nuF ho un))] (fun (r : Int32) (u : Nat → Nat) => (cdC (inR x1 2) (inG x2 1 60) (tN x2 ≤ vM (gW (w0, w1, bf, ho, un) (tN x1))) = 0 → r = nI (vM (gW (w0, w1, bf, ho, un) (tN x1)) - tN x2)) ∧ ruOk (stIf (cdC (inR x1 2) (inG x2 1 60) (tN x2 ≤ vM (gW (w0, w1, bf, ho, un) (tN x1)))) (sUn (w0, w1, bf, ho, un) (tN x1) (tN x2)) (w0, w1, bf, ho, un)).1 (stIf (cdC (inR x1 2) (inG x2 1 60) (tN x2 ≤ vM (gW (w0, w1, bf, ho, un) (tN x1)))) (sUn (w0, w1, bf, ho, un) (tN x1) (tN x2)) (w0, w1, bf, ho, un)).2.1 u) (fun (u : Nat → Nat) => [kO q0 4 [.int (nI (cdC (inR x1 2) (inG x2 1 60) (tN x2 ≤ vM (gW (w0, w1, bf, ho, un) (tN x1))))), .ref q1, .ref q2, .ref q3, .ref q4, .ref q5, .ref q6], kC G q1 8 (nR (peF ((stIf (cdC (inR x1 2) (inG x2 1 60) (tN x2 ≤ vM (gW (w0, w1, bf, ho, un) (tN x1)))) (sUn (w0, w1, bf, ho, un) (tN x1) (tN x2)) (w0, w1, bf, ho, un)).1) ((stIf (cdC (inR x1 2) (inG x2 1 60) (tN x2 ≤ vM (gW (w0, w1, bf, ho, un) (tN x1)))) (sUn (w0, w1, bf, ho, un) (tN x1) (tN x2)) (w0, w1, bf, ho, un)).2.1))), kC G q2 120 (nR (knF ((stIf (cdC (inR x1 2) (inG x2 1 60) (tN x2 ≤ vM (gW (w0, w1, bf, ho, un) (tN x1)))) (sUn (w0, w1, bf, ho, un) (tN x1) (tN x2)) (w0, w1, bf, ho, un)).1) ((stIf (cdC (inR x1 2) (inG x2 1 60) (tN x2 ≤ vM (gW (w0, w1, bf, ho, un) (tN x1)))) (sUn (w0, w1, bf, ho, un) (tN x1) (tN x2)) (w0, w1, bf, ho, un)).2.1))), kC G q3 120 (nR (plF ((stIf (cdC (inR x1 2) (inG x2 1 60) (tN x2 ≤ vM (gW (w0, w1, bf, ho, un) (tN x1)))) (sUn (w0, w1, bf, ho, un) (tN x1) (tN x2)) (w0, w1, bf, ho, un)).1) ((stIf (cdC (inR x1 2) (inG x2 1 60) (tN x2 ≤ vM (gW (w0, w1, bf, ho, un) (tN x1)))) (sUn (w0, w1, bf, ho, un) (tN x1) (tN x2)) (w0, w1, bf, ho, un)).2.1))), kC G q4 80 (nR u), kC G q5 8 (nR ((stIf (cdC (inR x1 2) (inG x2 1 60) (tN x2 ≤ vM (gW (w0, w1, bf, ho, un) (tN x1)))) (sUn (w0, w1, bf, ho, un) (tN x1) (tN x2)) (w0, w1, bf, ho, un)).2.2.1)), kC G q6 2 (nR (nuF ((stIf (cdC (inR x1 2) (inG x2 1 60) (tN x2 ≤ vM (gW (w0, w1, bf, ho, un) (tN x1)))) (sUn (w0, w1, bf, ho, un) (tN x1) (tN x2)) (w0, w1, bf, ho, un)).2.2.2.1) ((stIf (cdC (inR x1 2) (inG x2 1 60) (tN x2 ≤ vM (gW (w0, w1, bf, ho, un) (tN x1)))) (sUn (w0, w1, bf, ho, un) (tN x1) (tN x2)) (w0, w1, bf, ho, un)).2.2.2.2)))])) := by
  refine k_ofW (cc := cX4_unpick) (maxL := 6) (rt := (some .int)) (by decide) rfl (Nat.le_of_ble_eq_true rfl) ?_
  intro p e s m args below meth c A ls Qs H locs hQ hAe hx hb hr hml hts hown hlocks hin hK hZ hP hD hS hA hl
  have hown : s.vm.findClass RX4 = some m.cls := hown
  have hl : lv_has ls 6 [(0, .ref q0), (1, .int x1), (2, .int x2)] := hl
  have m0b : vM w0 ≤ 60 := h0.2.2.2.1
  have m1b : vM w1 ≤ 60 := h1.2.2.2.1
  have t0b : vT w0 ≤ 20 := h0.2.2.1
  have t1b : vT w1 ≤ 20 := h1.2.2.1
  have pb0 : ∀ i, i < 60 → vP w0 i < 8 := h0.2.2.2.2.1
  have pb1 : ∀ i, i < 60 → vP w1 i < 8 := h1.2.2.2.2.1
  have kb0 : ∀ i, i < 60 → vK w0 i < 8 := h0.2.2.2.2.2.1
  have kb1 : ∀ i, i < 60 → vK w1 i < 8 := h1.2.2.2.2.2.1
  have rk0 := hru.1
  have rk1 := hru.2
  have hq_0 : ∀ w ∈ wsX40, w ∈ wsX4_unpick := by decide +kernel
  have hq_1 : (Cond.fieldLink RX4 28 "KnotRugsModel" "thrown" "I").before args s = true := hts _ (by decide +kernel)
  have hq_2 : (Cond.fieldLink RX4 25 "KnotRugsModel" "numbers" "[I").before args s = true := hts _ (by decide +kernel)
  have hq_3 : (Cond.fieldLink RX4 13 "KnotRugsModel" "knots" "[I").before args s = true := hts _ (by decide +kernel)
  have hq_4 : (Cond.fieldLink RX4 22 "KnotRugsModel" "baskets" "[I").before args s = true := hts _ (by decide +kernel)
  have hq_5 : (Cond.methodLink RX4 55 Lib.Math.min.name).before args s = true := hts _ (by decide +kernel)
  have hq_6 : (Cond.static Lib.Math.min.name).before args s = true := hts _ (by decide +kernel)
  have hq_7 : (Cond.initialized "java/lang/Math").before args s = true := hts _ (by decide +kernel)
  have hq_8 : (Cond.code Lib.Math.min.name Lib.Math.min.code 2 (some .int)).before args s = true := hts _ (by decide +kernel)
  refine lv_aload_n hx hb dX4_unpick_0 rfl (lv_at hl 0 rfl) ?_
  refine lv_iconst (v := nI 0) hx hb dX4_unpick_1 (by decide) ?_
  refine va_put (D := G.1) (ci := 4) (v := .int (nI 0)) (ty := .int) (C := RX4) (T := TX4) (N := 7) hx hb hts hq_0 tyX4 tyX4_ok nmX4 hown hK.1 hP hD hS 0 rfl rfl 0 (by decide) hq_1 (fun _ h9 => h9) rfl (by decide +kernel) rfl rfl (Nat.le_of_ble_eq_true rfl) dX4_unpick_2 (fun H locs hP hD hS => ?_)
  have hP : va_P G.1 vwCl [kO q0 4 [.int (nI 0), .ref q1, .ref q2, .ref q3, .ref q4, .ref q5, .ref q6], kC G q1 8 (nR (peF w0 w1)), kC G q2 120 (nR (knF w0 w1)), kC G q3 120 (nR (plF w0 w1)), kC G q4 80 (nR ru), kC G q5 8 (nR bf), kC G q6 2 (nR (nuF ho un))] H := hP
  have hD : va_D A [kO q0 4 [.int (nI 0), .ref q1, .ref q2, .ref q3, .ref q4, .ref q5, .ref q6], kC G q1 8 (nR (peF w0 w1)), kC G q2 120 (nR (knF w0 w1)), kC G q3 120 (nR (plF w0 w1)), kC G q4 80 (nR ru), kC G q5 8 (nR bf), kC G q6 2 (nR (nuF ho un))] := hD
  refine lv_iload_n hx hb dX4_unpick_5 rfl (lv_at hl 1 rfl) ?_
  refine k_calli (fun u_6 => [kO q0 4 [.int (nI 0), .ref q1, .ref q2, .ref q3, .ref q4, .ref q5, .ref q6], kC G q1 8 (nR (peF w0 w1)), kC G q2 120 (nR (knF w0 w1)), kC G q3 120 (nR (plF w0 w1)), kC G q4 80 (nR ru), kC G q5 8 (nR bf), kC G q6 2 (nR (nuF ho un))]) [kO q0 4 [.int (nI 0), .ref q1, .ref q2, .ref q3, .ref q4, .ref q5, .ref q6], kC G q1 8 (nR (peF w0 w1)), kC G q2 120 (nR (knF w0 w1)), kC G q3 120 (nR (plF w0 w1)), kC G q4 80 (nR ru), kC G q5 8 (nR bf), kC G q6 2 (nR (nuF ho un))] (k_runS (As := [.int x1]) (rest := []) (wc := []) ⟨hx, hb, hml, hown, hts⟩ (m_isWeaver l G x1 ) (va_cwS 1 hts gX4_unpick_X4_isWeaver rfl rfl rfl (by decide +kernel) ⟨Nat.le_of_ble_eq_true rfl, Nat.le_of_ble_eq_true rfl⟩) hK hZ hP hD hS hA [] rfl rfl rfl hl.1 rfl (Nat.le_of_ble_eq_true rfl) dX4_unpick_6 ⟨Nat.le_of_ble_eq_true rfl, Nat.le_of_ble_eq_true rfl⟩) hP hD hS hA [] [0, 1, 2, 3, 4, 5, 6] [0, 1, 2, 3, 4, 5, 6] rfl rfl rfl (by decide) (fun _ => rfl) rfl (fun r_6 u_6 H locs hp_6 hP hD hS => ?_)
  rcases hp_6 with ⟨rfl, hp_6⟩ | ⟨rfl, hp_6⟩
  · refine lv_if_ne (tgt := 18) hx hb dX4_unpick_9 (by decide) (fun c_9 => ?_) (fun c_9 => absurd c_9 (by decide))
    refine lv_iload_n hx hb dX4_unpick_18 rfl (lv_at hl 2 rfl) ?_
    refine lv_iconst (v := nI 1) hx hb dX4_unpick_19 (by decide) ?_
    refine lv_bipush (v := nI 60) hx hb dX4_unpick_20 (by decide) ?_
    refine k_calli (fun u_22 => [kO q0 4 [.int (nI 0), .ref q1, .ref q2, .ref q3, .ref q4, .ref q5, .ref q6], kC G q1 8 (nR (peF w0 w1)), kC G q2 120 (nR (knF w0 w1)), kC G q3 120 (nR (plF w0 w1)), kC G q4 80 (nR ru), kC G q5 8 (nR bf), kC G q6 2 (nR (nuF ho un))]) [kO q0 4 [.int (nI 0), .ref q1, .ref q2, .ref q3, .ref q4, .ref q5, .ref q6], kC G q1 8 (nR (peF w0 w1)), kC G q2 120 (nR (knF w0 w1)), kC G q3 120 (nR (plF w0 w1)), kC G q4 80 (nR ru), kC G q5 8 (nR bf), kC G q6 2 (nR (nuF ho un))] (k_runS (As := [.int x2, .int (nI 1), .int (nI 60)]) (rest := []) (wc := []) ⟨hx, hb, hml, hown, hts⟩ (m_isIn l G x2 (nI 1) (nI 60) ) (va_cwS 3 hts gX4_unpick_X4_isIn rfl rfl rfl (by decide +kernel) ⟨Nat.le_of_ble_eq_true rfl, Nat.le_of_ble_eq_true rfl⟩) hK hZ hP hD hS hA [] rfl rfl rfl hl.1 rfl (Nat.le_of_ble_eq_true rfl) dX4_unpick_22 ⟨Nat.le_of_ble_eq_true rfl, Nat.le_of_ble_eq_true rfl⟩) hP hD hS hA [] [0, 1, 2, 3, 4, 5, 6] [0, 1, 2, 3, 4, 5, 6] rfl rfl rfl (by decide) (fun _ => rfl) rfl (fun r_22 u_22 H locs hp_22 hP hD hS => ?_)
    rw [isIn_G (by decide) (by decide)] at hp_22
    rcases hp_22 with ⟨rfl, hp_22⟩ | ⟨rfl, hp_22⟩
    · refine lv_if_ne (tgt := 34) hx hb dX4_unpick_25 (by decide) (fun c_25 => ?_) (fun c_25 => absurd c_25 (by decide))
      obtain ⟨j, hj, ej⟩ := id hp_6
      subst ej
      have tj : tN (nI j) = j := tN_nI (by omega)
      obtain ⟨k, hka, hkb, ek⟩ := id hp_22
      subst ek
      have tk : tN (nI k) = k := tN_nI (by omega)
      rcases (show j = 0 ∨ j = 1 by omega) with rfl | rfl
      · skip
        refine lv_aload_n hx hb dX4_unpick_34 rfl (lv_at hl 0 rfl) ?_
        refine lv_iload_n hx hb dX4_unpick_35 rfl (lv_at hl 1 rfl) ?_
        refine lv_iconst (v := nI 1) hx hb dX4_unpick_36 (by decide) ?_
        refine k_calli (fun _ => [kO q0 4 [.int (nI 0), .ref q1, .ref q2, .ref q3, .ref q4, .ref q5, .ref q6], kC G q1 8 (nR (peF w0 w1)), kC G q2 120 (nR (knF w0 w1)), kC G q3 120 (nR (plF w0 w1)), kC G q4 80 (nR ru), kC G q5 8 (nR bf), kC G q6 2 (nR (nuF ho un))]) [kC G q2 120 (nR (knF w0 w1)), kC G q3 120 (nR (plF w0 w1)), kC G q4 80 (nR ru), kC G q5 8 (nR bf), kC G q6 2 (nR (nuF ho un))] (k_runV (As := [.int (nI 0), .int (nI 1)]) (rest := []) (wc := [kO q0 4 [.int (nI 0), .ref q1, .ref q2, .ref q3, .ref q4, .ref q5, .ref q6], kC G q1 8 (nR (peF w0 w1))]) ⟨hx, hb, hml, hown, hts⟩ (m_pe l G q0 q1 q2 q3 q4 q5 q6 0 (peF w0 w1) 0 1 (by decide) (by decide)) (cwV 2 hts gX4_unpick_X4_pe rfl rfl rfl (by decide +kernel) ⟨Nat.le_of_ble_eq_true rfl, Nat.le_of_ble_eq_true rfl⟩) hK hZ hP hD hS hA [0, 1] rfl rfl 0 4 rfl rfl rfl rfl hl.1 rfl (Nat.le_of_ble_eq_true rfl) dX4_unpick_37 ⟨Nat.le_of_ble_eq_true rfl, Nat.le_of_ble_eq_true rfl⟩) hP hD hS hA [0, 1] [2, 3, 4, 5, 6] [5, 6, 0, 1, 2, 3, 4] rfl rfl rfl (by decide) (fun _ => rfl) rfl (fun r_37 u_37 H locs hp_37 hP hD hS => ?_)
        have hp_37 : r_37 = nI (vM w0) := hp_37
        subst hp_37
        refine lv_istore_n (lv' := [(3, .int (nI (vM w0))), (0, .ref q0), (1, .int (nI 0)), (2, .int (nI k))]) hx hb dX4_unpick_40 rfl hl (by decide) rfl (fun ls hl => ?_)
        refine lv_iload_n hx hb dX4_unpick_41 rfl (lv_at hl 3 rfl) ?_
        refine lv_iload_n hx hb dX4_unpick_42 rfl (lv_at hl 0 rfl) ?_
        refine lv_icmp_le (tgt := 52) hx hb dX4_unpick_43 (by decide) (fun c_43 => ?_) (fun c_43 => ?_)
        · have c_43 : k ≤ (vM w0) := (nI_leI (a := k) (b := (vM w0)) (by omega) (by omega)).mp c_43
          refine lv_iload_n hx hb dX4_unpick_52 rfl (lv_at hl 0 rfl) ?_
          refine lv_iload_n hx hb dX4_unpick_53 rfl (lv_at hl 3 rfl) ?_
          refine lv_isub hx hb dX4_unpick_54 ?_
          refine lv_topi (fun y_1 hy_1 => ?_)
          obtain rfl : y_1 = nI ((vM w0) - k) := hy_1.trans (pk_sub (a := (vM w0)) (b := k) (by omega))
          refine lv_istore (lv' := [(4, .int (nI ((vM w0) - k))), (3, .int (nI (vM w0))), (0, .ref q0), (1, .int (nI 0)), (2, .int (nI k))]) hx hb dX4_unpick_55 hl (by decide) rfl (fun ls hl => ?_)
          have loop_57 : ∀ (fu_57 : Nat) (i : Nat), i ≤ k → k < i + fu_57 → ∀ (H : Heap) (locs : List Loc) (ls : Array Slot), va_P G.1 vwCl [kO q0 4 [.int (nI 0), .ref q1, .ref q2, .ref q3, .ref q4, .ref q5, .ref q6], kC G q1 8 (nR (peF w0 w1)), kC G q2 120 (nR (knF w0 w1)), kC G q3 120 (nR (plF w0 w1)), kC G q4 80 (nR ru), kC G q5 8 (nR (unB (vK w0) bf (vM w0 - k) i)), kC G q6 2 (nR (nuF ho un))] H → va_D A [kO q0 4 [.int (nI 0), .ref q1, .ref q2, .ref q3, .ref q4, .ref q5, .ref q6], kC G q1 8 (nR (peF w0 w1)), kC G q2 120 (nR (knF w0 w1)), kC G q3 120 (nR (plF w0 w1)), kC G q4 80 (nR ru), kC G q5 8 (nR (unB (vK w0) bf (vM w0 - k) i)), kC G q6 2 (nR (nuF ho un))] → va_S A s.heap H locs → lv_has ls 6 [(0, .ref q0), (1, .int (nI 0)), (2, .int (nI k)), (3, .int (nI (vM w0))), (4, .int (nI (vM w0 - k + i)))] → W p l e ({ frames := 2, cells := 0, slots := 0, locals := 42 } : Room) s m args below meth c H locs 0 0 Qs (F0 m 57 ls []) := by
            intro fu_57
            induction fu_57 with
            | zero =>
              intro i hi hf
              exact absurd hf (by omega)
            | succ fu_57 ih_57 =>
              intro i hi hf H locs ls hP hD hS hl
              refine lv_iload hx hb dX4_unpick_57 (lv_at hl 4 rfl) ?_
              refine lv_iload_n hx hb dX4_unpick_59 rfl (lv_at hl 3 rfl) ?_
              refine lv_icmp_ge (tgt := 105) hx hb dX4_unpick_60 (by decide) (fun c_60 => ?_) (fun c_60 => ?_)
              · have c_60 : (vM w0) ≤ (vM w0 - k + i) := (nI_leI (a := (vM w0)) (b := (vM w0 - k + i)) (by omega) (by omega)).mp c_60
                have hi9 : i = k := by omega
                rw [hi9] at hP hD hl
                have hP : va_P G.1 vwCl [kO q0 4 [.int (nI 0), .ref q1, .ref q2, .ref q3, .ref q4, .ref q5, .ref q6], kC G q1 8 (nR (peF w0 w1)), kC G q2 120 (nR (knF w0 w1)), kC G q3 120 (nR (plF w0 w1)), kC G q4 80 (nR ru), kC G q5 8 (nR (unB (vK w0) bf (vM w0 - k) k)), kC G q6 2 (nR (nuF ho un))] H := hP
                have hD : va_D A [kO q0 4 [.int (nI 0), .ref q1, .ref q2, .ref q3, .ref q4, .ref q5, .ref q6], kC G q1 8 (nR (peF w0 w1)), kC G q2 120 (nR (knF w0 w1)), kC G q3 120 (nR (plF w0 w1)), kC G q4 80 (nR ru), kC G q5 8 (nR (unB (vK w0) bf (vM w0 - k) k)), kC G q6 2 (nR (nuF ho un))] := hD
                refine lv_aload_n hx hb dX4_unpick_105 rfl (lv_at hl 0 rfl) ?_
                refine lv_iload_n hx hb dX4_unpick_106 rfl (lv_at hl 1 rfl) ?_
                refine lv_iconst (v := nI 1) hx hb dX4_unpick_107 (by decide) ?_
                refine lv_iload_n hx hb dX4_unpick_108 rfl (lv_at hl 3 rfl) ?_
                refine lv_iload_n hx hb dX4_unpick_109 rfl (lv_at hl 2 rfl) ?_
                refine lv_isub hx hb dX4_unpick_110 ?_
                refine lv_topi (fun y_2 hy_2 => ?_)
                obtain rfl : y_2 = nI ((vM w0) - k) := hy_2.trans (pk_sub (a := (vM w0)) (b := k) (by omega))
                refine k_callv (fun _ => [kO q0 4 [.int (nI 0), .ref q1, .ref q2, .ref q3, .ref q4, .ref q5, .ref q6], kC G q1 8 (nR (updN (peF w0 w1) (4 * 0 + 1) ((vM w0) - k))), kC G q2 120 (nR (knF w0 w1)), kC G q3 120 (nR (plF w0 w1)), kC G q4 80 (nR ru), kC G q5 8 (nR (unB (vK w0) bf (vM w0 - k) k)), kC G q6 2 (nR (nuF ho un))]) [kC G q2 120 (nR (knF w0 w1)), kC G q3 120 (nR (plF w0 w1)), kC G q4 80 (nR ru), kC G q5 8 (nR (unB (vK w0) bf (vM w0 - k) k)), kC G q6 2 (nR (nuF ho un))] (k_runV (As := [.int (nI 0), .int (nI 1), .int (nI ((vM w0) - k))]) (rest := []) (wc := [kO q0 4 [.int (nI 0), .ref q1, .ref q2, .ref q3, .ref q4, .ref q5, .ref q6], kC G q1 8 (nR (peF w0 w1))]) ⟨hx, hb, hml, hown, hts⟩ (m_put l G q0 q1 q2 q3 q4 q5 q6 0 (peF w0 w1) 0 1 ((vM w0) - k) (by decide) (by decide)) (cwV 3 hts gX4_unpick_X4_put rfl rfl rfl (by decide +kernel) ⟨Nat.le_of_ble_eq_true rfl, Nat.le_of_ble_eq_true rfl⟩) hK hZ hP hD hS hA [0, 1] rfl rfl 0 4 rfl rfl rfl rfl hl.1 rfl (Nat.le_of_ble_eq_true rfl) dX4_unpick_111 ⟨Nat.le_of_ble_eq_true rfl, Nat.le_of_ble_eq_true rfl⟩) hP hD hS hA [0, 1] [2, 3, 4, 5, 6] [5, 6, 0, 1, 2, 3, 4] rfl rfl rfl (by decide) (fun _ => rfl) rfl (fun u_111 H locs hp_111 hP hD hS => ?_)
                rw [pe_1] at hP hD
                have hP : va_P G.1 vwCl [kO q0 4 [.int (nI 0), .ref q1, .ref q2, .ref q3, .ref q4, .ref q5, .ref q6], kC G q1 8 (nR (peF (wMade w0 (vM w0 - k)) w1)), kC G q2 120 (nR (knF w0 w1)), kC G q3 120 (nR (plF w0 w1)), kC G q4 80 (nR ru), kC G q5 8 (nR (unB (vK w0) bf (vM w0 - k) k)), kC G q6 2 (nR (nuF ho un))] H := hP
                have hD : va_D A [kO q0 4 [.int (nI 0), .ref q1, .ref q2, .ref q3, .ref q4, .ref q5, .ref q6], kC G q1 8 (nR (peF (wMade w0 (vM w0 - k)) w1)), kC G q2 120 (nR (knF w0 w1)), kC G q3 120 (nR (plF w0 w1)), kC G q4 80 (nR ru), kC G q5 8 (nR (unB (vK w0) bf (vM w0 - k) k)), kC G q6 2 (nR (nuF ho un))] := hD
                refine lv_aload_n hx hb dX4_unpick_114 rfl (lv_at hl 0 rfl) ?_
                refine va_get (D := G.1) (ci := 4) (v := .ref q6) (C := RX4) (T := TX4) (N := 7) hx hb hts hq_0 hown hK.1 hP 0 rfl rfl 6 (by decide) hq_2 (fun _ h9 => h9) rfl dX4_unpick_115 ?_
                refine lv_iconst (v := nI 1) hx hb dX4_unpick_118 (by decide) ?_
                refine lv_dup2_11 hx hb dX4_unpick_119 rfl rfl ?_
                have hi_3 : 1 < 2 := by omega
                refine va_iald (D := G.1) hx hb hK.1 hP 6 0 rfl rfl (vp_in_nI hi_3 (by omega)) dX4_unpick_120 ?_
                refine lv_topi (fun y_4 hy_4 => ?_)
                obtain rfl : y_4 = nI ((nuF ho un) 1) := hy_4.trans (nR_at (by omega))
                refine lv_topi (fun y_5 hy_5 => ?_)
                obtain rfl : y_5 = nI un := hy_5.trans (rfl)
                refine lv_iload_n hx hb dX4_unpick_121 rfl (lv_at hl 2 rfl) ?_
                refine lv_iadd hx hb dX4_unpick_122 ?_
                refine lv_topi (fun y_6 hy_6 => ?_)
                obtain rfl : y_6 = nI (un + k) := hy_6.trans (nI_add un k)
                have hi_7 : 1 < 2 := by omega
                refine va_iast (D := G.1) hx hb hK.1 hP hD hS 6 0 rfl rfl (vp_in_nI hi_7 (by omega)) dX4_unpick_123 (fun H locs hP hD hS => ?_)
                rw [nR_upd (f := (nuF ho un)) (k := 1) (v := (un + k)) (by omega)] at hP hD
                have hP : va_P G.1 vwCl [kO q0 4 [.int (nI 0), .ref q1, .ref q2, .ref q3, .ref q4, .ref q5, .ref q6], kC G q1 8 (nR (peF (wMade w0 (vM w0 - k)) w1)), kC G q2 120 (nR (knF w0 w1)), kC G q3 120 (nR (plF w0 w1)), kC G q4 80 (nR ru), kC G q5 8 (nR (unB (vK w0) bf (vM w0 - k) k)), kC G q6 2 (nR (updN (nuF ho un) 1 (un + k)))] H := hP
                have hD : va_D A [kO q0 4 [.int (nI 0), .ref q1, .ref q2, .ref q3, .ref q4, .ref q5, .ref q6], kC G q1 8 (nR (peF (wMade w0 (vM w0 - k)) w1)), kC G q2 120 (nR (knF w0 w1)), kC G q3 120 (nR (plF w0 w1)), kC G q4 80 (nR ru), kC G q5 8 (nR (unB (vK w0) bf (vM w0 - k) k)), kC G q6 2 (nR (updN (nuF ho un) 1 (un + k)))] := hD
                rw [nu_1] at hP hD
                have hP : va_P G.1 vwCl [kO q0 4 [.int (nI 0), .ref q1, .ref q2, .ref q3, .ref q4, .ref q5, .ref q6], kC G q1 8 (nR (peF (wMade w0 (vM w0 - k)) w1)), kC G q2 120 (nR (knF w0 w1)), kC G q3 120 (nR (plF w0 w1)), kC G q4 80 (nR ru), kC G q5 8 (nR (unB (vK w0) bf (vM w0 - k) k)), kC G q6 2 (nR (nuF ho (un + k)))] H := hP
                have hD : va_D A [kO q0 4 [.int (nI 0), .ref q1, .ref q2, .ref q3, .ref q4, .ref q5, .ref q6], kC G q1 8 (nR (peF (wMade w0 (vM w0 - k)) w1)), kC G q2 120 (nR (knF w0 w1)), kC G q3 120 (nR (plF w0 w1)), kC G q4 80 (nR ru), kC G q5 8 (nR (unB (vK w0) bf (vM w0 - k) k)), kC G q6 2 (nR (nuF ho (un + k)))] := hD
                refine lv_iload_n hx hb dX4_unpick_124 rfl (lv_at hl 3 rfl) ?_
                refine lv_iload_n hx hb dX4_unpick_125 rfl (lv_at hl 2 rfl) ?_
                refine lv_isub hx hb dX4_unpick_126 ?_
                refine lv_topi (fun y_8 hy_8 => ?_)
                obtain rfl : y_8 = nI ((vM w0) - k) := hy_8.trans (pk_sub (a := (vM w0)) (b := k) (by omega))
                exact k_iret (ws := [kO q0 4 [.int (nI th), .ref q1, .ref q2, .ref q3, .ref q4, .ref q5, .ref q6], kC G q1 8 (nR (peF w0 w1)), kC G q2 120 (nR (knF w0 w1)), kC G q3 120 (nR (plF w0 w1)), kC G q4 80 (nR ru), kC G q5 8 (nR bf), kC G q6 2 (nR (nuF ho un))]) (ru) hx hb hr hlocks hP hD hS hAe hQ (Nat.le_of_ble_eq_true rfl) (Nat.le_of_ble_eq_true rfl) dX4_unpick_127 (by rw [cdC_0 hp_6 hp_22 (by rw [tj, tk]; show  (k ≤ vM w0); omega), tj, tk]; first | done | rfl) (⟨fun _ => (by rw [tj, tk]; rfl), by rw [cdC_0 hp_6 hp_22 (by rw [tj, tk]; show  (k ≤ vM w0); omega), tj, tk]; exact hru⟩)
              · have c_60 : ¬ ((vM w0) ≤ (vM w0 - k + i)) := fun h9 => c_60 ((nI_leI (a := (vM w0)) (b := (vM w0 - k + i)) (by omega) (by omega)).mpr h9)
                refine lv_aload_n hx hb dX4_unpick_63 rfl (lv_at hl 0 rfl) ?_
                refine va_get (D := G.1) (ci := 4) (v := .ref q2) (C := RX4) (T := TX4) (N := 7) hx hb hts hq_0 hown hK.1 hP 0 rfl rfl 2 (by decide) hq_3 (fun _ h9 => h9) rfl dX4_unpick_64 ?_
                refine lv_bipush (v := nI 60) hx hb dX4_unpick_67 (by decide) ?_
                refine lv_iload_n hx hb dX4_unpick_69 rfl (lv_at hl 1 rfl) ?_
                refine lv_imul hx hb dX4_unpick_70 ?_
                refine lv_topi (fun y_9 hy_9 => ?_)
                obtain rfl : y_9 = nI 0 := hy_9.trans (by decide)
                refine lv_iload hx hb dX4_unpick_71 (lv_at hl 4 rfl) ?_
                refine lv_iadd hx hb dX4_unpick_73 ?_
                refine lv_topi (fun y_10 hy_10 => ?_)
                obtain rfl : y_10 = nI (0 + (vM w0 - k + i)) := hy_10.trans (nI_add 0 (vM w0 - k + i))
                have hi_11 : (0 + (vM w0 - k + i)) < 120 := by omega
                refine va_iald (D := G.1) hx hb hK.1 hP 2 0 rfl rfl (vp_in_nI hi_11 (by omega)) dX4_unpick_74 ?_
                refine lv_topi (fun y_12 hy_12 => ?_)
                obtain rfl : y_12 = nI ((knF w0 w1) (0 + (vM w0 - k + i))) := hy_12.trans (nR_at (by omega))
                refine lv_topi (fun y_13 hy_13 => ?_)
                obtain rfl : y_13 = nI (vK w0 (vM w0 - k + i)) := hy_13.trans (congrArg nI (knF_lo0 (by omega)))
                refine lv_istore (lv' := [(5, .int (nI (vK w0 (vM w0 - k + i)))), (0, .ref q0), (1, .int (nI 0)), (2, .int (nI k)), (3, .int (nI (vM w0))), (4, .int (nI (vM w0 - k + i)))]) hx hb dX4_unpick_75 hl (by decide) rfl (fun ls hl => ?_)
                have xk : vK w0 (vM w0 - k + i) < 8 := kb0 _ (by omega)
                have xb := unB_ok (K := vK w0) (a := vM w0 - k) (n := i) hB _ xk
                refine lv_aload_n hx hb dX4_unpick_77 rfl (lv_at hl 1 rfl) ?_
                refine va_get (D := G.1) (ci := 4) (v := .ref q5) (C := RX4) (T := TX4) (N := 7) hx hb hts hq_0 hown hK.1 hP 0 rfl rfl 5 (by decide) hq_4 (fun _ h9 => h9) rfl dX4_unpick_78 ?_
                refine lv_iload hx hb dX4_unpick_81 (lv_at hl 0 rfl) ?_
                refine lv_sipush (v := nI 200) hx hb dX4_unpick_83 (by decide) ?_
                refine lv_aload_n hx hb dX4_unpick_86 rfl (lv_at hl 1 rfl) ?_
                refine va_get (D := G.1) (ci := 4) (v := .ref q5) (C := RX4) (T := TX4) (N := 7) hx hb hts hq_0 hown hK.1 hP 0 rfl rfl 5 (by decide) hq_4 (fun _ h9 => h9) rfl dX4_unpick_87 ?_
                refine lv_iload hx hb dX4_unpick_90 (lv_at hl 0 rfl) ?_
                have hi_14 : (vK w0 (vM w0 - k + i)) < 8 := by omega
                refine va_iald (D := G.1) hx hb hK.1 hP 5 0 rfl rfl (vp_in_nI hi_14 (by omega)) dX4_unpick_92 ?_
                refine lv_topi (fun y_15 hy_15 => ?_)
                obtain rfl : y_15 = nI ((unB (vK w0) bf (vM w0 - k) i) (vK w0 (vM w0 - k + i))) := hy_15.trans (nR_at (by omega))
                refine lv_iconst (v := nI 1) hx hb dX4_unpick_93 (by decide) ?_
                refine lv_iadd hx hb dX4_unpick_94 ?_
                refine lv_topi (fun y_16 hy_16 => ?_)
                obtain rfl : y_16 = nI (((unB (vK w0) bf (vM w0 - k) i) (vK w0 (vM w0 - k + i))) + 1) := hy_16.trans (nI_add ((unB (vK w0) bf (vM w0 - k) i) (vK w0 (vM w0 - k + i))) 1)
                refine va_mmin hx hb (hml.trans hl.1.symm) hown hq_5 hq_6 hq_7 hq_8 (Nat.le_of_ble_eq_true rfl) (Nat.le_of_ble_eq_true rfl) (Nat.le_of_ble_eq_true rfl) (Nat.le_of_ble_eq_true rfl) dX4_unpick_95 ?_
                refine lv_topi (fun y_17 hy_17 => ?_)
                obtain rfl : y_17 = nI (min 200 (((unB (vK w0) bf (vM w0 - k) i) (vK w0 (vM w0 - k + i))) + 1)) := hy_17.trans (k_min (a := 200) (b := (((unB (vK w0) bf (vM w0 - k) i) (vK w0 (vM w0 - k + i))) + 1)) (by omega) (by omega))
                have hi_18 : (vK w0 (vM w0 - k + i)) < 8 := by omega
                refine va_iast (D := G.1) hx hb hK.1 hP hD hS 5 0 rfl rfl (vp_in_nI hi_18 (by omega)) dX4_unpick_98 (fun H locs hP hD hS => ?_)
                rw [nR_upd (f := (unB (vK w0) bf (vM w0 - k) i)) (k := (vK w0 (vM w0 - k + i))) (v := (min 200 (((unB (vK w0) bf (vM w0 - k) i) (vK w0 (vM w0 - k + i))) + 1))) (by omega)] at hP hD
                have hP : va_P G.1 vwCl [kO q0 4 [.int (nI 0), .ref q1, .ref q2, .ref q3, .ref q4, .ref q5, .ref q6], kC G q1 8 (nR (peF w0 w1)), kC G q2 120 (nR (knF w0 w1)), kC G q3 120 (nR (plF w0 w1)), kC G q4 80 (nR ru), kC G q5 8 (nR (updN (unB (vK w0) bf (vM w0 - k) i) (vK w0 (vM w0 - k + i)) (min 200 (((unB (vK w0) bf (vM w0 - k) i) (vK w0 (vM w0 - k + i))) + 1)))), kC G q6 2 (nR (nuF ho un))] H := hP
                have hD : va_D A [kO q0 4 [.int (nI 0), .ref q1, .ref q2, .ref q3, .ref q4, .ref q5, .ref q6], kC G q1 8 (nR (peF w0 w1)), kC G q2 120 (nR (knF w0 w1)), kC G q3 120 (nR (plF w0 w1)), kC G q4 80 (nR ru), kC G q5 8 (nR (updN (unB (vK w0) bf (vM w0 - k) i) (vK w0 (vM w0 - k + i)) (min 200 (((unB (vK w0) bf (vM w0 - k) i) (vK w0 (vM w0 - k + i))) + 1)))), kC G q6 2 (nR (nuF ho un))] := hD
                refine lv_iinc (v := nI ((vM w0 - k + i) + 1)) (lv' := [(4, .int (nI ((vM w0 - k + i) + 1))), (5, .int (nI (vK w0 (vM w0 - k + i)))), (0, .ref q0), (1, .int (nI 0)), (2, .int (nI k)), (3, .int (nI (vM w0)))]) hx hb dX4_unpick_99 hl (k := 5) rfl (nI_add (vM w0 - k + i) 1) (by decide) rfl (fun ls hl => ?_)
                refine lv_goto (tgt := 57) hx hb dX4_unpick_102 (by decide) ?_
                rw [unB_u rfl (hB _ xk)] at hP hD
                exact ih_57 (i + 1) (by omega) (by omega) _ _ _ hP hD hS (lv_sub hl [2, 3, 4, 5, 0] rfl)
          rw [← unB_0 (K := vK w0) (B := bf) (a := vM w0 - k)] at hP hD
          exact loop_57 (k + 1) 0 (by omega) (by omega) H locs ls hP hD hS (lv_sub hl [2, 3, 4, 1, 0] rfl)
        · have c_43 : ¬ (k ≤ (vM w0)) := fun h9 => c_43 ((nI_leI (a := k) (b := (vM w0)) (by omega) (by omega)).mpr h9)
          refine lv_aload_n hx hb dX4_unpick_46 rfl (lv_at hl 1 rfl) ?_
          refine lv_iconst (v := nI 3) hx hb dX4_unpick_47 (by decide) ?_
          refine k_calli (fun _ => [kO q0 4 [.int (nI 3), .ref q1, .ref q2, .ref q3, .ref q4, .ref q5, .ref q6], kC G q1 8 (nR (peF w0 w1)), kC G q2 120 (nR (knF w0 w1)), kC G q3 120 (nR (plF w0 w1)), kC G q4 80 (nR ru), kC G q5 8 (nR bf), kC G q6 2 (nR (nuF ho un))]) [kC G q1 8 (nR (peF w0 w1)), kC G q2 120 (nR (knF w0 w1)), kC G q3 120 (nR (plF w0 w1)), kC G q4 80 (nR ru), kC G q5 8 (nR bf), kC G q6 2 (nR (nuF ho un))] (k_runV (As := [.int (nI 3)]) (rest := []) (wc := [kO q0 4 [.int (nI 0), .ref q1, .ref q2, .ref q3, .ref q4, .ref q5, .ref q6]]) ⟨hx, hb, hml, hown, hts⟩ (m_fail l G q0 q1 q2 q3 q4 q5 q6 0 3 ) (cwV 1 hts gX4_unpick_X4_fail rfl rfl rfl (by decide +kernel) ⟨Nat.le_of_ble_eq_true rfl, Nat.le_of_ble_eq_true rfl⟩) hK hZ hP hD hS hA [0] rfl rfl 0 4 rfl rfl rfl rfl hl.1 rfl (Nat.le_of_ble_eq_true rfl) dX4_unpick_48 ⟨Nat.le_of_ble_eq_true rfl, Nat.le_of_ble_eq_true rfl⟩) hP hD hS hA [0] [1, 2, 3, 4, 5, 6] [6, 0, 1, 2, 3, 4, 5] rfl rfl rfl (by decide) (fun _ => rfl) rfl (fun r_48 u_48 H locs hp_48 hP hD hS => ?_)
          have hp_48 : r_48 = nI 0 := hp_48
          subst hp_48
          exact k_iret (ws := [kO q0 4 [.int (nI th), .ref q1, .ref q2, .ref q3, .ref q4, .ref q5, .ref q6], kC G q1 8 (nR (peF w0 w1)), kC G q2 120 (nR (knF w0 w1)), kC G q3 120 (nR (plF w0 w1)), kC G q4 80 (nR ru), kC G q5 8 (nR bf), kC G q6 2 (nR (nuF ho un))]) (ru) hx hb hr hlocks hP hD hS hAe hQ (Nat.le_of_ble_eq_true rfl) (Nat.le_of_ble_eq_true rfl) dX4_unpick_51 (by rw [cdC_3 hp_6 hp_22 (by rw [tj, tk]; show ¬ (k ≤ vM w0); omega)]; first | done | rfl) (⟨fun q => absurd ((cdC_3 hp_6 hp_22 (by rw [tj, tk]; show ¬ (k ≤ vM w0); omega)).symm.trans q) (by decide), by rw [cdC_3 hp_6 hp_22 (by rw [tj, tk]; show ¬ (k ≤ vM w0); omega)]; exact hru⟩)
      · skip
        refine lv_aload_n hx hb dX4_unpick_34 rfl (lv_at hl 0 rfl) ?_
        refine lv_iload_n hx hb dX4_unpick_35 rfl (lv_at hl 1 rfl) ?_
        refine lv_iconst (v := nI 1) hx hb dX4_unpick_36 (by decide) ?_
        refine k_calli (fun _ => [kO q0 4 [.int (nI 0), .ref q1, .ref q2, .ref q3, .ref q4, .ref q5, .ref q6], kC G q1 8 (nR (peF w0 w1)), kC G q2 120 (nR (knF w0 w1)), kC G q3 120 (nR (plF w0 w1)), kC G q4 80 (nR ru), kC G q5 8 (nR bf), kC G q6 2 (nR (nuF ho un))]) [kC G q2 120 (nR (knF w0 w1)), kC G q3 120 (nR (plF w0 w1)), kC G q4 80 (nR ru), kC G q5 8 (nR bf), kC G q6 2 (nR (nuF ho un))] (k_runV (As := [.int (nI 1), .int (nI 1)]) (rest := []) (wc := [kO q0 4 [.int (nI 0), .ref q1, .ref q2, .ref q3, .ref q4, .ref q5, .ref q6], kC G q1 8 (nR (peF w0 w1))]) ⟨hx, hb, hml, hown, hts⟩ (m_pe l G q0 q1 q2 q3 q4 q5 q6 0 (peF w0 w1) 1 1 (by decide) (by decide)) (cwV 2 hts gX4_unpick_X4_pe rfl rfl rfl (by decide +kernel) ⟨Nat.le_of_ble_eq_true rfl, Nat.le_of_ble_eq_true rfl⟩) hK hZ hP hD hS hA [0, 1] rfl rfl 0 4 rfl rfl rfl rfl hl.1 rfl (Nat.le_of_ble_eq_true rfl) dX4_unpick_37 ⟨Nat.le_of_ble_eq_true rfl, Nat.le_of_ble_eq_true rfl⟩) hP hD hS hA [0, 1] [2, 3, 4, 5, 6] [5, 6, 0, 1, 2, 3, 4] rfl rfl rfl (by decide) (fun _ => rfl) rfl (fun r_37 u_37 H locs hp_37 hP hD hS => ?_)
        have hp_37 : r_37 = nI (vM w1) := hp_37
        subst hp_37
        refine lv_istore_n (lv' := [(3, .int (nI (vM w1))), (0, .ref q0), (1, .int (nI 1)), (2, .int (nI k))]) hx hb dX4_unpick_40 rfl hl (by decide) rfl (fun ls hl => ?_)
        refine lv_iload_n hx hb dX4_unpick_41 rfl (lv_at hl 3 rfl) ?_
        refine lv_iload_n hx hb dX4_unpick_42 rfl (lv_at hl 0 rfl) ?_
        refine lv_icmp_le (tgt := 52) hx hb dX4_unpick_43 (by decide) (fun c_43 => ?_) (fun c_43 => ?_)
        · have c_43 : k ≤ (vM w1) := (nI_leI (a := k) (b := (vM w1)) (by omega) (by omega)).mp c_43
          refine lv_iload_n hx hb dX4_unpick_52 rfl (lv_at hl 0 rfl) ?_
          refine lv_iload_n hx hb dX4_unpick_53 rfl (lv_at hl 3 rfl) ?_
          refine lv_isub hx hb dX4_unpick_54 ?_
          refine lv_topi (fun y_19 hy_19 => ?_)
          obtain rfl : y_19 = nI ((vM w1) - k) := hy_19.trans (pk_sub (a := (vM w1)) (b := k) (by omega))
          refine lv_istore (lv' := [(4, .int (nI ((vM w1) - k))), (3, .int (nI (vM w1))), (0, .ref q0), (1, .int (nI 1)), (2, .int (nI k))]) hx hb dX4_unpick_55 hl (by decide) rfl (fun ls hl => ?_)
          have loop_57 : ∀ (fu_57 : Nat) (i : Nat), i ≤ k → k < i + fu_57 → ∀ (H : Heap) (locs : List Loc) (ls : Array Slot), va_P G.1 vwCl [kO q0 4 [.int (nI 0), .ref q1, .ref q2, .ref q3, .ref q4, .ref q5, .ref q6], kC G q1 8 (nR (peF w0 w1)), kC G q2 120 (nR (knF w0 w1)), kC G q3 120 (nR (plF w0 w1)), kC G q4 80 (nR ru), kC G q5 8 (nR (unB (vK w1) bf (vM w1 - k) i)), kC G q6 2 (nR (nuF ho un))] H → va_D A [kO q0 4 [.int (nI 0), .ref q1, .ref q2, .ref q3, .ref q4, .ref q5, .ref q6], kC G q1 8 (nR (peF w0 w1)), kC G q2 120 (nR (knF w0 w1)), kC G q3 120 (nR (plF w0 w1)), kC G q4 80 (nR ru), kC G q5 8 (nR (unB (vK w1) bf (vM w1 - k) i)), kC G q6 2 (nR (nuF ho un))] → va_S A s.heap H locs → lv_has ls 6 [(0, .ref q0), (1, .int (nI 1)), (2, .int (nI k)), (3, .int (nI (vM w1))), (4, .int (nI (vM w1 - k + i)))] → W p l e ({ frames := 2, cells := 0, slots := 0, locals := 42 } : Room) s m args below meth c H locs 0 0 Qs (F0 m 57 ls []) := by
            intro fu_57
            induction fu_57 with
            | zero =>
              intro i hi hf
              exact absurd hf (by omega)
            | succ fu_57 ih_57 =>
              intro i hi hf H locs ls hP hD hS hl
              refine lv_iload hx hb dX4_unpick_57 (lv_at hl 4 rfl) ?_
              refine lv_iload_n hx hb dX4_unpick_59 rfl (lv_at hl 3 rfl) ?_
              refine lv_icmp_ge (tgt := 105) hx hb dX4_unpick_60 (by decide) (fun c_60 => ?_) (fun c_60 => ?_)
              · have c_60 : (vM w1) ≤ (vM w1 - k + i) := (nI_leI (a := (vM w1)) (b := (vM w1 - k + i)) (by omega) (by omega)).mp c_60
                have hi9 : i = k := by omega
                rw [hi9] at hP hD hl
                have hP : va_P G.1 vwCl [kO q0 4 [.int (nI 0), .ref q1, .ref q2, .ref q3, .ref q4, .ref q5, .ref q6], kC G q1 8 (nR (peF w0 w1)), kC G q2 120 (nR (knF w0 w1)), kC G q3 120 (nR (plF w0 w1)), kC G q4 80 (nR ru), kC G q5 8 (nR (unB (vK w1) bf (vM w1 - k) k)), kC G q6 2 (nR (nuF ho un))] H := hP
                have hD : va_D A [kO q0 4 [.int (nI 0), .ref q1, .ref q2, .ref q3, .ref q4, .ref q5, .ref q6], kC G q1 8 (nR (peF w0 w1)), kC G q2 120 (nR (knF w0 w1)), kC G q3 120 (nR (plF w0 w1)), kC G q4 80 (nR ru), kC G q5 8 (nR (unB (vK w1) bf (vM w1 - k) k)), kC G q6 2 (nR (nuF ho un))] := hD
                refine lv_aload_n hx hb dX4_unpick_105 rfl (lv_at hl 0 rfl) ?_
                refine lv_iload_n hx hb dX4_unpick_106 rfl (lv_at hl 1 rfl) ?_
                refine lv_iconst (v := nI 1) hx hb dX4_unpick_107 (by decide) ?_
                refine lv_iload_n hx hb dX4_unpick_108 rfl (lv_at hl 3 rfl) ?_
                refine lv_iload_n hx hb dX4_unpick_109 rfl (lv_at hl 2 rfl) ?_
                refine lv_isub hx hb dX4_unpick_110 ?_
                refine lv_topi (fun y_20 hy_20 => ?_)
                obtain rfl : y_20 = nI ((vM w1) - k) := hy_20.trans (pk_sub (a := (vM w1)) (b := k) (by omega))
                refine k_callv (fun _ => [kO q0 4 [.int (nI 0), .ref q1, .ref q2, .ref q3, .ref q4, .ref q5, .ref q6], kC G q1 8 (nR (updN (peF w0 w1) (4 * 1 + 1) ((vM w1) - k))), kC G q2 120 (nR (knF w0 w1)), kC G q3 120 (nR (plF w0 w1)), kC G q4 80 (nR ru), kC G q5 8 (nR (unB (vK w1) bf (vM w1 - k) k)), kC G q6 2 (nR (nuF ho un))]) [kC G q2 120 (nR (knF w0 w1)), kC G q3 120 (nR (plF w0 w1)), kC G q4 80 (nR ru), kC G q5 8 (nR (unB (vK w1) bf (vM w1 - k) k)), kC G q6 2 (nR (nuF ho un))] (k_runV (As := [.int (nI 1), .int (nI 1), .int (nI ((vM w1) - k))]) (rest := []) (wc := [kO q0 4 [.int (nI 0), .ref q1, .ref q2, .ref q3, .ref q4, .ref q5, .ref q6], kC G q1 8 (nR (peF w0 w1))]) ⟨hx, hb, hml, hown, hts⟩ (m_put l G q0 q1 q2 q3 q4 q5 q6 0 (peF w0 w1) 1 1 ((vM w1) - k) (by decide) (by decide)) (cwV 3 hts gX4_unpick_X4_put rfl rfl rfl (by decide +kernel) ⟨Nat.le_of_ble_eq_true rfl, Nat.le_of_ble_eq_true rfl⟩) hK hZ hP hD hS hA [0, 1] rfl rfl 0 4 rfl rfl rfl rfl hl.1 rfl (Nat.le_of_ble_eq_true rfl) dX4_unpick_111 ⟨Nat.le_of_ble_eq_true rfl, Nat.le_of_ble_eq_true rfl⟩) hP hD hS hA [0, 1] [2, 3, 4, 5, 6] [5, 6, 0, 1, 2, 3, 4] rfl rfl rfl (by decide) (fun _ => rfl) rfl (fun u_111 H locs hp_111 hP hD hS => ?_)
                rw [pe_5] at hP hD
                have hP : va_P G.1 vwCl [kO q0 4 [.int (nI 0), .ref q1, .ref q2, .ref q3, .ref q4, .ref q5, .ref q6], kC G q1 8 (nR (peF w0 (wMade w1 (vM w1 - k)))), kC G q2 120 (nR (knF w0 w1)), kC G q3 120 (nR (plF w0 w1)), kC G q4 80 (nR ru), kC G q5 8 (nR (unB (vK w1) bf (vM w1 - k) k)), kC G q6 2 (nR (nuF ho un))] H := hP
                have hD : va_D A [kO q0 4 [.int (nI 0), .ref q1, .ref q2, .ref q3, .ref q4, .ref q5, .ref q6], kC G q1 8 (nR (peF w0 (wMade w1 (vM w1 - k)))), kC G q2 120 (nR (knF w0 w1)), kC G q3 120 (nR (plF w0 w1)), kC G q4 80 (nR ru), kC G q5 8 (nR (unB (vK w1) bf (vM w1 - k) k)), kC G q6 2 (nR (nuF ho un))] := hD
                refine lv_aload_n hx hb dX4_unpick_114 rfl (lv_at hl 0 rfl) ?_
                refine va_get (D := G.1) (ci := 4) (v := .ref q6) (C := RX4) (T := TX4) (N := 7) hx hb hts hq_0 hown hK.1 hP 0 rfl rfl 6 (by decide) hq_2 (fun _ h9 => h9) rfl dX4_unpick_115 ?_
                refine lv_iconst (v := nI 1) hx hb dX4_unpick_118 (by decide) ?_
                refine lv_dup2_11 hx hb dX4_unpick_119 rfl rfl ?_
                have hi_21 : 1 < 2 := by omega
                refine va_iald (D := G.1) hx hb hK.1 hP 6 0 rfl rfl (vp_in_nI hi_21 (by omega)) dX4_unpick_120 ?_
                refine lv_topi (fun y_22 hy_22 => ?_)
                obtain rfl : y_22 = nI ((nuF ho un) 1) := hy_22.trans (nR_at (by omega))
                refine lv_topi (fun y_23 hy_23 => ?_)
                obtain rfl : y_23 = nI un := hy_23.trans (rfl)
                refine lv_iload_n hx hb dX4_unpick_121 rfl (lv_at hl 2 rfl) ?_
                refine lv_iadd hx hb dX4_unpick_122 ?_
                refine lv_topi (fun y_24 hy_24 => ?_)
                obtain rfl : y_24 = nI (un + k) := hy_24.trans (nI_add un k)
                have hi_25 : 1 < 2 := by omega
                refine va_iast (D := G.1) hx hb hK.1 hP hD hS 6 0 rfl rfl (vp_in_nI hi_25 (by omega)) dX4_unpick_123 (fun H locs hP hD hS => ?_)
                rw [nR_upd (f := (nuF ho un)) (k := 1) (v := (un + k)) (by omega)] at hP hD
                have hP : va_P G.1 vwCl [kO q0 4 [.int (nI 0), .ref q1, .ref q2, .ref q3, .ref q4, .ref q5, .ref q6], kC G q1 8 (nR (peF w0 (wMade w1 (vM w1 - k)))), kC G q2 120 (nR (knF w0 w1)), kC G q3 120 (nR (plF w0 w1)), kC G q4 80 (nR ru), kC G q5 8 (nR (unB (vK w1) bf (vM w1 - k) k)), kC G q6 2 (nR (updN (nuF ho un) 1 (un + k)))] H := hP
                have hD : va_D A [kO q0 4 [.int (nI 0), .ref q1, .ref q2, .ref q3, .ref q4, .ref q5, .ref q6], kC G q1 8 (nR (peF w0 (wMade w1 (vM w1 - k)))), kC G q2 120 (nR (knF w0 w1)), kC G q3 120 (nR (plF w0 w1)), kC G q4 80 (nR ru), kC G q5 8 (nR (unB (vK w1) bf (vM w1 - k) k)), kC G q6 2 (nR (updN (nuF ho un) 1 (un + k)))] := hD
                rw [nu_1] at hP hD
                have hP : va_P G.1 vwCl [kO q0 4 [.int (nI 0), .ref q1, .ref q2, .ref q3, .ref q4, .ref q5, .ref q6], kC G q1 8 (nR (peF w0 (wMade w1 (vM w1 - k)))), kC G q2 120 (nR (knF w0 w1)), kC G q3 120 (nR (plF w0 w1)), kC G q4 80 (nR ru), kC G q5 8 (nR (unB (vK w1) bf (vM w1 - k) k)), kC G q6 2 (nR (nuF ho (un + k)))] H := hP
                have hD : va_D A [kO q0 4 [.int (nI 0), .ref q1, .ref q2, .ref q3, .ref q4, .ref q5, .ref q6], kC G q1 8 (nR (peF w0 (wMade w1 (vM w1 - k)))), kC G q2 120 (nR (knF w0 w1)), kC G q3 120 (nR (plF w0 w1)), kC G q4 80 (nR ru), kC G q5 8 (nR (unB (vK w1) bf (vM w1 - k) k)), kC G q6 2 (nR (nuF ho (un + k)))] := hD
                refine lv_iload_n hx hb dX4_unpick_124 rfl (lv_at hl 3 rfl) ?_
                refine lv_iload_n hx hb dX4_unpick_125 rfl (lv_at hl 2 rfl) ?_
                refine lv_isub hx hb dX4_unpick_126 ?_
                refine lv_topi (fun y_26 hy_26 => ?_)
                obtain rfl : y_26 = nI ((vM w1) - k) := hy_26.trans (pk_sub (a := (vM w1)) (b := k) (by omega))
                exact k_iret (ws := [kO q0 4 [.int (nI th), .ref q1, .ref q2, .ref q3, .ref q4, .ref q5, .ref q6], kC G q1 8 (nR (peF w0 w1)), kC G q2 120 (nR (knF w0 w1)), kC G q3 120 (nR (plF w0 w1)), kC G q4 80 (nR ru), kC G q5 8 (nR bf), kC G q6 2 (nR (nuF ho un))]) (ru) hx hb hr hlocks hP hD hS hAe hQ (Nat.le_of_ble_eq_true rfl) (Nat.le_of_ble_eq_true rfl) dX4_unpick_127 (by rw [cdC_0 hp_6 hp_22 (by rw [tj, tk]; show  (k ≤ vM w1); omega), tj, tk]; first | done | rfl) (⟨fun _ => (by rw [tj, tk]; rfl), by rw [cdC_0 hp_6 hp_22 (by rw [tj, tk]; show  (k ≤ vM w1); omega), tj, tk]; exact hru⟩)
              · have c_60 : ¬ ((vM w1) ≤ (vM w1 - k + i)) := fun h9 => c_60 ((nI_leI (a := (vM w1)) (b := (vM w1 - k + i)) (by omega) (by omega)).mpr h9)
                refine lv_aload_n hx hb dX4_unpick_63 rfl (lv_at hl 0 rfl) ?_
                refine va_get (D := G.1) (ci := 4) (v := .ref q2) (C := RX4) (T := TX4) (N := 7) hx hb hts hq_0 hown hK.1 hP 0 rfl rfl 2 (by decide) hq_3 (fun _ h9 => h9) rfl dX4_unpick_64 ?_
                refine lv_bipush (v := nI 60) hx hb dX4_unpick_67 (by decide) ?_
                refine lv_iload_n hx hb dX4_unpick_69 rfl (lv_at hl 1 rfl) ?_
                refine lv_imul hx hb dX4_unpick_70 ?_
                refine lv_topi (fun y_27 hy_27 => ?_)
                obtain rfl : y_27 = nI 60 := hy_27.trans (by decide)
                refine lv_iload hx hb dX4_unpick_71 (lv_at hl 4 rfl) ?_
                refine lv_iadd hx hb dX4_unpick_73 ?_
                refine lv_topi (fun y_28 hy_28 => ?_)
                obtain rfl : y_28 = nI (60 + (vM w1 - k + i)) := hy_28.trans (nI_add 60 (vM w1 - k + i))
                have hi_29 : (60 + (vM w1 - k + i)) < 120 := by omega
                refine va_iald (D := G.1) hx hb hK.1 hP 2 0 rfl rfl (vp_in_nI hi_29 (by omega)) dX4_unpick_74 ?_
                refine lv_topi (fun y_30 hy_30 => ?_)
                obtain rfl : y_30 = nI ((knF w0 w1) (60 + (vM w1 - k + i))) := hy_30.trans (nR_at (by omega))
                refine lv_topi (fun y_31 hy_31 => ?_)
                obtain rfl : y_31 = nI (vK w1 (vM w1 - k + i)) := hy_31.trans (congrArg nI (knF_hi))
                refine lv_istore (lv' := [(5, .int (nI (vK w1 (vM w1 - k + i)))), (0, .ref q0), (1, .int (nI 1)), (2, .int (nI k)), (3, .int (nI (vM w1))), (4, .int (nI (vM w1 - k + i)))]) hx hb dX4_unpick_75 hl (by decide) rfl (fun ls hl => ?_)
                have xk : vK w1 (vM w1 - k + i) < 8 := kb1 _ (by omega)
                have xb := unB_ok (K := vK w1) (a := vM w1 - k) (n := i) hB _ xk
                refine lv_aload_n hx hb dX4_unpick_77 rfl (lv_at hl 1 rfl) ?_
                refine va_get (D := G.1) (ci := 4) (v := .ref q5) (C := RX4) (T := TX4) (N := 7) hx hb hts hq_0 hown hK.1 hP 0 rfl rfl 5 (by decide) hq_4 (fun _ h9 => h9) rfl dX4_unpick_78 ?_
                refine lv_iload hx hb dX4_unpick_81 (lv_at hl 0 rfl) ?_
                refine lv_sipush (v := nI 200) hx hb dX4_unpick_83 (by decide) ?_
                refine lv_aload_n hx hb dX4_unpick_86 rfl (lv_at hl 1 rfl) ?_
                refine va_get (D := G.1) (ci := 4) (v := .ref q5) (C := RX4) (T := TX4) (N := 7) hx hb hts hq_0 hown hK.1 hP 0 rfl rfl 5 (by decide) hq_4 (fun _ h9 => h9) rfl dX4_unpick_87 ?_
                refine lv_iload hx hb dX4_unpick_90 (lv_at hl 0 rfl) ?_
                have hi_32 : (vK w1 (vM w1 - k + i)) < 8 := by omega
                refine va_iald (D := G.1) hx hb hK.1 hP 5 0 rfl rfl (vp_in_nI hi_32 (by omega)) dX4_unpick_92 ?_
                refine lv_topi (fun y_33 hy_33 => ?_)
                obtain rfl : y_33 = nI ((unB (vK w1) bf (vM w1 - k) i) (vK w1 (vM w1 - k + i))) := hy_33.trans (nR_at (by omega))
                refine lv_iconst (v := nI 1) hx hb dX4_unpick_93 (by decide) ?_
                refine lv_iadd hx hb dX4_unpick_94 ?_
                refine lv_topi (fun y_34 hy_34 => ?_)
                obtain rfl : y_34 = nI (((unB (vK w1) bf (vM w1 - k) i) (vK w1 (vM w1 - k + i))) + 1) := hy_34.trans (nI_add ((unB (vK w1) bf (vM w1 - k) i) (vK w1 (vM w1 - k + i))) 1)
                refine va_mmin hx hb (hml.trans hl.1.symm) hown hq_5 hq_6 hq_7 hq_8 (Nat.le_of_ble_eq_true rfl) (Nat.le_of_ble_eq_true rfl) (Nat.le_of_ble_eq_true rfl) (Nat.le_of_ble_eq_true rfl) dX4_unpick_95 ?_
                refine lv_topi (fun y_35 hy_35 => ?_)
                obtain rfl : y_35 = nI (min 200 (((unB (vK w1) bf (vM w1 - k) i) (vK w1 (vM w1 - k + i))) + 1)) := hy_35.trans (k_min (a := 200) (b := (((unB (vK w1) bf (vM w1 - k) i) (vK w1 (vM w1 - k + i))) + 1)) (by omega) (by omega))
                have hi_36 : (vK w1 (vM w1 - k + i)) < 8 := by omega
                refine va_iast (D := G.1) hx hb hK.1 hP hD hS 5 0 rfl rfl (vp_in_nI hi_36 (by omega)) dX4_unpick_98 (fun H locs hP hD hS => ?_)
                rw [nR_upd (f := (unB (vK w1) bf (vM w1 - k) i)) (k := (vK w1 (vM w1 - k + i))) (v := (min 200 (((unB (vK w1) bf (vM w1 - k) i) (vK w1 (vM w1 - k + i))) + 1))) (by omega)] at hP hD
                have hP : va_P G.1 vwCl [kO q0 4 [.int (nI 0), .ref q1, .ref q2, .ref q3, .ref q4, .ref q5, .ref q6], kC G q1 8 (nR (peF w0 w1)), kC G q2 120 (nR (knF w0 w1)), kC G q3 120 (nR (plF w0 w1)), kC G q4 80 (nR ru), kC G q5 8 (nR (updN (unB (vK w1) bf (vM w1 - k) i) (vK w1 (vM w1 - k + i)) (min 200 (((unB (vK w1) bf (vM w1 - k) i) (vK w1 (vM w1 - k + i))) + 1)))), kC G q6 2 (nR (nuF ho un))] H := hP
                have hD : va_D A [kO q0 4 [.int (nI 0), .ref q1, .ref q2, .ref q3, .ref q4, .ref q5, .ref q6], kC G q1 8 (nR (peF w0 w1)), kC G q2 120 (nR (knF w0 w1)), kC G q3 120 (nR (plF w0 w1)), kC G q4 80 (nR ru), kC G q5 8 (nR (updN (unB (vK w1) bf (vM w1 - k) i) (vK w1 (vM w1 - k + i)) (min 200 (((unB (vK w1) bf (vM w1 - k) i) (vK w1 (vM w1 - k + i))) + 1)))), kC G q6 2 (nR (nuF ho un))] := hD
                refine lv_iinc (v := nI ((vM w1 - k + i) + 1)) (lv' := [(4, .int (nI ((vM w1 - k + i) + 1))), (5, .int (nI (vK w1 (vM w1 - k + i)))), (0, .ref q0), (1, .int (nI 1)), (2, .int (nI k)), (3, .int (nI (vM w1)))]) hx hb dX4_unpick_99 hl (k := 5) rfl (nI_add (vM w1 - k + i) 1) (by decide) rfl (fun ls hl => ?_)
                refine lv_goto (tgt := 57) hx hb dX4_unpick_102 (by decide) ?_
                rw [unB_u rfl (hB _ xk)] at hP hD
                exact ih_57 (i + 1) (by omega) (by omega) _ _ _ hP hD hS (lv_sub hl [2, 3, 4, 5, 0] rfl)
          rw [← unB_0 (K := vK w1) (B := bf) (a := vM w1 - k)] at hP hD
          exact loop_57 (k + 1) 0 (by omega) (by omega) H locs ls hP hD hS (lv_sub hl [2, 3, 4, 1, 0] rfl)
        · have c_43 : ¬ (k ≤ (vM w1)) := fun h9 => c_43 ((nI_leI (a := k) (b := (vM w1)) (by omega) (by omega)).mpr h9)
          refine lv_aload_n hx hb dX4_unpick_46 rfl (lv_at hl 1 rfl) ?_
          refine lv_iconst (v := nI 3) hx hb dX4_unpick_47 (by decide) ?_
          refine k_calli (fun _ => [kO q0 4 [.int (nI 3), .ref q1, .ref q2, .ref q3, .ref q4, .ref q5, .ref q6], kC G q1 8 (nR (peF w0 w1)), kC G q2 120 (nR (knF w0 w1)), kC G q3 120 (nR (plF w0 w1)), kC G q4 80 (nR ru), kC G q5 8 (nR bf), kC G q6 2 (nR (nuF ho un))]) [kC G q1 8 (nR (peF w0 w1)), kC G q2 120 (nR (knF w0 w1)), kC G q3 120 (nR (plF w0 w1)), kC G q4 80 (nR ru), kC G q5 8 (nR bf), kC G q6 2 (nR (nuF ho un))] (k_runV (As := [.int (nI 3)]) (rest := []) (wc := [kO q0 4 [.int (nI 0), .ref q1, .ref q2, .ref q3, .ref q4, .ref q5, .ref q6]]) ⟨hx, hb, hml, hown, hts⟩ (m_fail l G q0 q1 q2 q3 q4 q5 q6 0 3 ) (cwV 1 hts gX4_unpick_X4_fail rfl rfl rfl (by decide +kernel) ⟨Nat.le_of_ble_eq_true rfl, Nat.le_of_ble_eq_true rfl⟩) hK hZ hP hD hS hA [0] rfl rfl 0 4 rfl rfl rfl rfl hl.1 rfl (Nat.le_of_ble_eq_true rfl) dX4_unpick_48 ⟨Nat.le_of_ble_eq_true rfl, Nat.le_of_ble_eq_true rfl⟩) hP hD hS hA [0] [1, 2, 3, 4, 5, 6] [6, 0, 1, 2, 3, 4, 5] rfl rfl rfl (by decide) (fun _ => rfl) rfl (fun r_48 u_48 H locs hp_48 hP hD hS => ?_)
          have hp_48 : r_48 = nI 0 := hp_48
          subst hp_48
          exact k_iret (ws := [kO q0 4 [.int (nI th), .ref q1, .ref q2, .ref q3, .ref q4, .ref q5, .ref q6], kC G q1 8 (nR (peF w0 w1)), kC G q2 120 (nR (knF w0 w1)), kC G q3 120 (nR (plF w0 w1)), kC G q4 80 (nR ru), kC G q5 8 (nR bf), kC G q6 2 (nR (nuF ho un))]) (ru) hx hb hr hlocks hP hD hS hAe hQ (Nat.le_of_ble_eq_true rfl) (Nat.le_of_ble_eq_true rfl) dX4_unpick_51 (by rw [cdC_3 hp_6 hp_22 (by rw [tj, tk]; show ¬ (k ≤ vM w1); omega)]; first | done | rfl) (⟨fun q => absurd ((cdC_3 hp_6 hp_22 (by rw [tj, tk]; show ¬ (k ≤ vM w1); omega)).symm.trans q) (by decide), by rw [cdC_3 hp_6 hp_22 (by rw [tj, tk]; show ¬ (k ≤ vM w1); omega)]; exact hru⟩)
    · refine lv_if_ne (tgt := 34) hx hb dX4_unpick_25 (by decide) (fun c_25 => absurd c_25 (by decide)) (fun c_25 => ?_)
      refine lv_aload_n hx hb dX4_unpick_28 rfl (lv_at hl 0 rfl) ?_
      refine lv_iconst (v := nI 2) hx hb dX4_unpick_29 (by decide) ?_
      refine k_calli (fun _ => [kO q0 4 [.int (nI 2), .ref q1, .ref q2, .ref q3, .ref q4, .ref q5, .ref q6], kC G q1 8 (nR (peF w0 w1)), kC G q2 120 (nR (knF w0 w1)), kC G q3 120 (nR (plF w0 w1)), kC G q4 80 (nR ru), kC G q5 8 (nR bf), kC G q6 2 (nR (nuF ho un))]) [kC G q1 8 (nR (peF w0 w1)), kC G q2 120 (nR (knF w0 w1)), kC G q3 120 (nR (plF w0 w1)), kC G q4 80 (nR ru), kC G q5 8 (nR bf), kC G q6 2 (nR (nuF ho un))] (k_runV (As := [.int (nI 2)]) (rest := []) (wc := [kO q0 4 [.int (nI 0), .ref q1, .ref q2, .ref q3, .ref q4, .ref q5, .ref q6]]) ⟨hx, hb, hml, hown, hts⟩ (m_fail l G q0 q1 q2 q3 q4 q5 q6 0 2 ) (cwV 1 hts gX4_unpick_X4_fail rfl rfl rfl (by decide +kernel) ⟨Nat.le_of_ble_eq_true rfl, Nat.le_of_ble_eq_true rfl⟩) hK hZ hP hD hS hA [0] rfl rfl 0 4 rfl rfl rfl rfl hl.1 rfl (Nat.le_of_ble_eq_true rfl) dX4_unpick_30 ⟨Nat.le_of_ble_eq_true rfl, Nat.le_of_ble_eq_true rfl⟩) hP hD hS hA [0] [1, 2, 3, 4, 5, 6] [6, 0, 1, 2, 3, 4, 5] rfl rfl rfl (by decide) (fun _ => rfl) rfl (fun r_30 u_30 H locs hp_30 hP hD hS => ?_)
      have hp_30 : r_30 = nI 0 := hp_30
      subst hp_30
      exact k_iret (ws := [kO q0 4 [.int (nI th), .ref q1, .ref q2, .ref q3, .ref q4, .ref q5, .ref q6], kC G q1 8 (nR (peF w0 w1)), kC G q2 120 (nR (knF w0 w1)), kC G q3 120 (nR (plF w0 w1)), kC G q4 80 (nR ru), kC G q5 8 (nR bf), kC G q6 2 (nR (nuF ho un))]) (ru) hx hb hr hlocks hP hD hS hAe hQ (Nat.le_of_ble_eq_true rfl) (Nat.le_of_ble_eq_true rfl) dX4_unpick_33 (by rw [cdC_2 hp_6 hp_22]; first | done | rfl) (⟨fun q => absurd ((cdC_2 hp_6 hp_22).symm.trans q) (by decide), by rw [cdC_2 hp_6 hp_22]; exact hru⟩)
  · refine lv_if_ne (tgt := 18) hx hb dX4_unpick_9 (by decide) (fun c_9 => absurd c_9 (by decide)) (fun c_9 => ?_)
    refine lv_aload_n hx hb dX4_unpick_12 rfl (lv_at hl 0 rfl) ?_
    refine lv_iconst (v := nI 1) hx hb dX4_unpick_13 (by decide) ?_
    refine k_calli (fun _ => [kO q0 4 [.int (nI 1), .ref q1, .ref q2, .ref q3, .ref q4, .ref q5, .ref q6], kC G q1 8 (nR (peF w0 w1)), kC G q2 120 (nR (knF w0 w1)), kC G q3 120 (nR (plF w0 w1)), kC G q4 80 (nR ru), kC G q5 8 (nR bf), kC G q6 2 (nR (nuF ho un))]) [kC G q1 8 (nR (peF w0 w1)), kC G q2 120 (nR (knF w0 w1)), kC G q3 120 (nR (plF w0 w1)), kC G q4 80 (nR ru), kC G q5 8 (nR bf), kC G q6 2 (nR (nuF ho un))] (k_runV (As := [.int (nI 1)]) (rest := []) (wc := [kO q0 4 [.int (nI 0), .ref q1, .ref q2, .ref q3, .ref q4, .ref q5, .ref q6]]) ⟨hx, hb, hml, hown, hts⟩ (m_fail l G q0 q1 q2 q3 q4 q5 q6 0 1 ) (cwV 1 hts gX4_unpick_X4_fail rfl rfl rfl (by decide +kernel) ⟨Nat.le_of_ble_eq_true rfl, Nat.le_of_ble_eq_true rfl⟩) hK hZ hP hD hS hA [0] rfl rfl 0 4 rfl rfl rfl rfl hl.1 rfl (Nat.le_of_ble_eq_true rfl) dX4_unpick_14 ⟨Nat.le_of_ble_eq_true rfl, Nat.le_of_ble_eq_true rfl⟩) hP hD hS hA [0] [1, 2, 3, 4, 5, 6] [6, 0, 1, 2, 3, 4, 5] rfl rfl rfl (by decide) (fun _ => rfl) rfl (fun r_14 u_14 H locs hp_14 hP hD hS => ?_)
    have hp_14 : r_14 = nI 0 := hp_14
    subst hp_14
    exact k_iret (ws := [kO q0 4 [.int (nI th), .ref q1, .ref q2, .ref q3, .ref q4, .ref q5, .ref q6], kC G q1 8 (nR (peF w0 w1)), kC G q2 120 (nR (knF w0 w1)), kC G q3 120 (nR (plF w0 w1)), kC G q4 80 (nR ru), kC G q5 8 (nR bf), kC G q6 2 (nR (nuF ho un))]) (ru) hx hb hr hlocks hP hD hS hAe hQ (Nat.le_of_ble_eq_true rfl) (Nat.le_of_ble_eq_true rfl) dX4_unpick_17 (by rw [cdC_1 hp_6]; first | done | rfl) (⟨fun q => absurd ((cdC_1 hp_6).symm.trans q) (by decide), by rw [cdC_1 hp_6]; exact hru⟩)
set_option maxHeartbeats 4000000 in
set_option maxRecDepth 100000 in
theorem m_cell (l : Launch) (G : kG) (q0 : Nat) (q1 : Nat) (q2 : Nat) (q3 : Nat) (q4 : Nat) (q5 : Nat) (q6 : Nat) (w0 : Wv) (w1 : Wv) (bf : Nat → Nat) (ho : Nat) (un : Nat) (ru : Nat → Nat) (th : Nat) (x1 : Int32) (x2 : Int32) (x3 : Int32) (h0 : wOk w0) (h1 : wOk w1) (hB : bOk bf) (hru : ruOk w0 w1 ru) : kM l G yX4_cell wsX4_cell ({ frames := 2, cells := 0, slots := 0, locals := 45 } : Room) [.ref q0, .int x1, .int x2, .int x3] [kO q0 4 [.int (nI th), .ref q1, .ref q2, .ref q3, .ref q4, .ref q5, .ref q6], kC G q1 8 (nR (peF w0 w1)), kC G q2 120 (nR (knF w0 w1)), kC G q3 120 (nR (plF w0 w1)), kC G q4 80 (nR ru), kC G q5 8 (nR bf), kC G q6 2 (nR (nuF ho un))] (kQi G [kO q0 4 [.int (nI th), .ref q1, .ref q2, .ref q3, .ref q4, .ref q5, .ref q6], kC G q1 8 (nR (peF w0 w1)), kC G q2 120 (nR (knF w0 w1)), kC G q3 120 (nR (plF w0 w1)), kC G q4 80 (nR ru), kC G q5 8 (nR bf), kC G q6 2 (nR (nuF ho un))] (fun (r : Int32) (_ : Unit) => cdA ((inR x1 12 ∧ inR x2 10) ∧ inR x3 2) = 0 → r = aCell (w0, w1, bf, ho, un) (tN x1) (tN x2) (tN x3)) (fun (_ : Unit) => [kO q0 4 [.int (nI (cdA ((inR x1 12 ∧ inR x2 10) ∧ inR x3 2))), .ref q1, .ref q2, .ref q3, .ref q4, .ref q5, .ref q6], kC G q1 8 (nR (peF w0 w1)), kC G q2 120 (nR (knF w0 w1)), kC G q3 120 (nR (plF w0 w1)), kC G q4 80 (nR ru), kC G q5 8 (nR bf), kC G q6 2 (nR (nuF ho un))])) := by
  refine k_ofW (cc := cX4_cell) (maxL := 4) (rt := (some .int)) (by decide) rfl (Nat.le_of_ble_eq_true rfl) ?_
  intro p e s m args below meth c A ls Qs H locs hQ hAe hx hb hr hml hts hown hlocks hin hK hZ hP hD hS hA hl
  have hown : s.vm.findClass RX4 = some m.cls := hown
  have hl : lv_has ls 4 [(0, .ref q0), (1, .int x1), (2, .int x2), (3, .int x3)] := hl
  have m0b : vM w0 ≤ 60 := h0.2.2.2.1
  have m1b : vM w1 ≤ 60 := h1.2.2.2.1
  have t0b : vT w0 ≤ 20 := h0.2.2.1
  have t1b : vT w1 ≤ 20 := h1.2.2.1
  have pb0 : ∀ i, i < 60 → vP w0 i < 8 := h0.2.2.2.2.1
  have pb1 : ∀ i, i < 60 → vP w1 i < 8 := h1.2.2.2.2.1
  have kb0 : ∀ i, i < 60 → vK w0 i < 8 := h0.2.2.2.2.2.1
  have kb1 : ∀ i, i < 60 → vK w1 i < 8 := h1.2.2.2.2.2.1
  have rk0 := hru.1
  have rk1 := hru.2
  have hq_0 : ∀ w ∈ wsX40, w ∈ wsX4_cell := by decide +kernel
  have hq_1 : (Cond.fieldLink RX4 28 "KnotRugsModel" "thrown" "I").before args s = true := hts _ (by decide +kernel)
  have hq_2 : (Cond.fieldLink RX4 16 "KnotRugsModel" "plan" "[I").before args s = true := hts _ (by decide +kernel)
  refine lv_aload_n hx hb dX4_cell_0 rfl (lv_at hl 0 rfl) ?_
  refine lv_iconst (v := nI 0) hx hb dX4_cell_1 (by decide) ?_
  refine va_put (D := G.1) (ci := 4) (v := .int (nI 0)) (ty := .int) (C := RX4) (T := TX4) (N := 7) hx hb hts hq_0 tyX4 tyX4_ok nmX4 hown hK.1 hP hD hS 0 rfl rfl 0 (by decide) hq_1 (fun _ h9 => h9) rfl (by decide +kernel) rfl rfl (Nat.le_of_ble_eq_true rfl) dX4_cell_2 (fun H locs hP hD hS => ?_)
  have hP : va_P G.1 vwCl [kO q0 4 [.int (nI 0), .ref q1, .ref q2, .ref q3, .ref q4, .ref q5, .ref q6], kC G q1 8 (nR (peF w0 w1)), kC G q2 120 (nR (knF w0 w1)), kC G q3 120 (nR (plF w0 w1)), kC G q4 80 (nR ru), kC G q5 8 (nR bf), kC G q6 2 (nR (nuF ho un))] H := hP
  have hD : va_D A [kO q0 4 [.int (nI 0), .ref q1, .ref q2, .ref q3, .ref q4, .ref q5, .ref q6], kC G q1 8 (nR (peF w0 w1)), kC G q2 120 (nR (knF w0 w1)), kC G q3 120 (nR (plF w0 w1)), kC G q4 80 (nR ru), kC G q5 8 (nR bf), kC G q6 2 (nR (nuF ho un))] := hD
  refine lv_iload_n hx hb dX4_cell_5 rfl (lv_at hl 1 rfl) ?_
  refine lv_iload_n hx hb dX4_cell_6 rfl (lv_at hl 2 rfl) ?_
  refine k_calli (fun u_7 => [kO q0 4 [.int (nI 0), .ref q1, .ref q2, .ref q3, .ref q4, .ref q5, .ref q6], kC G q1 8 (nR (peF w0 w1)), kC G q2 120 (nR (knF w0 w1)), kC G q3 120 (nR (plF w0 w1)), kC G q4 80 (nR ru), kC G q5 8 (nR bf), kC G q6 2 (nR (nuF ho un))]) [kO q0 4 [.int (nI 0), .ref q1, .ref q2, .ref q3, .ref q4, .ref q5, .ref q6], kC G q1 8 (nR (peF w0 w1)), kC G q2 120 (nR (knF w0 w1)), kC G q3 120 (nR (plF w0 w1)), kC G q4 80 (nR ru), kC G q5 8 (nR bf), kC G q6 2 (nR (nuF ho un))] (k_runS (As := [.int x1, .int x2]) (rest := []) (wc := []) ⟨hx, hb, hml, hown, hts⟩ (m_isCell l G x1 x2 ) (va_cwS 2 hts gX4_cell_X4_isCell rfl rfl rfl (by decide +kernel) ⟨Nat.le_of_ble_eq_true rfl, Nat.le_of_ble_eq_true rfl⟩) hK hZ hP hD hS hA [] rfl rfl rfl hl.1 rfl (Nat.le_of_ble_eq_true rfl) dX4_cell_7 ⟨Nat.le_of_ble_eq_true rfl, Nat.le_of_ble_eq_true rfl⟩) hP hD hS hA [] [0, 1, 2, 3, 4, 5, 6] [0, 1, 2, 3, 4, 5, 6] rfl rfl rfl (by decide) (fun _ => rfl) rfl (fun r_7 u_7 H locs hp_7 hP hD hS => ?_)
  rcases hp_7 with ⟨rfl, hp_7⟩ | ⟨rfl, hp_7⟩
  · refine lv_if_eq (tgt := 48) hx hb dX4_cell_10 (by decide) (fun c_10 => absurd c_10 (by decide)) (fun c_10 => ?_)
    refine lv_iload_n hx hb dX4_cell_13 rfl (lv_at hl 3 rfl) ?_
    refine lv_iconst (v := nI 0) hx hb dX4_cell_14 (by decide) ?_
    refine lv_iconst (v := nI 1) hx hb dX4_cell_15 (by decide) ?_
    refine k_calli (fun u_16 => [kO q0 4 [.int (nI 0), .ref q1, .ref q2, .ref q3, .ref q4, .ref q5, .ref q6], kC G q1 8 (nR (peF w0 w1)), kC G q2 120 (nR (knF w0 w1)), kC G q3 120 (nR (plF w0 w1)), kC G q4 80 (nR ru), kC G q5 8 (nR bf), kC G q6 2 (nR (nuF ho un))]) [kO q0 4 [.int (nI 0), .ref q1, .ref q2, .ref q3, .ref q4, .ref q5, .ref q6], kC G q1 8 (nR (peF w0 w1)), kC G q2 120 (nR (knF w0 w1)), kC G q3 120 (nR (plF w0 w1)), kC G q4 80 (nR ru), kC G q5 8 (nR bf), kC G q6 2 (nR (nuF ho un))] (k_runS (As := [.int x3, .int (nI 0), .int (nI 1)]) (rest := []) (wc := []) ⟨hx, hb, hml, hown, hts⟩ (m_isIn l G x3 (nI 0) (nI 1) ) (va_cwS 3 hts gX4_cell_X4_isIn rfl rfl rfl (by decide +kernel) ⟨Nat.le_of_ble_eq_true rfl, Nat.le_of_ble_eq_true rfl⟩) hK hZ hP hD hS hA [] rfl rfl rfl hl.1 rfl (Nat.le_of_ble_eq_true rfl) dX4_cell_16 ⟨Nat.le_of_ble_eq_true rfl, Nat.le_of_ble_eq_true rfl⟩) hP hD hS hA [] [0, 1, 2, 3, 4, 5, 6] [0, 1, 2, 3, 4, 5, 6] rfl rfl rfl (by decide) (fun _ => rfl) rfl (fun r_16 u_16 H locs hp_16 hP hD hS => ?_)
    rw [isIn_R (by decide)] at hp_16
    rcases hp_16 with ⟨rfl, hp_16⟩ | ⟨rfl, hp_16⟩
    · refine lv_if_eq (tgt := 48) hx hb dX4_cell_19 (by decide) (fun c_19 => absurd c_19 (by decide)) (fun c_19 => ?_)
      obtain ⟨⟨a, ha, ea⟩, ⟨b, hb9, eb⟩⟩ := id hp_7
      subst ea
      subst eb
      have ta : tN (nI a) = a := tN_nI (by omega)
      have tb : tN (nI b) = b := tN_nI (by omega)
      obtain ⟨k, hk, ek⟩ := id hp_16
      subst ek
      have tk : tN (nI k) = k := tN_nI (by omega)
      refine lv_iload_n hx hb dX4_cell_22 rfl (lv_at hl 3 rfl) ?_
      refine lv_if_ne (tgt := 35) hx hb dX4_cell_23 (by decide) (fun c_23 => ?_) (fun c_23 => ?_)
      · have c_23 : ¬ (k = 0) := fun h9 => c_23 ((k_eq0 (a := k) (by omega)).mpr h9)
        rcases Nat.lt_or_ge a 6 with hx6 | hx6
        · skip
          refine lv_aload_n hx hb dX4_cell_35 rfl (lv_at hl 0 rfl) ?_
          refine va_get (D := G.1) (ci := 4) (v := .ref q3) (C := RX4) (T := TX4) (N := 7) hx hb hts hq_0 hown hK.1 hP 0 rfl rfl 3 (by decide) hq_2 (fun _ h9 => h9) rfl dX4_cell_36 ?_
          refine lv_iload_n hx hb dX4_cell_39 rfl (lv_at hl 1 rfl) ?_
          refine lv_iload_n hx hb dX4_cell_40 rfl (lv_at hl 2 rfl) ?_
          refine k_calli (fun _ => [kO q0 4 [.int (nI 0), .ref q1, .ref q2, .ref q3, .ref q4, .ref q5, .ref q6], kC G q1 8 (nR (peF w0 w1)), kC G q2 120 (nR (knF w0 w1)), kC G q3 120 (nR (plF w0 w1)), kC G q4 80 (nR ru), kC G q5 8 (nR bf), kC G q6 2 (nR (nuF ho un))]) [kO q0 4 [.int (nI 0), .ref q1, .ref q2, .ref q3, .ref q4, .ref q5, .ref q6], kC G q1 8 (nR (peF w0 w1)), kC G q2 120 (nR (knF w0 w1)), kC G q3 120 (nR (plF w0 w1)), kC G q4 80 (nR ru), kC G q5 8 (nR bf), kC G q6 2 (nR (nuF ho un))] (k_runS (As := [.int (nI a), .int (nI b)]) (rest := [.ref q3]) (wc := []) ⟨hx, hb, hml, hown, hts⟩ (m_at l G a b ha hb9) (va_cwS 2 hts gX4_cell_X4_at rfl rfl rfl (by decide +kernel) ⟨Nat.le_of_ble_eq_true rfl, Nat.le_of_ble_eq_true rfl⟩) hK hZ hP hD hS hA [] rfl rfl rfl hl.1 rfl (Nat.le_of_ble_eq_true rfl) dX4_cell_41 ⟨Nat.le_of_ble_eq_true rfl, Nat.le_of_ble_eq_true rfl⟩) hP hD hS hA [] [0, 1, 2, 3, 4, 5, 6] [0, 1, 2, 3, 4, 5, 6] rfl rfl rfl (by decide) (fun _ => rfl) rfl (fun r_41 u_41 H locs hp_41 hP hD hS => ?_)
          have hp_41 : r_41 = nI (plN a b) := hp_41.trans (congrArg nI (atN_0 (by omega)))
          subst hp_41
          have hpl : plN a b < 60 := plN_lt ha hb9
          have hi_1 : (plN a b) < 120 := by omega
          refine va_iald (D := G.1) hx hb hK.1 hP 3 0 rfl rfl (vp_in_nI hi_1 (by omega)) dX4_cell_44 ?_
          refine lv_topi (fun y_2 hy_2 => ?_)
          obtain rfl : y_2 = nI ((plF w0 w1) (plN a b)) := hy_2.trans (nR_at (by omega))
          refine lv_topi (fun y_3 hy_3 => ?_)
          obtain rfl : y_3 = nI (vP w0 (plN a b)) := hy_3.trans (congrArg nI (plF_lo (by omega)))
          refine lv_goto (tgt := 53) hx hb dX4_cell_45 (by decide) ?_
          exact k_iret (ws := [kO q0 4 [.int (nI th), .ref q1, .ref q2, .ref q3, .ref q4, .ref q5, .ref q6], kC G q1 8 (nR (peF w0 w1)), kC G q2 120 (nR (knF w0 w1)), kC G q3 120 (nR (plF w0 w1)), kC G q4 80 (nR ru), kC G q5 8 (nR bf), kC G q6 2 (nR (nuF ho un))]) (()) hx hb hr hlocks hP hD hS hAe hQ (Nat.le_of_ble_eq_true rfl) (Nat.le_of_ble_eq_true rfl) dX4_cell_53 (by rw [cdA_0 ⟨hp_7, hp_16⟩]) (fun _ => (by rw [ta, tb, tk]; unfold aCell; rw [if_neg (by omega)]; unfold ptN rgW; rw [if_pos hx6]))
        · skip
          refine lv_aload_n hx hb dX4_cell_35 rfl (lv_at hl 0 rfl) ?_
          refine va_get (D := G.1) (ci := 4) (v := .ref q3) (C := RX4) (T := TX4) (N := 7) hx hb hts hq_0 hown hK.1 hP 0 rfl rfl 3 (by decide) hq_2 (fun _ h9 => h9) rfl dX4_cell_36 ?_
          refine lv_iload_n hx hb dX4_cell_39 rfl (lv_at hl 1 rfl) ?_
          refine lv_iload_n hx hb dX4_cell_40 rfl (lv_at hl 2 rfl) ?_
          refine k_calli (fun _ => [kO q0 4 [.int (nI 0), .ref q1, .ref q2, .ref q3, .ref q4, .ref q5, .ref q6], kC G q1 8 (nR (peF w0 w1)), kC G q2 120 (nR (knF w0 w1)), kC G q3 120 (nR (plF w0 w1)), kC G q4 80 (nR ru), kC G q5 8 (nR bf), kC G q6 2 (nR (nuF ho un))]) [kO q0 4 [.int (nI 0), .ref q1, .ref q2, .ref q3, .ref q4, .ref q5, .ref q6], kC G q1 8 (nR (peF w0 w1)), kC G q2 120 (nR (knF w0 w1)), kC G q3 120 (nR (plF w0 w1)), kC G q4 80 (nR ru), kC G q5 8 (nR bf), kC G q6 2 (nR (nuF ho un))] (k_runS (As := [.int (nI a), .int (nI b)]) (rest := [.ref q3]) (wc := []) ⟨hx, hb, hml, hown, hts⟩ (m_at l G a b ha hb9) (va_cwS 2 hts gX4_cell_X4_at rfl rfl rfl (by decide +kernel) ⟨Nat.le_of_ble_eq_true rfl, Nat.le_of_ble_eq_true rfl⟩) hK hZ hP hD hS hA [] rfl rfl rfl hl.1 rfl (Nat.le_of_ble_eq_true rfl) dX4_cell_41 ⟨Nat.le_of_ble_eq_true rfl, Nat.le_of_ble_eq_true rfl⟩) hP hD hS hA [] [0, 1, 2, 3, 4, 5, 6] [0, 1, 2, 3, 4, 5, 6] rfl rfl rfl (by decide) (fun _ => rfl) rfl (fun r_41 u_41 H locs hp_41 hP hD hS => ?_)
          have hp_41 : r_41 = nI (60 + plN a b) := hp_41.trans (congrArg nI (atN_1 (by omega) (by omega)))
          subst hp_41
          have hpl : plN a b < 60 := plN_lt ha hb9
          have hi_4 : (60 + plN a b) < 120 := by omega
          refine va_iald (D := G.1) hx hb hK.1 hP 3 0 rfl rfl (vp_in_nI hi_4 (by omega)) dX4_cell_44 ?_
          refine lv_topi (fun y_5 hy_5 => ?_)
          obtain rfl : y_5 = nI ((plF w0 w1) (60 + plN a b)) := hy_5.trans (nR_at (by omega))
          refine lv_topi (fun y_6 hy_6 => ?_)
          obtain rfl : y_6 = nI (vP w1 (plN a b)) := hy_6.trans (congrArg nI (plF_hi))
          refine lv_goto (tgt := 53) hx hb dX4_cell_45 (by decide) ?_
          exact k_iret (ws := [kO q0 4 [.int (nI th), .ref q1, .ref q2, .ref q3, .ref q4, .ref q5, .ref q6], kC G q1 8 (nR (peF w0 w1)), kC G q2 120 (nR (knF w0 w1)), kC G q3 120 (nR (plF w0 w1)), kC G q4 80 (nR ru), kC G q5 8 (nR bf), kC G q6 2 (nR (nuF ho un))]) (()) hx hb hr hlocks hP hD hS hAe hQ (Nat.le_of_ble_eq_true rfl) (Nat.le_of_ble_eq_true rfl) dX4_cell_53 (by rw [cdA_0 ⟨hp_7, hp_16⟩]) (fun _ => (by rw [ta, tb, tk]; unfold aCell; rw [if_neg (by omega)]; unfold ptN rgW; rw [if_neg (by omega)]))
      · have c_23 : k = 0 := (k_eq0 (a := k) (by omega)).mp c_23
        refine lv_aload_n hx hb dX4_cell_26 rfl (lv_at hl 0 rfl) ?_
        refine lv_iload_n hx hb dX4_cell_27 rfl (lv_at hl 1 rfl) ?_
        refine lv_iload_n hx hb dX4_cell_28 rfl (lv_at hl 2 rfl) ?_
        refine k_calli (fun _ => [kO q0 4 [.int (nI 0), .ref q1, .ref q2, .ref q3, .ref q4, .ref q5, .ref q6], kC G q1 8 (nR (peF w0 w1)), kC G q2 120 (nR (knF w0 w1)), kC G q3 120 (nR (plF w0 w1)), kC G q4 80 (nR ru), kC G q5 8 (nR bf), kC G q6 2 (nR (nuF ho un))]) [] (k_runV (As := [.int (nI a), .int (nI b)]) (rest := []) (wc := [kO q0 4 [.int (nI 0), .ref q1, .ref q2, .ref q3, .ref q4, .ref q5, .ref q6], kC G q1 8 (nR (peF w0 w1)), kC G q2 120 (nR (knF w0 w1)), kC G q3 120 (nR (plF w0 w1)), kC G q4 80 (nR ru), kC G q5 8 (nR bf), kC G q6 2 (nR (nuF ho un))]) ⟨hx, hb, hml, hown, hts⟩ (m_colour l G q0 q1 q2 q3 q4 q5 q6 w0 w1 bf ho un ru 0 a b ha hb9 h0 h1 hru) (cwV 2 hts gX4_cell_X4_colour rfl rfl rfl (by decide +kernel) ⟨Nat.le_of_ble_eq_true rfl, Nat.le_of_ble_eq_true rfl⟩) hK hZ hP hD hS hA [0, 1, 2, 3, 4, 5, 6] rfl rfl 0 4 rfl rfl rfl rfl hl.1 rfl (Nat.le_of_ble_eq_true rfl) dX4_cell_29 ⟨Nat.le_of_ble_eq_true rfl, Nat.le_of_ble_eq_true rfl⟩) hP hD hS hA [0, 1, 2, 3, 4, 5, 6] [] [0, 1, 2, 3, 4, 5, 6] rfl rfl rfl (by decide) (fun _ => rfl) rfl (fun r_29 u_29 H locs hp_29 hP hD hS => ?_)
        have hp_29 : r_29 = ktN w0 w1 a b := hp_29
        subst hp_29
        refine lv_goto (tgt := 53) hx hb dX4_cell_32 (by decide) ?_
        exact k_iret (ws := [kO q0 4 [.int (nI th), .ref q1, .ref q2, .ref q3, .ref q4, .ref q5, .ref q6], kC G q1 8 (nR (peF w0 w1)), kC G q2 120 (nR (knF w0 w1)), kC G q3 120 (nR (plF w0 w1)), kC G q4 80 (nR ru), kC G q5 8 (nR bf), kC G q6 2 (nR (nuF ho un))]) (()) hx hb hr hlocks hP hD hS hAe hQ (Nat.le_of_ble_eq_true rfl) (Nat.le_of_ble_eq_true rfl) dX4_cell_53 (by rw [cdA_0 ⟨hp_7, hp_16⟩]) (fun _ => (by rw [ta, tb, tk]; unfold aCell; rw [if_pos (by omega)]))
    · refine lv_if_eq (tgt := 48) hx hb dX4_cell_19 (by decide) (fun c_19 => ?_) (fun c_19 => absurd c_19 (by decide))
      refine lv_aload_n hx hb dX4_cell_48 rfl (lv_at hl 0 rfl) ?_
      refine lv_iconst (v := nI 1) hx hb dX4_cell_49 (by decide) ?_
      refine k_calli (fun _ => [kO q0 4 [.int (nI 1), .ref q1, .ref q2, .ref q3, .ref q4, .ref q5, .ref q6], kC G q1 8 (nR (peF w0 w1)), kC G q2 120 (nR (knF w0 w1)), kC G q3 120 (nR (plF w0 w1)), kC G q4 80 (nR ru), kC G q5 8 (nR bf), kC G q6 2 (nR (nuF ho un))]) [kC G q1 8 (nR (peF w0 w1)), kC G q2 120 (nR (knF w0 w1)), kC G q3 120 (nR (plF w0 w1)), kC G q4 80 (nR ru), kC G q5 8 (nR bf), kC G q6 2 (nR (nuF ho un))] (k_runV (As := [.int (nI 1)]) (rest := []) (wc := [kO q0 4 [.int (nI 0), .ref q1, .ref q2, .ref q3, .ref q4, .ref q5, .ref q6]]) ⟨hx, hb, hml, hown, hts⟩ (m_fail l G q0 q1 q2 q3 q4 q5 q6 0 1 ) (cwV 1 hts gX4_cell_X4_fail rfl rfl rfl (by decide +kernel) ⟨Nat.le_of_ble_eq_true rfl, Nat.le_of_ble_eq_true rfl⟩) hK hZ hP hD hS hA [0] rfl rfl 0 4 rfl rfl rfl rfl hl.1 rfl (Nat.le_of_ble_eq_true rfl) dX4_cell_50 ⟨Nat.le_of_ble_eq_true rfl, Nat.le_of_ble_eq_true rfl⟩) hP hD hS hA [0] [1, 2, 3, 4, 5, 6] [6, 0, 1, 2, 3, 4, 5] rfl rfl rfl (by decide) (fun _ => rfl) rfl (fun r_50 u_50 H locs hp_50 hP hD hS => ?_)
      have hp_50 : r_50 = nI 0 := hp_50
      subst hp_50
      exact k_iret (ws := [kO q0 4 [.int (nI th), .ref q1, .ref q2, .ref q3, .ref q4, .ref q5, .ref q6], kC G q1 8 (nR (peF w0 w1)), kC G q2 120 (nR (knF w0 w1)), kC G q3 120 (nR (plF w0 w1)), kC G q4 80 (nR ru), kC G q5 8 (nR bf), kC G q6 2 (nR (nuF ho un))]) (()) hx hb hr hlocks hP hD hS hAe hQ (Nat.le_of_ble_eq_true rfl) (Nat.le_of_ble_eq_true rfl) dX4_cell_53 (by first | (rw [cdA_1 (fun q => hp_16 q.2)]; done) | (rw [cdA_1 (fun q => hp_7 q.1)]; done)) (by first | exact fun q => absurd ((cdA_1 (fun q => hp_16 q.2)).symm.trans q) (by decide) | exact fun q => absurd ((cdA_1 (fun q => hp_7 q.1)).symm.trans q) (by decide))
  · refine lv_if_eq (tgt := 48) hx hb dX4_cell_10 (by decide) (fun c_10 => ?_) (fun c_10 => absurd c_10 (by decide))
    refine lv_aload_n hx hb dX4_cell_48 rfl (lv_at hl 0 rfl) ?_
    refine lv_iconst (v := nI 1) hx hb dX4_cell_49 (by decide) ?_
    refine k_calli (fun _ => [kO q0 4 [.int (nI 1), .ref q1, .ref q2, .ref q3, .ref q4, .ref q5, .ref q6], kC G q1 8 (nR (peF w0 w1)), kC G q2 120 (nR (knF w0 w1)), kC G q3 120 (nR (plF w0 w1)), kC G q4 80 (nR ru), kC G q5 8 (nR bf), kC G q6 2 (nR (nuF ho un))]) [kC G q1 8 (nR (peF w0 w1)), kC G q2 120 (nR (knF w0 w1)), kC G q3 120 (nR (plF w0 w1)), kC G q4 80 (nR ru), kC G q5 8 (nR bf), kC G q6 2 (nR (nuF ho un))] (k_runV (As := [.int (nI 1)]) (rest := []) (wc := [kO q0 4 [.int (nI 0), .ref q1, .ref q2, .ref q3, .ref q4, .ref q5, .ref q6]]) ⟨hx, hb, hml, hown, hts⟩ (m_fail l G q0 q1 q2 q3 q4 q5 q6 0 1 ) (cwV 1 hts gX4_cell_X4_fail rfl rfl rfl (by decide +kernel) ⟨Nat.le_of_ble_eq_true rfl, Nat.le_of_ble_eq_true rfl⟩) hK hZ hP hD hS hA [0] rfl rfl 0 4 rfl rfl rfl rfl hl.1 rfl (Nat.le_of_ble_eq_true rfl) dX4_cell_50 ⟨Nat.le_of_ble_eq_true rfl, Nat.le_of_ble_eq_true rfl⟩) hP hD hS hA [0] [1, 2, 3, 4, 5, 6] [6, 0, 1, 2, 3, 4, 5] rfl rfl rfl (by decide) (fun _ => rfl) rfl (fun r_50 u_50 H locs hp_50 hP hD hS => ?_)
    have hp_50 : r_50 = nI 0 := hp_50
    subst hp_50
    exact k_iret (ws := [kO q0 4 [.int (nI th), .ref q1, .ref q2, .ref q3, .ref q4, .ref q5, .ref q6], kC G q1 8 (nR (peF w0 w1)), kC G q2 120 (nR (knF w0 w1)), kC G q3 120 (nR (plF w0 w1)), kC G q4 80 (nR ru), kC G q5 8 (nR bf), kC G q6 2 (nR (nuF ho un))]) (()) hx hb hr hlocks hP hD hS hAe hQ (Nat.le_of_ble_eq_true rfl) (Nat.le_of_ble_eq_true rfl) dX4_cell_53 (by first | (rw [cdA_1 (fun q => hp_16 q.2)]; done) | (rw [cdA_1 (fun q => hp_7 q.1)]; done)) (by first | exact fun q => absurd ((cdA_1 (fun q => hp_16 q.2)).symm.trans q) (by decide) | exact fun q => absurd ((cdA_1 (fun q => hp_7 q.1)).symm.trans q) (by decide))
set_option maxHeartbeats 4000000 in
set_option maxRecDepth 100000 in
theorem m_sees (l : Launch) (G : kG) (q0 : Nat) (q1 : Nat) (q2 : Nat) (q3 : Nat) (q4 : Nat) (q5 : Nat) (q6 : Nat) (w0 : Wv) (w1 : Wv) (bf : Nat → Nat) (ho : Nat) (un : Nat) (ru : Nat → Nat) (th : Nat) (x1 : Int32) (x2 : Int32) (x3 : Int32) (h0 : wOk w0) (h1 : wOk w1) (hB : bOk bf) (hru : ruOk w0 w1 ru) : kM l G yX4_sees wsX4_sees ({ frames := 2, cells := 0, slots := 0, locals := 45 } : Room) [.ref q0, .int x1, .int x2, .int x3] [kO q0 4 [.int (nI th), .ref q1, .ref q2, .ref q3, .ref q4, .ref q5, .ref q6], kC G q1 8 (nR (peF w0 w1)), kC G q2 120 (nR (knF w0 w1)), kC G q3 120 (nR (plF w0 w1)), kC G q4 80 (nR ru), kC G q5 8 (nR bf), kC G q6 2 (nR (nuF ho un))] (kQi G [kO q0 4 [.int (nI th), .ref q1, .ref q2, .ref q3, .ref q4, .ref q5, .ref q6], kC G q1 8 (nR (peF w0 w1)), kC G q2 120 (nR (knF w0 w1)), kC G q3 120 (nR (plF w0 w1)), kC G q4 80 (nR ru), kC G q5 8 (nR bf), kC G q6 2 (nR (nuF ho un))] (fun (r : Int32) (_ : Unit) => cdA (inR x1 2 ∧ (inR x2 12 ∧ inR x3 10)) = 0 → r = aSees (w0, w1, bf, ho, un) (tN x1) (tN x2) (tN x3)) (fun (_ : Unit) => [kO q0 4 [.int (nI (cdA (inR x1 2 ∧ (inR x2 12 ∧ inR x3 10)))), .ref q1, .ref q2, .ref q3, .ref q4, .ref q5, .ref q6], kC G q1 8 (nR (peF w0 w1)), kC G q2 120 (nR (knF w0 w1)), kC G q3 120 (nR (plF w0 w1)), kC G q4 80 (nR ru), kC G q5 8 (nR bf), kC G q6 2 (nR (nuF ho un))])) := by
  refine k_ofW (cc := cX4_sees) (maxL := 6) (rt := (some .int)) (by decide) rfl (Nat.le_of_ble_eq_true rfl) ?_
  intro p e s m args below meth c A ls Qs H locs hQ hAe hx hb hr hml hts hown hlocks hin hK hZ hP hD hS hA hl
  have hown : s.vm.findClass RX4 = some m.cls := hown
  have hl : lv_has ls 6 [(0, .ref q0), (1, .int x1), (2, .int x2), (3, .int x3)] := hl
  have m0b : vM w0 ≤ 60 := h0.2.2.2.1
  have m1b : vM w1 ≤ 60 := h1.2.2.2.1
  have t0b : vT w0 ≤ 20 := h0.2.2.1
  have t1b : vT w1 ≤ 20 := h1.2.2.1
  have pb0 : ∀ i, i < 60 → vP w0 i < 8 := h0.2.2.2.2.1
  have pb1 : ∀ i, i < 60 → vP w1 i < 8 := h1.2.2.2.2.1
  have kb0 : ∀ i, i < 60 → vK w0 i < 8 := h0.2.2.2.2.2.1
  have kb1 : ∀ i, i < 60 → vK w1 i < 8 := h1.2.2.2.2.2.1
  have rk0 := hru.1
  have rk1 := hru.2
  have hq_0 : ∀ w ∈ wsX40, w ∈ wsX4_sees := by decide +kernel
  have hq_1 : (Cond.fieldLink RX4 28 "KnotRugsModel" "thrown" "I").before args s = true := hts _ (by decide +kernel)
  refine lv_aload_n hx hb dX4_sees_0 rfl (lv_at hl 0 rfl) ?_
  refine lv_iconst (v := nI 0) hx hb dX4_sees_1 (by decide) ?_
  refine va_put (D := G.1) (ci := 4) (v := .int (nI 0)) (ty := .int) (C := RX4) (T := TX4) (N := 7) hx hb hts hq_0 tyX4 tyX4_ok nmX4 hown hK.1 hP hD hS 0 rfl rfl 0 (by decide) hq_1 (fun _ h9 => h9) rfl (by decide +kernel) rfl rfl (Nat.le_of_ble_eq_true rfl) dX4_sees_2 (fun H locs hP hD hS => ?_)
  have hP : va_P G.1 vwCl [kO q0 4 [.int (nI 0), .ref q1, .ref q2, .ref q3, .ref q4, .ref q5, .ref q6], kC G q1 8 (nR (peF w0 w1)), kC G q2 120 (nR (knF w0 w1)), kC G q3 120 (nR (plF w0 w1)), kC G q4 80 (nR ru), kC G q5 8 (nR bf), kC G q6 2 (nR (nuF ho un))] H := hP
  have hD : va_D A [kO q0 4 [.int (nI 0), .ref q1, .ref q2, .ref q3, .ref q4, .ref q5, .ref q6], kC G q1 8 (nR (peF w0 w1)), kC G q2 120 (nR (knF w0 w1)), kC G q3 120 (nR (plF w0 w1)), kC G q4 80 (nR ru), kC G q5 8 (nR bf), kC G q6 2 (nR (nuF ho un))] := hD
  refine lv_iload_n hx hb dX4_sees_5 rfl (lv_at hl 1 rfl) ?_
  refine k_calli (fun u_6 => [kO q0 4 [.int (nI 0), .ref q1, .ref q2, .ref q3, .ref q4, .ref q5, .ref q6], kC G q1 8 (nR (peF w0 w1)), kC G q2 120 (nR (knF w0 w1)), kC G q3 120 (nR (plF w0 w1)), kC G q4 80 (nR ru), kC G q5 8 (nR bf), kC G q6 2 (nR (nuF ho un))]) [kO q0 4 [.int (nI 0), .ref q1, .ref q2, .ref q3, .ref q4, .ref q5, .ref q6], kC G q1 8 (nR (peF w0 w1)), kC G q2 120 (nR (knF w0 w1)), kC G q3 120 (nR (plF w0 w1)), kC G q4 80 (nR ru), kC G q5 8 (nR bf), kC G q6 2 (nR (nuF ho un))] (k_runS (As := [.int x1]) (rest := []) (wc := []) ⟨hx, hb, hml, hown, hts⟩ (m_isWeaver l G x1 ) (va_cwS 1 hts gX4_sees_X4_isWeaver rfl rfl rfl (by decide +kernel) ⟨Nat.le_of_ble_eq_true rfl, Nat.le_of_ble_eq_true rfl⟩) hK hZ hP hD hS hA [] rfl rfl rfl hl.1 rfl (Nat.le_of_ble_eq_true rfl) dX4_sees_6 ⟨Nat.le_of_ble_eq_true rfl, Nat.le_of_ble_eq_true rfl⟩) hP hD hS hA [] [0, 1, 2, 3, 4, 5, 6] [0, 1, 2, 3, 4, 5, 6] rfl rfl rfl (by decide) (fun _ => rfl) rfl (fun r_6 u_6 H locs hp_6 hP hD hS => ?_)
  rcases hp_6 with ⟨rfl, hp_6⟩ | ⟨rfl, hp_6⟩
  · refine lv_if_eq (tgt := 20) hx hb dX4_sees_9 (by decide) (fun c_9 => absurd c_9 (by decide)) (fun c_9 => ?_)
    refine lv_iload_n hx hb dX4_sees_12 rfl (lv_at hl 2 rfl) ?_
    refine lv_iload_n hx hb dX4_sees_13 rfl (lv_at hl 3 rfl) ?_
    refine k_calli (fun u_14 => [kO q0 4 [.int (nI 0), .ref q1, .ref q2, .ref q3, .ref q4, .ref q5, .ref q6], kC G q1 8 (nR (peF w0 w1)), kC G q2 120 (nR (knF w0 w1)), kC G q3 120 (nR (plF w0 w1)), kC G q4 80 (nR ru), kC G q5 8 (nR bf), kC G q6 2 (nR (nuF ho un))]) [kO q0 4 [.int (nI 0), .ref q1, .ref q2, .ref q3, .ref q4, .ref q5, .ref q6], kC G q1 8 (nR (peF w0 w1)), kC G q2 120 (nR (knF w0 w1)), kC G q3 120 (nR (plF w0 w1)), kC G q4 80 (nR ru), kC G q5 8 (nR bf), kC G q6 2 (nR (nuF ho un))] (k_runS (As := [.int x2, .int x3]) (rest := []) (wc := []) ⟨hx, hb, hml, hown, hts⟩ (m_isCell l G x2 x3 ) (va_cwS 2 hts gX4_sees_X4_isCell rfl rfl rfl (by decide +kernel) ⟨Nat.le_of_ble_eq_true rfl, Nat.le_of_ble_eq_true rfl⟩) hK hZ hP hD hS hA [] rfl rfl rfl hl.1 rfl (Nat.le_of_ble_eq_true rfl) dX4_sees_14 ⟨Nat.le_of_ble_eq_true rfl, Nat.le_of_ble_eq_true rfl⟩) hP hD hS hA [] [0, 1, 2, 3, 4, 5, 6] [0, 1, 2, 3, 4, 5, 6] rfl rfl rfl (by decide) (fun _ => rfl) rfl (fun r_14 u_14 H locs hp_14 hP hD hS => ?_)
    rcases hp_14 with ⟨rfl, hp_14⟩ | ⟨rfl, hp_14⟩
    · refine lv_if_ne (tgt := 26) hx hb dX4_sees_17 (by decide) (fun c_17 => ?_) (fun c_17 => absurd c_17 (by decide))
      obtain ⟨j, hj, ej⟩ := id hp_6
      subst ej
      have tj : tN (nI j) = j := tN_nI (by omega)
      obtain ⟨⟨a, ha, ea⟩, ⟨b, hb9, eb⟩⟩ := id hp_14
      subst ea
      subst eb
      have ta : tN (nI a) = a := tN_nI (by omega)
      have tb : tN (nI b) = b := tN_nI (by omega)
      rcases (show j = 0 ∨ j = 1 by omega) with rfl | rfl
      · skip
        refine lv_iload_n hx hb dX4_sees_26 rfl (lv_at hl 2 rfl) ?_
        refine lv_bipush (v := nI 6) hx hb dX4_sees_27 (by decide) ?_
        refine lv_idiv hx hb dX4_sees_29 (by first | decide | (intro h; exact absurd ((nI_eq (by omega) (by omega)).mp h) (by omega))) ?_
        refine lv_topi (fun y_1 hy_1 => ?_)
        obtain rfl : y_1 = nI (a / 6) := hy_1.trans (pk_div (a := a) (d := 6) (by omega) (by omega) (by omega))
        refine lv_iload_n hx hb dX4_sees_30 rfl (lv_at hl 1 rfl) ?_
        refine lv_icmp_ne (tgt := 38) hx hb dX4_sees_31 (by decide) (fun c_31 => ?_) (fun c_31 => ?_)
        · have c_31 : ¬ ((a / 6) = 0) := fun h9 => c_31 ((nI_eq (a := (a / 6)) (b := 0) (by omega) (by omega)).mpr h9)
          refine lv_iconst (v := nI 0) hx hb dX4_sees_38 (by decide) ?_
          refine lv_istore (lv' := [(4, .int (nI 0)), (0, .ref q0), (1, .int (nI 0)), (2, .int (nI a)), (3, .int (nI b))]) hx hb dX4_sees_39 hl (by decide) rfl (fun ls hl => ?_)
          refine lv_iload_n hx hb dX4_sees_41 rfl (lv_at hl 3 rfl) ?_
          refine lv_iload_n hx hb dX4_sees_42 rfl (lv_at hl 2 rfl) ?_
          refine lv_if_ne (tgt := 51) hx hb dX4_sees_43 (by decide) (fun c_43 => absurd c_43 (by decide)) (fun c_43 => ?_)
          refine lv_bipush (v := nI 6) hx hb dX4_sees_46 (by decide) ?_
          refine lv_goto (tgt := 52) hx hb dX4_sees_48 (by decide) ?_
          refine lv_icmp_ne (tgt := 75) hx hb dX4_sees_52 (by decide) (fun c_52 => ?_) (fun c_52 => ?_)
          · have c_52 : ¬ (a = 6) := fun h9 => c_52 ((nI_eq (a := a) (b := 6) (by omega) (by omega)).mpr h9)
            refine lv_iconst (v := nI 0) hx hb dX4_sees_75 (by decide) ?_
            refine lv_istore (lv' := [(5, .int (nI 0)), (4, .int (nI 0)), (0, .ref q0), (1, .int (nI 0)), (2, .int (nI a)), (3, .int (nI b))]) hx hb dX4_sees_76 hl (by decide) rfl (fun ls hl => ?_)
            refine lv_iload hx hb dX4_sees_78 (lv_at hl 1 rfl) ?_
            refine lv_if_ne (tgt := 88) hx hb dX4_sees_80 (by decide) (fun c_80 => absurd c_80 (by decide)) (fun c_80 => ?_)
            refine lv_iload hx hb dX4_sees_83 (lv_at hl 0 rfl) ?_
            refine lv_if_eq (tgt := 97) hx hb dX4_sees_85 (by decide) (fun c_85 => ?_) (fun c_85 => absurd c_85 (by decide))
            refine lv_bipush (v := (-2)) hx hb dX4_sees_97 (by decide) ?_
            exact k_iret (ws := [kO q0 4 [.int (nI th), .ref q1, .ref q2, .ref q3, .ref q4, .ref q5, .ref q6], kC G q1 8 (nR (peF w0 w1)), kC G q2 120 (nR (knF w0 w1)), kC G q3 120 (nR (plF w0 w1)), kC G q4 80 (nR ru), kC G q5 8 (nR bf), kC G q6 2 (nR (nuF ho un))]) (()) hx hb hr hlocks hP hD hS hAe hQ (Nat.le_of_ble_eq_true rfl) (Nat.le_of_ble_eq_true rfl) dX4_sees_99 (by rw [cdA_0 ⟨hp_6, hp_14⟩]) (fun _ => (by rw [tj, ta, tb]; unfold aSees; rw [show gW (w0, w1, bf, ho, un) 0 = w0 from rfl, sdN_eq ha, if_neg (by omega)]))
          · have c_52 : a = 6 := (nI_eq (a := a) (b := 6) (by omega) (by omega)).mp c_52
            refine lv_aload_n hx hb dX4_sees_55 rfl (lv_at hl 1 rfl) ?_
            refine lv_iload_n hx hb dX4_sees_56 rfl (lv_at hl 2 rfl) ?_
            refine lv_iconst (v := nI 1) hx hb dX4_sees_57 (by decide) ?_
            refine k_calli (fun _ => [kO q0 4 [.int (nI 0), .ref q1, .ref q2, .ref q3, .ref q4, .ref q5, .ref q6], kC G q1 8 (nR (peF w0 w1)), kC G q2 120 (nR (knF w0 w1)), kC G q3 120 (nR (plF w0 w1)), kC G q4 80 (nR ru), kC G q5 8 (nR bf), kC G q6 2 (nR (nuF ho un))]) [kC G q2 120 (nR (knF w0 w1)), kC G q3 120 (nR (plF w0 w1)), kC G q4 80 (nR ru), kC G q5 8 (nR bf), kC G q6 2 (nR (nuF ho un))] (k_runV (As := [.int (nI 0), .int (nI 1)]) (rest := []) (wc := [kO q0 4 [.int (nI 0), .ref q1, .ref q2, .ref q3, .ref q4, .ref q5, .ref q6], kC G q1 8 (nR (peF w0 w1))]) ⟨hx, hb, hml, hown, hts⟩ (m_pe l G q0 q1 q2 q3 q4 q5 q6 0 (peF w0 w1) 0 1 (by decide) (by decide)) (cwV 2 hts gX4_sees_X4_pe rfl rfl rfl (by decide +kernel) ⟨Nat.le_of_ble_eq_true rfl, Nat.le_of_ble_eq_true rfl⟩) hK hZ hP hD hS hA [0, 1] rfl rfl 0 4 rfl rfl rfl rfl hl.1 rfl (Nat.le_of_ble_eq_true rfl) dX4_sees_58 ⟨Nat.le_of_ble_eq_true rfl, Nat.le_of_ble_eq_true rfl⟩) hP hD hS hA [0, 1] [2, 3, 4, 5, 6] [5, 6, 0, 1, 2, 3, 4] rfl rfl rfl (by decide) (fun _ => rfl) rfl (fun r_58 u_58 H locs hp_58 hP hD hS => ?_)
            have hp_58 : r_58 = nI (vM w0) := hp_58
            subst hp_58
            refine lv_bipush (v := nI 6) hx hb dX4_sees_61 (by decide) ?_
            refine lv_iload_n hx hb dX4_sees_63 rfl (lv_at hl 4 rfl) ?_
            refine lv_imul hx hb dX4_sees_64 ?_
            refine lv_topi (fun y_2 hy_2 => ?_)
            obtain rfl : y_2 = nI (6 * b) := hy_2.trans (pk_mul 6 b)
            refine lv_bipush (v := nI 6) hx hb dX4_sees_65 (by decide) ?_
            refine lv_iadd hx hb dX4_sees_67 ?_
            refine lv_topi (fun y_3 hy_3 => ?_)
            obtain rfl : y_3 = nI ((6 * b) + 6) := hy_3.trans (nI_add (6 * b) 6)
            refine lv_icmp_lt (tgt := 75) hx hb dX4_sees_68 (by decide) (fun c_68 => ?_) (fun c_68 => ?_)
            · have c_68 : (vM w0) < ((6 * b) + 6) := (nI_ltI (a := (vM w0)) (b := ((6 * b) + 6)) (by omega) (by omega)).mp c_68
              refine lv_iconst (v := nI 0) hx hb dX4_sees_75 (by decide) ?_
              refine lv_istore (lv' := [(5, .int (nI 0)), (4, .int (nI 0)), (0, .ref q0), (1, .int (nI 0)), (2, .int (nI a)), (3, .int (nI b))]) hx hb dX4_sees_76 hl (by decide) rfl (fun ls hl => ?_)
              refine lv_iload hx hb dX4_sees_78 (lv_at hl 1 rfl) ?_
              refine lv_if_ne (tgt := 88) hx hb dX4_sees_80 (by decide) (fun c_80 => absurd c_80 (by decide)) (fun c_80 => ?_)
              refine lv_iload hx hb dX4_sees_83 (lv_at hl 0 rfl) ?_
              refine lv_if_eq (tgt := 97) hx hb dX4_sees_85 (by decide) (fun c_85 => ?_) (fun c_85 => absurd c_85 (by decide))
              refine lv_bipush (v := (-2)) hx hb dX4_sees_97 (by decide) ?_
              exact k_iret (ws := [kO q0 4 [.int (nI th), .ref q1, .ref q2, .ref q3, .ref q4, .ref q5, .ref q6], kC G q1 8 (nR (peF w0 w1)), kC G q2 120 (nR (knF w0 w1)), kC G q3 120 (nR (plF w0 w1)), kC G q4 80 (nR ru), kC G q5 8 (nR bf), kC G q6 2 (nR (nuF ho un))]) (()) hx hb hr hlocks hP hD hS hAe hQ (Nat.le_of_ble_eq_true rfl) (Nat.le_of_ble_eq_true rfl) dX4_sees_99 (by rw [cdA_0 ⟨hp_6, hp_14⟩]) (fun _ => (by rw [tj, ta, tb]; unfold aSees; rw [show gW (w0, w1, bf, ho, un) 0 = w0 from rfl, sdN_eq ha, if_neg (by omega)]))
            · have c_68 : ¬ ((vM w0) < ((6 * b) + 6)) := fun h9 => c_68 ((nI_ltI (a := (vM w0)) (b := ((6 * b) + 6)) (by omega) (by omega)).mpr h9)
              refine lv_iconst (v := nI 1) hx hb dX4_sees_71 (by decide) ?_
              refine lv_goto (tgt := 76) hx hb dX4_sees_72 (by decide) ?_
              refine lv_istore (lv' := [(5, .int (nI 1)), (4, .int (nI 0)), (0, .ref q0), (1, .int (nI 0)), (2, .int (nI a)), (3, .int (nI b))]) hx hb dX4_sees_76 hl (by decide) rfl (fun ls hl => ?_)
              refine lv_iload hx hb dX4_sees_78 (lv_at hl 1 rfl) ?_
              refine lv_if_ne (tgt := 88) hx hb dX4_sees_80 (by decide) (fun c_80 => absurd c_80 (by decide)) (fun c_80 => ?_)
              refine lv_iload hx hb dX4_sees_83 (lv_at hl 0 rfl) ?_
              refine lv_if_eq (tgt := 97) hx hb dX4_sees_85 (by decide) (fun c_85 => absurd c_85 (by decide)) (fun c_85 => ?_)
              refine lv_aload_n hx hb dX4_sees_88 rfl (lv_at hl 2 rfl) ?_
              refine lv_iload_n hx hb dX4_sees_89 rfl (lv_at hl 4 rfl) ?_
              refine lv_iload_n hx hb dX4_sees_90 rfl (lv_at hl 5 rfl) ?_
              refine k_calli (fun _ => [kO q0 4 [.int (nI 0), .ref q1, .ref q2, .ref q3, .ref q4, .ref q5, .ref q6], kC G q1 8 (nR (peF w0 w1)), kC G q2 120 (nR (knF w0 w1)), kC G q3 120 (nR (plF w0 w1)), kC G q4 80 (nR ru), kC G q5 8 (nR bf), kC G q6 2 (nR (nuF ho un))]) [] (k_runV (As := [.int (nI a), .int (nI b)]) (rest := []) (wc := [kO q0 4 [.int (nI 0), .ref q1, .ref q2, .ref q3, .ref q4, .ref q5, .ref q6], kC G q1 8 (nR (peF w0 w1)), kC G q2 120 (nR (knF w0 w1)), kC G q3 120 (nR (plF w0 w1)), kC G q4 80 (nR ru), kC G q5 8 (nR bf), kC G q6 2 (nR (nuF ho un))]) ⟨hx, hb, hml, hown, hts⟩ (m_colour l G q0 q1 q2 q3 q4 q5 q6 w0 w1 bf ho un ru 0 a b ha hb9 h0 h1 hru) (cwV 2 hts gX4_sees_X4_colour rfl rfl rfl (by decide +kernel) ⟨Nat.le_of_ble_eq_true rfl, Nat.le_of_ble_eq_true rfl⟩) hK hZ hP hD hS hA [0, 1, 2, 3, 4, 5, 6] rfl rfl 0 4 rfl rfl rfl rfl hl.1 rfl (Nat.le_of_ble_eq_true rfl) dX4_sees_91 ⟨Nat.le_of_ble_eq_true rfl, Nat.le_of_ble_eq_true rfl⟩) hP hD hS hA [0, 1, 2, 3, 4, 5, 6] [] [0, 1, 2, 3, 4, 5, 6] rfl rfl rfl (by decide) (fun _ => rfl) rfl (fun r_91 u_91 H locs hp_91 hP hD hS => ?_)
              have hp_91 : r_91 = ktN w0 w1 a b := hp_91
              subst hp_91
              refine lv_goto (tgt := 99) hx hb dX4_sees_94 (by decide) ?_
              exact k_iret (ws := [kO q0 4 [.int (nI th), .ref q1, .ref q2, .ref q3, .ref q4, .ref q5, .ref q6], kC G q1 8 (nR (peF w0 w1)), kC G q2 120 (nR (knF w0 w1)), kC G q3 120 (nR (plF w0 w1)), kC G q4 80 (nR ru), kC G q5 8 (nR bf), kC G q6 2 (nR (nuF ho un))]) (()) hx hb hr hlocks hP hD hS hAe hQ (Nat.le_of_ble_eq_true rfl) (Nat.le_of_ble_eq_true rfl) dX4_sees_99 (by rw [cdA_0 ⟨hp_6, hp_14⟩]) (fun _ => (by rw [tj, ta, tb]; unfold aSees; rw [show gW (w0, w1, bf, ho, un) 0 = w0 from rfl, sdN_eq ha, if_pos (by omega)]))
        · have c_31 : (a / 6) = 0 := (nI_eq (a := (a / 6)) (b := 0) (by omega) (by omega)).mp c_31
          refine lv_iconst (v := nI 1) hx hb dX4_sees_34 (by decide) ?_
          refine lv_goto (tgt := 39) hx hb dX4_sees_35 (by decide) ?_
          refine lv_istore (lv' := [(4, .int (nI 1)), (0, .ref q0), (1, .int (nI 0)), (2, .int (nI a)), (3, .int (nI b))]) hx hb dX4_sees_39 hl (by decide) rfl (fun ls hl => ?_)
          refine lv_iload_n hx hb dX4_sees_41 rfl (lv_at hl 3 rfl) ?_
          refine lv_iload_n hx hb dX4_sees_42 rfl (lv_at hl 2 rfl) ?_
          refine lv_if_ne (tgt := 51) hx hb dX4_sees_43 (by decide) (fun c_43 => absurd c_43 (by decide)) (fun c_43 => ?_)
          refine lv_bipush (v := nI 6) hx hb dX4_sees_46 (by decide) ?_
          refine lv_goto (tgt := 52) hx hb dX4_sees_48 (by decide) ?_
          refine lv_icmp_ne (tgt := 75) hx hb dX4_sees_52 (by decide) (fun c_52 => ?_) (fun c_52 => ?_)
          · have c_52 : ¬ (a = 6) := fun h9 => c_52 ((nI_eq (a := a) (b := 6) (by omega) (by omega)).mpr h9)
            refine lv_iconst (v := nI 0) hx hb dX4_sees_75 (by decide) ?_
            refine lv_istore (lv' := [(5, .int (nI 0)), (4, .int (nI 1)), (0, .ref q0), (1, .int (nI 0)), (2, .int (nI a)), (3, .int (nI b))]) hx hb dX4_sees_76 hl (by decide) rfl (fun ls hl => ?_)
            refine lv_iload hx hb dX4_sees_78 (lv_at hl 1 rfl) ?_
            refine lv_if_ne (tgt := 88) hx hb dX4_sees_80 (by decide) (fun c_80 => ?_) (fun c_80 => absurd c_80 (by decide))
            refine lv_aload_n hx hb dX4_sees_88 rfl (lv_at hl 2 rfl) ?_
            refine lv_iload_n hx hb dX4_sees_89 rfl (lv_at hl 4 rfl) ?_
            refine lv_iload_n hx hb dX4_sees_90 rfl (lv_at hl 5 rfl) ?_
            refine k_calli (fun _ => [kO q0 4 [.int (nI 0), .ref q1, .ref q2, .ref q3, .ref q4, .ref q5, .ref q6], kC G q1 8 (nR (peF w0 w1)), kC G q2 120 (nR (knF w0 w1)), kC G q3 120 (nR (plF w0 w1)), kC G q4 80 (nR ru), kC G q5 8 (nR bf), kC G q6 2 (nR (nuF ho un))]) [] (k_runV (As := [.int (nI a), .int (nI b)]) (rest := []) (wc := [kO q0 4 [.int (nI 0), .ref q1, .ref q2, .ref q3, .ref q4, .ref q5, .ref q6], kC G q1 8 (nR (peF w0 w1)), kC G q2 120 (nR (knF w0 w1)), kC G q3 120 (nR (plF w0 w1)), kC G q4 80 (nR ru), kC G q5 8 (nR bf), kC G q6 2 (nR (nuF ho un))]) ⟨hx, hb, hml, hown, hts⟩ (m_colour l G q0 q1 q2 q3 q4 q5 q6 w0 w1 bf ho un ru 0 a b ha hb9 h0 h1 hru) (cwV 2 hts gX4_sees_X4_colour rfl rfl rfl (by decide +kernel) ⟨Nat.le_of_ble_eq_true rfl, Nat.le_of_ble_eq_true rfl⟩) hK hZ hP hD hS hA [0, 1, 2, 3, 4, 5, 6] rfl rfl 0 4 rfl rfl rfl rfl hl.1 rfl (Nat.le_of_ble_eq_true rfl) dX4_sees_91 ⟨Nat.le_of_ble_eq_true rfl, Nat.le_of_ble_eq_true rfl⟩) hP hD hS hA [0, 1, 2, 3, 4, 5, 6] [] [0, 1, 2, 3, 4, 5, 6] rfl rfl rfl (by decide) (fun _ => rfl) rfl (fun r_91 u_91 H locs hp_91 hP hD hS => ?_)
            have hp_91 : r_91 = ktN w0 w1 a b := hp_91
            subst hp_91
            refine lv_goto (tgt := 99) hx hb dX4_sees_94 (by decide) ?_
            exact k_iret (ws := [kO q0 4 [.int (nI th), .ref q1, .ref q2, .ref q3, .ref q4, .ref q5, .ref q6], kC G q1 8 (nR (peF w0 w1)), kC G q2 120 (nR (knF w0 w1)), kC G q3 120 (nR (plF w0 w1)), kC G q4 80 (nR ru), kC G q5 8 (nR bf), kC G q6 2 (nR (nuF ho un))]) (()) hx hb hr hlocks hP hD hS hAe hQ (Nat.le_of_ble_eq_true rfl) (Nat.le_of_ble_eq_true rfl) dX4_sees_99 (by rw [cdA_0 ⟨hp_6, hp_14⟩]) (fun _ => (by rw [tj, ta, tb]; unfold aSees; rw [show gW (w0, w1, bf, ho, un) 0 = w0 from rfl, sdN_eq ha, if_pos (by omega)]))
          · have c_52 : a = 6 := (nI_eq (a := a) (b := 6) (by omega) (by omega)).mp c_52
            refine lv_aload_n hx hb dX4_sees_55 rfl (lv_at hl 1 rfl) ?_
            refine lv_iload_n hx hb dX4_sees_56 rfl (lv_at hl 2 rfl) ?_
            refine lv_iconst (v := nI 1) hx hb dX4_sees_57 (by decide) ?_
            refine k_calli (fun _ => [kO q0 4 [.int (nI 0), .ref q1, .ref q2, .ref q3, .ref q4, .ref q5, .ref q6], kC G q1 8 (nR (peF w0 w1)), kC G q2 120 (nR (knF w0 w1)), kC G q3 120 (nR (plF w0 w1)), kC G q4 80 (nR ru), kC G q5 8 (nR bf), kC G q6 2 (nR (nuF ho un))]) [kC G q2 120 (nR (knF w0 w1)), kC G q3 120 (nR (plF w0 w1)), kC G q4 80 (nR ru), kC G q5 8 (nR bf), kC G q6 2 (nR (nuF ho un))] (k_runV (As := [.int (nI 0), .int (nI 1)]) (rest := []) (wc := [kO q0 4 [.int (nI 0), .ref q1, .ref q2, .ref q3, .ref q4, .ref q5, .ref q6], kC G q1 8 (nR (peF w0 w1))]) ⟨hx, hb, hml, hown, hts⟩ (m_pe l G q0 q1 q2 q3 q4 q5 q6 0 (peF w0 w1) 0 1 (by decide) (by decide)) (cwV 2 hts gX4_sees_X4_pe rfl rfl rfl (by decide +kernel) ⟨Nat.le_of_ble_eq_true rfl, Nat.le_of_ble_eq_true rfl⟩) hK hZ hP hD hS hA [0, 1] rfl rfl 0 4 rfl rfl rfl rfl hl.1 rfl (Nat.le_of_ble_eq_true rfl) dX4_sees_58 ⟨Nat.le_of_ble_eq_true rfl, Nat.le_of_ble_eq_true rfl⟩) hP hD hS hA [0, 1] [2, 3, 4, 5, 6] [5, 6, 0, 1, 2, 3, 4] rfl rfl rfl (by decide) (fun _ => rfl) rfl (fun r_58 u_58 H locs hp_58 hP hD hS => ?_)
            have hp_58 : r_58 = nI (vM w0) := hp_58
            subst hp_58
            refine lv_bipush (v := nI 6) hx hb dX4_sees_61 (by decide) ?_
            refine lv_iload_n hx hb dX4_sees_63 rfl (lv_at hl 4 rfl) ?_
            refine lv_imul hx hb dX4_sees_64 ?_
            refine lv_topi (fun y_4 hy_4 => ?_)
            obtain rfl : y_4 = nI (6 * b) := hy_4.trans (pk_mul 6 b)
            refine lv_bipush (v := nI 6) hx hb dX4_sees_65 (by decide) ?_
            refine lv_iadd hx hb dX4_sees_67 ?_
            refine lv_topi (fun y_5 hy_5 => ?_)
            obtain rfl : y_5 = nI ((6 * b) + 6) := hy_5.trans (nI_add (6 * b) 6)
            refine lv_icmp_lt (tgt := 75) hx hb dX4_sees_68 (by decide) (fun c_68 => ?_) (fun c_68 => ?_)
            · have c_68 : (vM w0) < ((6 * b) + 6) := (nI_ltI (a := (vM w0)) (b := ((6 * b) + 6)) (by omega) (by omega)).mp c_68
              refine lv_iconst (v := nI 0) hx hb dX4_sees_75 (by decide) ?_
              refine lv_istore (lv' := [(5, .int (nI 0)), (4, .int (nI 1)), (0, .ref q0), (1, .int (nI 0)), (2, .int (nI a)), (3, .int (nI b))]) hx hb dX4_sees_76 hl (by decide) rfl (fun ls hl => ?_)
              refine lv_iload hx hb dX4_sees_78 (lv_at hl 1 rfl) ?_
              refine lv_if_ne (tgt := 88) hx hb dX4_sees_80 (by decide) (fun c_80 => ?_) (fun c_80 => absurd c_80 (by decide))
              refine lv_aload_n hx hb dX4_sees_88 rfl (lv_at hl 2 rfl) ?_
              refine lv_iload_n hx hb dX4_sees_89 rfl (lv_at hl 4 rfl) ?_
              refine lv_iload_n hx hb dX4_sees_90 rfl (lv_at hl 5 rfl) ?_
              refine k_calli (fun _ => [kO q0 4 [.int (nI 0), .ref q1, .ref q2, .ref q3, .ref q4, .ref q5, .ref q6], kC G q1 8 (nR (peF w0 w1)), kC G q2 120 (nR (knF w0 w1)), kC G q3 120 (nR (plF w0 w1)), kC G q4 80 (nR ru), kC G q5 8 (nR bf), kC G q6 2 (nR (nuF ho un))]) [] (k_runV (As := [.int (nI a), .int (nI b)]) (rest := []) (wc := [kO q0 4 [.int (nI 0), .ref q1, .ref q2, .ref q3, .ref q4, .ref q5, .ref q6], kC G q1 8 (nR (peF w0 w1)), kC G q2 120 (nR (knF w0 w1)), kC G q3 120 (nR (plF w0 w1)), kC G q4 80 (nR ru), kC G q5 8 (nR bf), kC G q6 2 (nR (nuF ho un))]) ⟨hx, hb, hml, hown, hts⟩ (m_colour l G q0 q1 q2 q3 q4 q5 q6 w0 w1 bf ho un ru 0 a b ha hb9 h0 h1 hru) (cwV 2 hts gX4_sees_X4_colour rfl rfl rfl (by decide +kernel) ⟨Nat.le_of_ble_eq_true rfl, Nat.le_of_ble_eq_true rfl⟩) hK hZ hP hD hS hA [0, 1, 2, 3, 4, 5, 6] rfl rfl 0 4 rfl rfl rfl rfl hl.1 rfl (Nat.le_of_ble_eq_true rfl) dX4_sees_91 ⟨Nat.le_of_ble_eq_true rfl, Nat.le_of_ble_eq_true rfl⟩) hP hD hS hA [0, 1, 2, 3, 4, 5, 6] [] [0, 1, 2, 3, 4, 5, 6] rfl rfl rfl (by decide) (fun _ => rfl) rfl (fun r_91 u_91 H locs hp_91 hP hD hS => ?_)
              have hp_91 : r_91 = ktN w0 w1 a b := hp_91
              subst hp_91
              refine lv_goto (tgt := 99) hx hb dX4_sees_94 (by decide) ?_
              exact k_iret (ws := [kO q0 4 [.int (nI th), .ref q1, .ref q2, .ref q3, .ref q4, .ref q5, .ref q6], kC G q1 8 (nR (peF w0 w1)), kC G q2 120 (nR (knF w0 w1)), kC G q3 120 (nR (plF w0 w1)), kC G q4 80 (nR ru), kC G q5 8 (nR bf), kC G q6 2 (nR (nuF ho un))]) (()) hx hb hr hlocks hP hD hS hAe hQ (Nat.le_of_ble_eq_true rfl) (Nat.le_of_ble_eq_true rfl) dX4_sees_99 (by rw [cdA_0 ⟨hp_6, hp_14⟩]) (fun _ => (by rw [tj, ta, tb]; unfold aSees; rw [show gW (w0, w1, bf, ho, un) 0 = w0 from rfl, sdN_eq ha, if_pos (by omega)]))
            · have c_68 : ¬ ((vM w0) < ((6 * b) + 6)) := fun h9 => c_68 ((nI_ltI (a := (vM w0)) (b := ((6 * b) + 6)) (by omega) (by omega)).mpr h9)
              refine lv_iconst (v := nI 1) hx hb dX4_sees_71 (by decide) ?_
              refine lv_goto (tgt := 76) hx hb dX4_sees_72 (by decide) ?_
              refine lv_istore (lv' := [(5, .int (nI 1)), (4, .int (nI 1)), (0, .ref q0), (1, .int (nI 0)), (2, .int (nI a)), (3, .int (nI b))]) hx hb dX4_sees_76 hl (by decide) rfl (fun ls hl => ?_)
              refine lv_iload hx hb dX4_sees_78 (lv_at hl 1 rfl) ?_
              refine lv_if_ne (tgt := 88) hx hb dX4_sees_80 (by decide) (fun c_80 => ?_) (fun c_80 => absurd c_80 (by decide))
              refine lv_aload_n hx hb dX4_sees_88 rfl (lv_at hl 2 rfl) ?_
              refine lv_iload_n hx hb dX4_sees_89 rfl (lv_at hl 4 rfl) ?_
              refine lv_iload_n hx hb dX4_sees_90 rfl (lv_at hl 5 rfl) ?_
              refine k_calli (fun _ => [kO q0 4 [.int (nI 0), .ref q1, .ref q2, .ref q3, .ref q4, .ref q5, .ref q6], kC G q1 8 (nR (peF w0 w1)), kC G q2 120 (nR (knF w0 w1)), kC G q3 120 (nR (plF w0 w1)), kC G q4 80 (nR ru), kC G q5 8 (nR bf), kC G q6 2 (nR (nuF ho un))]) [] (k_runV (As := [.int (nI a), .int (nI b)]) (rest := []) (wc := [kO q0 4 [.int (nI 0), .ref q1, .ref q2, .ref q3, .ref q4, .ref q5, .ref q6], kC G q1 8 (nR (peF w0 w1)), kC G q2 120 (nR (knF w0 w1)), kC G q3 120 (nR (plF w0 w1)), kC G q4 80 (nR ru), kC G q5 8 (nR bf), kC G q6 2 (nR (nuF ho un))]) ⟨hx, hb, hml, hown, hts⟩ (m_colour l G q0 q1 q2 q3 q4 q5 q6 w0 w1 bf ho un ru 0 a b ha hb9 h0 h1 hru) (cwV 2 hts gX4_sees_X4_colour rfl rfl rfl (by decide +kernel) ⟨Nat.le_of_ble_eq_true rfl, Nat.le_of_ble_eq_true rfl⟩) hK hZ hP hD hS hA [0, 1, 2, 3, 4, 5, 6] rfl rfl 0 4 rfl rfl rfl rfl hl.1 rfl (Nat.le_of_ble_eq_true rfl) dX4_sees_91 ⟨Nat.le_of_ble_eq_true rfl, Nat.le_of_ble_eq_true rfl⟩) hP hD hS hA [0, 1, 2, 3, 4, 5, 6] [] [0, 1, 2, 3, 4, 5, 6] rfl rfl rfl (by decide) (fun _ => rfl) rfl (fun r_91 u_91 H locs hp_91 hP hD hS => ?_)
              have hp_91 : r_91 = ktN w0 w1 a b := hp_91
              subst hp_91
              refine lv_goto (tgt := 99) hx hb dX4_sees_94 (by decide) ?_
              exact k_iret (ws := [kO q0 4 [.int (nI th), .ref q1, .ref q2, .ref q3, .ref q4, .ref q5, .ref q6], kC G q1 8 (nR (peF w0 w1)), kC G q2 120 (nR (knF w0 w1)), kC G q3 120 (nR (plF w0 w1)), kC G q4 80 (nR ru), kC G q5 8 (nR bf), kC G q6 2 (nR (nuF ho un))]) (()) hx hb hr hlocks hP hD hS hAe hQ (Nat.le_of_ble_eq_true rfl) (Nat.le_of_ble_eq_true rfl) dX4_sees_99 (by rw [cdA_0 ⟨hp_6, hp_14⟩]) (fun _ => (by rw [tj, ta, tb]; unfold aSees; rw [show gW (w0, w1, bf, ho, un) 0 = w0 from rfl, sdN_eq ha, if_pos (by omega)]))
      · skip
        refine lv_iload_n hx hb dX4_sees_26 rfl (lv_at hl 2 rfl) ?_
        refine lv_bipush (v := nI 6) hx hb dX4_sees_27 (by decide) ?_
        refine lv_idiv hx hb dX4_sees_29 (by first | decide | (intro h; exact absurd ((nI_eq (by omega) (by omega)).mp h) (by omega))) ?_
        refine lv_topi (fun y_6 hy_6 => ?_)
        obtain rfl : y_6 = nI (a / 6) := hy_6.trans (pk_div (a := a) (d := 6) (by omega) (by omega) (by omega))
        refine lv_iload_n hx hb dX4_sees_30 rfl (lv_at hl 1 rfl) ?_
        refine lv_icmp_ne (tgt := 38) hx hb dX4_sees_31 (by decide) (fun c_31 => ?_) (fun c_31 => ?_)
        · have c_31 : ¬ ((a / 6) = 1) := fun h9 => c_31 ((nI_eq (a := (a / 6)) (b := 1) (by omega) (by omega)).mpr h9)
          refine lv_iconst (v := nI 0) hx hb dX4_sees_38 (by decide) ?_
          refine lv_istore (lv' := [(4, .int (nI 0)), (0, .ref q0), (1, .int (nI 1)), (2, .int (nI a)), (3, .int (nI b))]) hx hb dX4_sees_39 hl (by decide) rfl (fun ls hl => ?_)
          refine lv_iload_n hx hb dX4_sees_41 rfl (lv_at hl 3 rfl) ?_
          refine lv_iload_n hx hb dX4_sees_42 rfl (lv_at hl 2 rfl) ?_
          refine lv_if_ne (tgt := 51) hx hb dX4_sees_43 (by decide) (fun c_43 => ?_) (fun c_43 => absurd c_43 (by decide))
          refine lv_iconst (v := nI 5) hx hb dX4_sees_51 (by decide) ?_
          refine lv_icmp_ne (tgt := 75) hx hb dX4_sees_52 (by decide) (fun c_52 => ?_) (fun c_52 => ?_)
          · have c_52 : ¬ (a = 5) := fun h9 => c_52 ((nI_eq (a := a) (b := 5) (by omega) (by omega)).mpr h9)
            refine lv_iconst (v := nI 0) hx hb dX4_sees_75 (by decide) ?_
            refine lv_istore (lv' := [(5, .int (nI 0)), (4, .int (nI 0)), (0, .ref q0), (1, .int (nI 1)), (2, .int (nI a)), (3, .int (nI b))]) hx hb dX4_sees_76 hl (by decide) rfl (fun ls hl => ?_)
            refine lv_iload hx hb dX4_sees_78 (lv_at hl 1 rfl) ?_
            refine lv_if_ne (tgt := 88) hx hb dX4_sees_80 (by decide) (fun c_80 => absurd c_80 (by decide)) (fun c_80 => ?_)
            refine lv_iload hx hb dX4_sees_83 (lv_at hl 0 rfl) ?_
            refine lv_if_eq (tgt := 97) hx hb dX4_sees_85 (by decide) (fun c_85 => ?_) (fun c_85 => absurd c_85 (by decide))
            refine lv_bipush (v := (-2)) hx hb dX4_sees_97 (by decide) ?_
            exact k_iret (ws := [kO q0 4 [.int (nI th), .ref q1, .ref q2, .ref q3, .ref q4, .ref q5, .ref q6], kC G q1 8 (nR (peF w0 w1)), kC G q2 120 (nR (knF w0 w1)), kC G q3 120 (nR (plF w0 w1)), kC G q4 80 (nR ru), kC G q5 8 (nR bf), kC G q6 2 (nR (nuF ho un))]) (()) hx hb hr hlocks hP hD hS hAe hQ (Nat.le_of_ble_eq_true rfl) (Nat.le_of_ble_eq_true rfl) dX4_sees_99 (by rw [cdA_0 ⟨hp_6, hp_14⟩]) (fun _ => (by rw [tj, ta, tb]; unfold aSees; rw [show gW (w0, w1, bf, ho, un) 1 = w1 from rfl, sdN_eq ha, if_neg (by omega)]))
          · have c_52 : a = 5 := (nI_eq (a := a) (b := 5) (by omega) (by omega)).mp c_52
            refine lv_aload_n hx hb dX4_sees_55 rfl (lv_at hl 1 rfl) ?_
            refine lv_iload_n hx hb dX4_sees_56 rfl (lv_at hl 2 rfl) ?_
            refine lv_iconst (v := nI 1) hx hb dX4_sees_57 (by decide) ?_
            refine k_calli (fun _ => [kO q0 4 [.int (nI 0), .ref q1, .ref q2, .ref q3, .ref q4, .ref q5, .ref q6], kC G q1 8 (nR (peF w0 w1)), kC G q2 120 (nR (knF w0 w1)), kC G q3 120 (nR (plF w0 w1)), kC G q4 80 (nR ru), kC G q5 8 (nR bf), kC G q6 2 (nR (nuF ho un))]) [kC G q2 120 (nR (knF w0 w1)), kC G q3 120 (nR (plF w0 w1)), kC G q4 80 (nR ru), kC G q5 8 (nR bf), kC G q6 2 (nR (nuF ho un))] (k_runV (As := [.int (nI 1), .int (nI 1)]) (rest := []) (wc := [kO q0 4 [.int (nI 0), .ref q1, .ref q2, .ref q3, .ref q4, .ref q5, .ref q6], kC G q1 8 (nR (peF w0 w1))]) ⟨hx, hb, hml, hown, hts⟩ (m_pe l G q0 q1 q2 q3 q4 q5 q6 0 (peF w0 w1) 1 1 (by decide) (by decide)) (cwV 2 hts gX4_sees_X4_pe rfl rfl rfl (by decide +kernel) ⟨Nat.le_of_ble_eq_true rfl, Nat.le_of_ble_eq_true rfl⟩) hK hZ hP hD hS hA [0, 1] rfl rfl 0 4 rfl rfl rfl rfl hl.1 rfl (Nat.le_of_ble_eq_true rfl) dX4_sees_58 ⟨Nat.le_of_ble_eq_true rfl, Nat.le_of_ble_eq_true rfl⟩) hP hD hS hA [0, 1] [2, 3, 4, 5, 6] [5, 6, 0, 1, 2, 3, 4] rfl rfl rfl (by decide) (fun _ => rfl) rfl (fun r_58 u_58 H locs hp_58 hP hD hS => ?_)
            have hp_58 : r_58 = nI (vM w1) := hp_58
            subst hp_58
            refine lv_bipush (v := nI 6) hx hb dX4_sees_61 (by decide) ?_
            refine lv_iload_n hx hb dX4_sees_63 rfl (lv_at hl 4 rfl) ?_
            refine lv_imul hx hb dX4_sees_64 ?_
            refine lv_topi (fun y_7 hy_7 => ?_)
            obtain rfl : y_7 = nI (6 * b) := hy_7.trans (pk_mul 6 b)
            refine lv_bipush (v := nI 6) hx hb dX4_sees_65 (by decide) ?_
            refine lv_iadd hx hb dX4_sees_67 ?_
            refine lv_topi (fun y_8 hy_8 => ?_)
            obtain rfl : y_8 = nI ((6 * b) + 6) := hy_8.trans (nI_add (6 * b) 6)
            refine lv_icmp_lt (tgt := 75) hx hb dX4_sees_68 (by decide) (fun c_68 => ?_) (fun c_68 => ?_)
            · have c_68 : (vM w1) < ((6 * b) + 6) := (nI_ltI (a := (vM w1)) (b := ((6 * b) + 6)) (by omega) (by omega)).mp c_68
              refine lv_iconst (v := nI 0) hx hb dX4_sees_75 (by decide) ?_
              refine lv_istore (lv' := [(5, .int (nI 0)), (4, .int (nI 0)), (0, .ref q0), (1, .int (nI 1)), (2, .int (nI a)), (3, .int (nI b))]) hx hb dX4_sees_76 hl (by decide) rfl (fun ls hl => ?_)
              refine lv_iload hx hb dX4_sees_78 (lv_at hl 1 rfl) ?_
              refine lv_if_ne (tgt := 88) hx hb dX4_sees_80 (by decide) (fun c_80 => absurd c_80 (by decide)) (fun c_80 => ?_)
              refine lv_iload hx hb dX4_sees_83 (lv_at hl 0 rfl) ?_
              refine lv_if_eq (tgt := 97) hx hb dX4_sees_85 (by decide) (fun c_85 => ?_) (fun c_85 => absurd c_85 (by decide))
              refine lv_bipush (v := (-2)) hx hb dX4_sees_97 (by decide) ?_
              exact k_iret (ws := [kO q0 4 [.int (nI th), .ref q1, .ref q2, .ref q3, .ref q4, .ref q5, .ref q6], kC G q1 8 (nR (peF w0 w1)), kC G q2 120 (nR (knF w0 w1)), kC G q3 120 (nR (plF w0 w1)), kC G q4 80 (nR ru), kC G q5 8 (nR bf), kC G q6 2 (nR (nuF ho un))]) (()) hx hb hr hlocks hP hD hS hAe hQ (Nat.le_of_ble_eq_true rfl) (Nat.le_of_ble_eq_true rfl) dX4_sees_99 (by rw [cdA_0 ⟨hp_6, hp_14⟩]) (fun _ => (by rw [tj, ta, tb]; unfold aSees; rw [show gW (w0, w1, bf, ho, un) 1 = w1 from rfl, sdN_eq ha, if_neg (by omega)]))
            · have c_68 : ¬ ((vM w1) < ((6 * b) + 6)) := fun h9 => c_68 ((nI_ltI (a := (vM w1)) (b := ((6 * b) + 6)) (by omega) (by omega)).mpr h9)
              refine lv_iconst (v := nI 1) hx hb dX4_sees_71 (by decide) ?_
              refine lv_goto (tgt := 76) hx hb dX4_sees_72 (by decide) ?_
              refine lv_istore (lv' := [(5, .int (nI 1)), (4, .int (nI 0)), (0, .ref q0), (1, .int (nI 1)), (2, .int (nI a)), (3, .int (nI b))]) hx hb dX4_sees_76 hl (by decide) rfl (fun ls hl => ?_)
              refine lv_iload hx hb dX4_sees_78 (lv_at hl 1 rfl) ?_
              refine lv_if_ne (tgt := 88) hx hb dX4_sees_80 (by decide) (fun c_80 => absurd c_80 (by decide)) (fun c_80 => ?_)
              refine lv_iload hx hb dX4_sees_83 (lv_at hl 0 rfl) ?_
              refine lv_if_eq (tgt := 97) hx hb dX4_sees_85 (by decide) (fun c_85 => absurd c_85 (by decide)) (fun c_85 => ?_)
              refine lv_aload_n hx hb dX4_sees_88 rfl (lv_at hl 2 rfl) ?_
              refine lv_iload_n hx hb dX4_sees_89 rfl (lv_at hl 4 rfl) ?_
              refine lv_iload_n hx hb dX4_sees_90 rfl (lv_at hl 5 rfl) ?_
              refine k_calli (fun _ => [kO q0 4 [.int (nI 0), .ref q1, .ref q2, .ref q3, .ref q4, .ref q5, .ref q6], kC G q1 8 (nR (peF w0 w1)), kC G q2 120 (nR (knF w0 w1)), kC G q3 120 (nR (plF w0 w1)), kC G q4 80 (nR ru), kC G q5 8 (nR bf), kC G q6 2 (nR (nuF ho un))]) [] (k_runV (As := [.int (nI a), .int (nI b)]) (rest := []) (wc := [kO q0 4 [.int (nI 0), .ref q1, .ref q2, .ref q3, .ref q4, .ref q5, .ref q6], kC G q1 8 (nR (peF w0 w1)), kC G q2 120 (nR (knF w0 w1)), kC G q3 120 (nR (plF w0 w1)), kC G q4 80 (nR ru), kC G q5 8 (nR bf), kC G q6 2 (nR (nuF ho un))]) ⟨hx, hb, hml, hown, hts⟩ (m_colour l G q0 q1 q2 q3 q4 q5 q6 w0 w1 bf ho un ru 0 a b ha hb9 h0 h1 hru) (cwV 2 hts gX4_sees_X4_colour rfl rfl rfl (by decide +kernel) ⟨Nat.le_of_ble_eq_true rfl, Nat.le_of_ble_eq_true rfl⟩) hK hZ hP hD hS hA [0, 1, 2, 3, 4, 5, 6] rfl rfl 0 4 rfl rfl rfl rfl hl.1 rfl (Nat.le_of_ble_eq_true rfl) dX4_sees_91 ⟨Nat.le_of_ble_eq_true rfl, Nat.le_of_ble_eq_true rfl⟩) hP hD hS hA [0, 1, 2, 3, 4, 5, 6] [] [0, 1, 2, 3, 4, 5, 6] rfl rfl rfl (by decide) (fun _ => rfl) rfl (fun r_91 u_91 H locs hp_91 hP hD hS => ?_)
              have hp_91 : r_91 = ktN w0 w1 a b := hp_91
              subst hp_91
              refine lv_goto (tgt := 99) hx hb dX4_sees_94 (by decide) ?_
              exact k_iret (ws := [kO q0 4 [.int (nI th), .ref q1, .ref q2, .ref q3, .ref q4, .ref q5, .ref q6], kC G q1 8 (nR (peF w0 w1)), kC G q2 120 (nR (knF w0 w1)), kC G q3 120 (nR (plF w0 w1)), kC G q4 80 (nR ru), kC G q5 8 (nR bf), kC G q6 2 (nR (nuF ho un))]) (()) hx hb hr hlocks hP hD hS hAe hQ (Nat.le_of_ble_eq_true rfl) (Nat.le_of_ble_eq_true rfl) dX4_sees_99 (by rw [cdA_0 ⟨hp_6, hp_14⟩]) (fun _ => (by rw [tj, ta, tb]; unfold aSees; rw [show gW (w0, w1, bf, ho, un) 1 = w1 from rfl, sdN_eq ha, if_pos (by omega)]))
        · have c_31 : (a / 6) = 1 := (nI_eq (a := (a / 6)) (b := 1) (by omega) (by omega)).mp c_31
          refine lv_iconst (v := nI 1) hx hb dX4_sees_34 (by decide) ?_
          refine lv_goto (tgt := 39) hx hb dX4_sees_35 (by decide) ?_
          refine lv_istore (lv' := [(4, .int (nI 1)), (0, .ref q0), (1, .int (nI 1)), (2, .int (nI a)), (3, .int (nI b))]) hx hb dX4_sees_39 hl (by decide) rfl (fun ls hl => ?_)
          refine lv_iload_n hx hb dX4_sees_41 rfl (lv_at hl 3 rfl) ?_
          refine lv_iload_n hx hb dX4_sees_42 rfl (lv_at hl 2 rfl) ?_
          refine lv_if_ne (tgt := 51) hx hb dX4_sees_43 (by decide) (fun c_43 => ?_) (fun c_43 => absurd c_43 (by decide))
          refine lv_iconst (v := nI 5) hx hb dX4_sees_51 (by decide) ?_
          refine lv_icmp_ne (tgt := 75) hx hb dX4_sees_52 (by decide) (fun c_52 => ?_) (fun c_52 => ?_)
          · have c_52 : ¬ (a = 5) := fun h9 => c_52 ((nI_eq (a := a) (b := 5) (by omega) (by omega)).mpr h9)
            refine lv_iconst (v := nI 0) hx hb dX4_sees_75 (by decide) ?_
            refine lv_istore (lv' := [(5, .int (nI 0)), (4, .int (nI 1)), (0, .ref q0), (1, .int (nI 1)), (2, .int (nI a)), (3, .int (nI b))]) hx hb dX4_sees_76 hl (by decide) rfl (fun ls hl => ?_)
            refine lv_iload hx hb dX4_sees_78 (lv_at hl 1 rfl) ?_
            refine lv_if_ne (tgt := 88) hx hb dX4_sees_80 (by decide) (fun c_80 => ?_) (fun c_80 => absurd c_80 (by decide))
            refine lv_aload_n hx hb dX4_sees_88 rfl (lv_at hl 2 rfl) ?_
            refine lv_iload_n hx hb dX4_sees_89 rfl (lv_at hl 4 rfl) ?_
            refine lv_iload_n hx hb dX4_sees_90 rfl (lv_at hl 5 rfl) ?_
            refine k_calli (fun _ => [kO q0 4 [.int (nI 0), .ref q1, .ref q2, .ref q3, .ref q4, .ref q5, .ref q6], kC G q1 8 (nR (peF w0 w1)), kC G q2 120 (nR (knF w0 w1)), kC G q3 120 (nR (plF w0 w1)), kC G q4 80 (nR ru), kC G q5 8 (nR bf), kC G q6 2 (nR (nuF ho un))]) [] (k_runV (As := [.int (nI a), .int (nI b)]) (rest := []) (wc := [kO q0 4 [.int (nI 0), .ref q1, .ref q2, .ref q3, .ref q4, .ref q5, .ref q6], kC G q1 8 (nR (peF w0 w1)), kC G q2 120 (nR (knF w0 w1)), kC G q3 120 (nR (plF w0 w1)), kC G q4 80 (nR ru), kC G q5 8 (nR bf), kC G q6 2 (nR (nuF ho un))]) ⟨hx, hb, hml, hown, hts⟩ (m_colour l G q0 q1 q2 q3 q4 q5 q6 w0 w1 bf ho un ru 0 a b ha hb9 h0 h1 hru) (cwV 2 hts gX4_sees_X4_colour rfl rfl rfl (by decide +kernel) ⟨Nat.le_of_ble_eq_true rfl, Nat.le_of_ble_eq_true rfl⟩) hK hZ hP hD hS hA [0, 1, 2, 3, 4, 5, 6] rfl rfl 0 4 rfl rfl rfl rfl hl.1 rfl (Nat.le_of_ble_eq_true rfl) dX4_sees_91 ⟨Nat.le_of_ble_eq_true rfl, Nat.le_of_ble_eq_true rfl⟩) hP hD hS hA [0, 1, 2, 3, 4, 5, 6] [] [0, 1, 2, 3, 4, 5, 6] rfl rfl rfl (by decide) (fun _ => rfl) rfl (fun r_91 u_91 H locs hp_91 hP hD hS => ?_)
            have hp_91 : r_91 = ktN w0 w1 a b := hp_91
            subst hp_91
            refine lv_goto (tgt := 99) hx hb dX4_sees_94 (by decide) ?_
            exact k_iret (ws := [kO q0 4 [.int (nI th), .ref q1, .ref q2, .ref q3, .ref q4, .ref q5, .ref q6], kC G q1 8 (nR (peF w0 w1)), kC G q2 120 (nR (knF w0 w1)), kC G q3 120 (nR (plF w0 w1)), kC G q4 80 (nR ru), kC G q5 8 (nR bf), kC G q6 2 (nR (nuF ho un))]) (()) hx hb hr hlocks hP hD hS hAe hQ (Nat.le_of_ble_eq_true rfl) (Nat.le_of_ble_eq_true rfl) dX4_sees_99 (by rw [cdA_0 ⟨hp_6, hp_14⟩]) (fun _ => (by rw [tj, ta, tb]; unfold aSees; rw [show gW (w0, w1, bf, ho, un) 1 = w1 from rfl, sdN_eq ha, if_pos (by omega)]))
          · have c_52 : a = 5 := (nI_eq (a := a) (b := 5) (by omega) (by omega)).mp c_52
            refine lv_aload_n hx hb dX4_sees_55 rfl (lv_at hl 1 rfl) ?_
            refine lv_iload_n hx hb dX4_sees_56 rfl (lv_at hl 2 rfl) ?_
            refine lv_iconst (v := nI 1) hx hb dX4_sees_57 (by decide) ?_
            refine k_calli (fun _ => [kO q0 4 [.int (nI 0), .ref q1, .ref q2, .ref q3, .ref q4, .ref q5, .ref q6], kC G q1 8 (nR (peF w0 w1)), kC G q2 120 (nR (knF w0 w1)), kC G q3 120 (nR (plF w0 w1)), kC G q4 80 (nR ru), kC G q5 8 (nR bf), kC G q6 2 (nR (nuF ho un))]) [kC G q2 120 (nR (knF w0 w1)), kC G q3 120 (nR (plF w0 w1)), kC G q4 80 (nR ru), kC G q5 8 (nR bf), kC G q6 2 (nR (nuF ho un))] (k_runV (As := [.int (nI 1), .int (nI 1)]) (rest := []) (wc := [kO q0 4 [.int (nI 0), .ref q1, .ref q2, .ref q3, .ref q4, .ref q5, .ref q6], kC G q1 8 (nR (peF w0 w1))]) ⟨hx, hb, hml, hown, hts⟩ (m_pe l G q0 q1 q2 q3 q4 q5 q6 0 (peF w0 w1) 1 1 (by decide) (by decide)) (cwV 2 hts gX4_sees_X4_pe rfl rfl rfl (by decide +kernel) ⟨Nat.le_of_ble_eq_true rfl, Nat.le_of_ble_eq_true rfl⟩) hK hZ hP hD hS hA [0, 1] rfl rfl 0 4 rfl rfl rfl rfl hl.1 rfl (Nat.le_of_ble_eq_true rfl) dX4_sees_58 ⟨Nat.le_of_ble_eq_true rfl, Nat.le_of_ble_eq_true rfl⟩) hP hD hS hA [0, 1] [2, 3, 4, 5, 6] [5, 6, 0, 1, 2, 3, 4] rfl rfl rfl (by decide) (fun _ => rfl) rfl (fun r_58 u_58 H locs hp_58 hP hD hS => ?_)
            have hp_58 : r_58 = nI (vM w1) := hp_58
            subst hp_58
            refine lv_bipush (v := nI 6) hx hb dX4_sees_61 (by decide) ?_
            refine lv_iload_n hx hb dX4_sees_63 rfl (lv_at hl 4 rfl) ?_
            refine lv_imul hx hb dX4_sees_64 ?_
            refine lv_topi (fun y_9 hy_9 => ?_)
            obtain rfl : y_9 = nI (6 * b) := hy_9.trans (pk_mul 6 b)
            refine lv_bipush (v := nI 6) hx hb dX4_sees_65 (by decide) ?_
            refine lv_iadd hx hb dX4_sees_67 ?_
            refine lv_topi (fun y_10 hy_10 => ?_)
            obtain rfl : y_10 = nI ((6 * b) + 6) := hy_10.trans (nI_add (6 * b) 6)
            refine lv_icmp_lt (tgt := 75) hx hb dX4_sees_68 (by decide) (fun c_68 => ?_) (fun c_68 => ?_)
            · have c_68 : (vM w1) < ((6 * b) + 6) := (nI_ltI (a := (vM w1)) (b := ((6 * b) + 6)) (by omega) (by omega)).mp c_68
              refine lv_iconst (v := nI 0) hx hb dX4_sees_75 (by decide) ?_
              refine lv_istore (lv' := [(5, .int (nI 0)), (4, .int (nI 1)), (0, .ref q0), (1, .int (nI 1)), (2, .int (nI a)), (3, .int (nI b))]) hx hb dX4_sees_76 hl (by decide) rfl (fun ls hl => ?_)
              refine lv_iload hx hb dX4_sees_78 (lv_at hl 1 rfl) ?_
              refine lv_if_ne (tgt := 88) hx hb dX4_sees_80 (by decide) (fun c_80 => ?_) (fun c_80 => absurd c_80 (by decide))
              refine lv_aload_n hx hb dX4_sees_88 rfl (lv_at hl 2 rfl) ?_
              refine lv_iload_n hx hb dX4_sees_89 rfl (lv_at hl 4 rfl) ?_
              refine lv_iload_n hx hb dX4_sees_90 rfl (lv_at hl 5 rfl) ?_
              refine k_calli (fun _ => [kO q0 4 [.int (nI 0), .ref q1, .ref q2, .ref q3, .ref q4, .ref q5, .ref q6], kC G q1 8 (nR (peF w0 w1)), kC G q2 120 (nR (knF w0 w1)), kC G q3 120 (nR (plF w0 w1)), kC G q4 80 (nR ru), kC G q5 8 (nR bf), kC G q6 2 (nR (nuF ho un))]) [] (k_runV (As := [.int (nI a), .int (nI b)]) (rest := []) (wc := [kO q0 4 [.int (nI 0), .ref q1, .ref q2, .ref q3, .ref q4, .ref q5, .ref q6], kC G q1 8 (nR (peF w0 w1)), kC G q2 120 (nR (knF w0 w1)), kC G q3 120 (nR (plF w0 w1)), kC G q4 80 (nR ru), kC G q5 8 (nR bf), kC G q6 2 (nR (nuF ho un))]) ⟨hx, hb, hml, hown, hts⟩ (m_colour l G q0 q1 q2 q3 q4 q5 q6 w0 w1 bf ho un ru 0 a b ha hb9 h0 h1 hru) (cwV 2 hts gX4_sees_X4_colour rfl rfl rfl (by decide +kernel) ⟨Nat.le_of_ble_eq_true rfl, Nat.le_of_ble_eq_true rfl⟩) hK hZ hP hD hS hA [0, 1, 2, 3, 4, 5, 6] rfl rfl 0 4 rfl rfl rfl rfl hl.1 rfl (Nat.le_of_ble_eq_true rfl) dX4_sees_91 ⟨Nat.le_of_ble_eq_true rfl, Nat.le_of_ble_eq_true rfl⟩) hP hD hS hA [0, 1, 2, 3, 4, 5, 6] [] [0, 1, 2, 3, 4, 5, 6] rfl rfl rfl (by decide) (fun _ => rfl) rfl (fun r_91 u_91 H locs hp_91 hP hD hS => ?_)
              have hp_91 : r_91 = ktN w0 w1 a b := hp_91
              subst hp_91
              refine lv_goto (tgt := 99) hx hb dX4_sees_94 (by decide) ?_
              exact k_iret (ws := [kO q0 4 [.int (nI th), .ref q1, .ref q2, .ref q3, .ref q4, .ref q5, .ref q6], kC G q1 8 (nR (peF w0 w1)), kC G q2 120 (nR (knF w0 w1)), kC G q3 120 (nR (plF w0 w1)), kC G q4 80 (nR ru), kC G q5 8 (nR bf), kC G q6 2 (nR (nuF ho un))]) (()) hx hb hr hlocks hP hD hS hAe hQ (Nat.le_of_ble_eq_true rfl) (Nat.le_of_ble_eq_true rfl) dX4_sees_99 (by rw [cdA_0 ⟨hp_6, hp_14⟩]) (fun _ => (by rw [tj, ta, tb]; unfold aSees; rw [show gW (w0, w1, bf, ho, un) 1 = w1 from rfl, sdN_eq ha, if_pos (by omega)]))
            · have c_68 : ¬ ((vM w1) < ((6 * b) + 6)) := fun h9 => c_68 ((nI_ltI (a := (vM w1)) (b := ((6 * b) + 6)) (by omega) (by omega)).mpr h9)
              refine lv_iconst (v := nI 1) hx hb dX4_sees_71 (by decide) ?_
              refine lv_goto (tgt := 76) hx hb dX4_sees_72 (by decide) ?_
              refine lv_istore (lv' := [(5, .int (nI 1)), (4, .int (nI 1)), (0, .ref q0), (1, .int (nI 1)), (2, .int (nI a)), (3, .int (nI b))]) hx hb dX4_sees_76 hl (by decide) rfl (fun ls hl => ?_)
              refine lv_iload hx hb dX4_sees_78 (lv_at hl 1 rfl) ?_
              refine lv_if_ne (tgt := 88) hx hb dX4_sees_80 (by decide) (fun c_80 => ?_) (fun c_80 => absurd c_80 (by decide))
              refine lv_aload_n hx hb dX4_sees_88 rfl (lv_at hl 2 rfl) ?_
              refine lv_iload_n hx hb dX4_sees_89 rfl (lv_at hl 4 rfl) ?_
              refine lv_iload_n hx hb dX4_sees_90 rfl (lv_at hl 5 rfl) ?_
              refine k_calli (fun _ => [kO q0 4 [.int (nI 0), .ref q1, .ref q2, .ref q3, .ref q4, .ref q5, .ref q6], kC G q1 8 (nR (peF w0 w1)), kC G q2 120 (nR (knF w0 w1)), kC G q3 120 (nR (plF w0 w1)), kC G q4 80 (nR ru), kC G q5 8 (nR bf), kC G q6 2 (nR (nuF ho un))]) [] (k_runV (As := [.int (nI a), .int (nI b)]) (rest := []) (wc := [kO q0 4 [.int (nI 0), .ref q1, .ref q2, .ref q3, .ref q4, .ref q5, .ref q6], kC G q1 8 (nR (peF w0 w1)), kC G q2 120 (nR (knF w0 w1)), kC G q3 120 (nR (plF w0 w1)), kC G q4 80 (nR ru), kC G q5 8 (nR bf), kC G q6 2 (nR (nuF ho un))]) ⟨hx, hb, hml, hown, hts⟩ (m_colour l G q0 q1 q2 q3 q4 q5 q6 w0 w1 bf ho un ru 0 a b ha hb9 h0 h1 hru) (cwV 2 hts gX4_sees_X4_colour rfl rfl rfl (by decide +kernel) ⟨Nat.le_of_ble_eq_true rfl, Nat.le_of_ble_eq_true rfl⟩) hK hZ hP hD hS hA [0, 1, 2, 3, 4, 5, 6] rfl rfl 0 4 rfl rfl rfl rfl hl.1 rfl (Nat.le_of_ble_eq_true rfl) dX4_sees_91 ⟨Nat.le_of_ble_eq_true rfl, Nat.le_of_ble_eq_true rfl⟩) hP hD hS hA [0, 1, 2, 3, 4, 5, 6] [] [0, 1, 2, 3, 4, 5, 6] rfl rfl rfl (by decide) (fun _ => rfl) rfl (fun r_91 u_91 H locs hp_91 hP hD hS => ?_)
              have hp_91 : r_91 = ktN w0 w1 a b := hp_91
              subst hp_91
              refine lv_goto (tgt := 99) hx hb dX4_sees_94 (by decide) ?_
              exact k_iret (ws := [kO q0 4 [.int (nI th), .ref q1, .ref q2, .ref q3, .ref q4, .ref q5, .ref q6], kC G q1 8 (nR (peF w0 w1)), kC G q2 120 (nR (knF w0 w1)), kC G q3 120 (nR (plF w0 w1)), kC G q4 80 (nR ru), kC G q5 8 (nR bf), kC G q6 2 (nR (nuF ho un))]) (()) hx hb hr hlocks hP hD hS hAe hQ (Nat.le_of_ble_eq_true rfl) (Nat.le_of_ble_eq_true rfl) dX4_sees_99 (by rw [cdA_0 ⟨hp_6, hp_14⟩]) (fun _ => (by rw [tj, ta, tb]; unfold aSees; rw [show gW (w0, w1, bf, ho, un) 1 = w1 from rfl, sdN_eq ha, if_pos (by omega)]))
    · refine lv_if_ne (tgt := 26) hx hb dX4_sees_17 (by decide) (fun c_17 => absurd c_17 (by decide)) (fun c_17 => ?_)
      refine lv_aload_n hx hb dX4_sees_20 rfl (lv_at hl 0 rfl) ?_
      refine lv_iconst (v := nI 1) hx hb dX4_sees_21 (by decide) ?_
      refine k_calli (fun _ => [kO q0 4 [.int (nI 1), .ref q1, .ref q2, .ref q3, .ref q4, .ref q5, .ref q6], kC G q1 8 (nR (peF w0 w1)), kC G q2 120 (nR (knF w0 w1)), kC G q3 120 (nR (plF w0 w1)), kC G q4 80 (nR ru), kC G q5 8 (nR bf), kC G q6 2 (nR (nuF ho un))]) [kC G q1 8 (nR (peF w0 w1)), kC G q2 120 (nR (knF w0 w1)), kC G q3 120 (nR (plF w0 w1)), kC G q4 80 (nR ru), kC G q5 8 (nR bf), kC G q6 2 (nR (nuF ho un))] (k_runV (As := [.int (nI 1)]) (rest := []) (wc := [kO q0 4 [.int (nI 0), .ref q1, .ref q2, .ref q3, .ref q4, .ref q5, .ref q6]]) ⟨hx, hb, hml, hown, hts⟩ (m_fail l G q0 q1 q2 q3 q4 q5 q6 0 1 ) (cwV 1 hts gX4_sees_X4_fail rfl rfl rfl (by decide +kernel) ⟨Nat.le_of_ble_eq_true rfl, Nat.le_of_ble_eq_true rfl⟩) hK hZ hP hD hS hA [0] rfl rfl 0 4 rfl rfl rfl rfl hl.1 rfl (Nat.le_of_ble_eq_true rfl) dX4_sees_22 ⟨Nat.le_of_ble_eq_true rfl, Nat.le_of_ble_eq_true rfl⟩) hP hD hS hA [0] [1, 2, 3, 4, 5, 6] [6, 0, 1, 2, 3, 4, 5] rfl rfl rfl (by decide) (fun _ => rfl) rfl (fun r_22 u_22 H locs hp_22 hP hD hS => ?_)
      have hp_22 : r_22 = nI 0 := hp_22
      subst hp_22
      exact k_iret (ws := [kO q0 4 [.int (nI th), .ref q1, .ref q2, .ref q3, .ref q4, .ref q5, .ref q6], kC G q1 8 (nR (peF w0 w1)), kC G q2 120 (nR (knF w0 w1)), kC G q3 120 (nR (plF w0 w1)), kC G q4 80 (nR ru), kC G q5 8 (nR bf), kC G q6 2 (nR (nuF ho un))]) (()) hx hb hr hlocks hP hD hS hAe hQ (Nat.le_of_ble_eq_true rfl) (Nat.le_of_ble_eq_true rfl) dX4_sees_25 (by first | (rw [cdA_1 (fun q => hp_14 q.2)]; done) | (rw [cdA_1 (fun q => hp_6 q.1)]; done)) (by first | exact fun q => absurd ((cdA_1 (fun q => hp_14 q.2)).symm.trans q) (by decide) | exact fun q => absurd ((cdA_1 (fun q => hp_6 q.1)).symm.trans q) (by decide))
  · refine lv_if_eq (tgt := 20) hx hb dX4_sees_9 (by decide) (fun c_9 => ?_) (fun c_9 => absurd c_9 (by decide))
    refine lv_aload_n hx hb dX4_sees_20 rfl (lv_at hl 0 rfl) ?_
    refine lv_iconst (v := nI 1) hx hb dX4_sees_21 (by decide) ?_
    refine k_calli (fun _ => [kO q0 4 [.int (nI 1), .ref q1, .ref q2, .ref q3, .ref q4, .ref q5, .ref q6], kC G q1 8 (nR (peF w0 w1)), kC G q2 120 (nR (knF w0 w1)), kC G q3 120 (nR (plF w0 w1)), kC G q4 80 (nR ru), kC G q5 8 (nR bf), kC G q6 2 (nR (nuF ho un))]) [kC G q1 8 (nR (peF w0 w1)), kC G q2 120 (nR (knF w0 w1)), kC G q3 120 (nR (plF w0 w1)), kC G q4 80 (nR ru), kC G q5 8 (nR bf), kC G q6 2 (nR (nuF ho un))] (k_runV (As := [.int (nI 1)]) (rest := []) (wc := [kO q0 4 [.int (nI 0), .ref q1, .ref q2, .ref q3, .ref q4, .ref q5, .ref q6]]) ⟨hx, hb, hml, hown, hts⟩ (m_fail l G q0 q1 q2 q3 q4 q5 q6 0 1 ) (cwV 1 hts gX4_sees_X4_fail rfl rfl rfl (by decide +kernel) ⟨Nat.le_of_ble_eq_true rfl, Nat.le_of_ble_eq_true rfl⟩) hK hZ hP hD hS hA [0] rfl rfl 0 4 rfl rfl rfl rfl hl.1 rfl (Nat.le_of_ble_eq_true rfl) dX4_sees_22 ⟨Nat.le_of_ble_eq_true rfl, Nat.le_of_ble_eq_true rfl⟩) hP hD hS hA [0] [1, 2, 3, 4, 5, 6] [6, 0, 1, 2, 3, 4, 5] rfl rfl rfl (by decide) (fun _ => rfl) rfl (fun r_22 u_22 H locs hp_22 hP hD hS => ?_)
    have hp_22 : r_22 = nI 0 := hp_22
    subst hp_22
    exact k_iret (ws := [kO q0 4 [.int (nI th), .ref q1, .ref q2, .ref q3, .ref q4, .ref q5, .ref q6], kC G q1 8 (nR (peF w0 w1)), kC G q2 120 (nR (knF w0 w1)), kC G q3 120 (nR (plF w0 w1)), kC G q4 80 (nR ru), kC G q5 8 (nR bf), kC G q6 2 (nR (nuF ho un))]) (()) hx hb hr hlocks hP hD hS hAe hQ (Nat.le_of_ble_eq_true rfl) (Nat.le_of_ble_eq_true rfl) dX4_sees_25 (by first | (rw [cdA_1 (fun q => hp_14 q.2)]; done) | (rw [cdA_1 (fun q => hp_6 q.1)]; done)) (by first | exact fun q => absurd ((cdA_1 (fun q => hp_14 q.2)).symm.trans q) (by decide) | exact fun q => absurd ((cdA_1 (fun q => hp_6 q.1)).symm.trans q) (by decide))
set_option maxHeartbeats 4000000 in
set_option maxRecDepth 100000 in
theorem m_weaver (l : Launch) (G : kG) (q0 : Nat) (q1 : Nat) (q2 : Nat) (q3 : Nat) (q4 : Nat) (q5 : Nat) (q6 : Nat) (w0 : Wv) (w1 : Wv) (bf : Nat → Nat) (ho : Nat) (un : Nat) (ru : Nat → Nat) (th : Nat) (x1 : Int32) (x2 : Int32) (h0 : wOk w0) (h1 : wOk w1) (hB : bOk bf) (hru : ruOk w0 w1 ru) : kM l G yX4_weaver wsX4_weaver ({ frames := 3, cells := 0, slots := 0, locals := 68 } : Room) [.ref q0, .int x1, .int x2] [kO q0 4 [.int (nI th), .ref q1, .ref q2, .ref q3, .ref q4, .ref q5, .ref q6], kC G q1 8 (nR (peF w0 w1)), kC G q2 120 (nR (knF w0 w1)), kC G q3 120 (nR (plF w0 w1)), kC G q4 80 (nR ru), kC G q5 8 (nR bf), kC G q6 2 (nR (nuF ho un))] (kQi G [kO q0 4 [.int (nI th), .ref q1, .ref q2, .ref q3, .ref q4, .ref q5, .ref q6], kC G q1 8 (nR (peF w0 w1)), kC G q2 120 (nR (knF w0 w1)), kC G q3 120 (nR (plF w0 w1)), kC G q4 80 (nR ru), kC G q5 8 (nR bf), kC G q6 2 (nR (nuF ho un))] (fun (r : Int32) (_ : Unit) => cdA (inR x1 2 ∧ inR x2 7) = 0 → r = wNumW (tN x1) (gW (w0, w1, bf, ho, un) (tN x1)) (tN x2)) (fun (_ : Unit) => [kO q0 4 [.int (nI (cdA (inR x1 2 ∧ inR x2 7))), .ref q1, .ref q2, .ref q3, .ref q4, .ref q5, .ref q6], kC G q1 8 (nR (peF w0 w1)), kC G q2 120 (nR (knF w0 w1)), kC G q3 120 (nR (plF w0 w1)), kC G q4 80 (nR ru), kC G q5 8 (nR bf), kC G q6 2 (nR (nuF ho un))])) := by
  refine k_ofW (cc := cX4_weaver) (maxL := 3) (rt := (some .int)) (by decide) rfl (Nat.le_of_ble_eq_true rfl) ?_
  intro p e s m args below meth c A ls Qs H locs hQ hAe hx hb hr hml hts hown hlocks hin hK hZ hP hD hS hA hl
  have hown : s.vm.findClass RX4 = some m.cls := hown
  have hl : lv_has ls 3 [(0, .ref q0), (1, .int x1), (2, .int x2)] := hl
  have m0b : vM w0 ≤ 60 := h0.2.2.2.1
  have m1b : vM w1 ≤ 60 := h1.2.2.2.1
  have t0b : vT w0 ≤ 20 := h0.2.2.1
  have t1b : vT w1 ≤ 20 := h1.2.2.1
  have pb0 : ∀ i, i < 60 → vP w0 i < 8 := h0.2.2.2.2.1
  have pb1 : ∀ i, i < 60 → vP w1 i < 8 := h1.2.2.2.2.1
  have kb0 : ∀ i, i < 60 → vK w0 i < 8 := h0.2.2.2.2.2.1
  have kb1 : ∀ i, i < 60 → vK w1 i < 8 := h1.2.2.2.2.2.1
  have rk0 := hru.1
  have rk1 := hru.2
  have hq_0 : ∀ w ∈ wsX40, w ∈ wsX4_weaver := by decide +kernel
  have hq_1 : (Cond.fieldLink RX4 28 "KnotRugsModel" "thrown" "I").before args s = true := hts _ (by decide +kernel)
  refine lv_aload_n hx hb dX4_weaver_0 rfl (lv_at hl 0 rfl) ?_
  refine lv_iconst (v := nI 0) hx hb dX4_weaver_1 (by decide) ?_
  refine va_put (D := G.1) (ci := 4) (v := .int (nI 0)) (ty := .int) (C := RX4) (T := TX4) (N := 7) hx hb hts hq_0 tyX4 tyX4_ok nmX4 hown hK.1 hP hD hS 0 rfl rfl 0 (by decide) hq_1 (fun _ h9 => h9) rfl (by decide +kernel) rfl rfl (Nat.le_of_ble_eq_true rfl) dX4_weaver_2 (fun H locs hP hD hS => ?_)
  have hP : va_P G.1 vwCl [kO q0 4 [.int (nI 0), .ref q1, .ref q2, .ref q3, .ref q4, .ref q5, .ref q6], kC G q1 8 (nR (peF w0 w1)), kC G q2 120 (nR (knF w0 w1)), kC G q3 120 (nR (plF w0 w1)), kC G q4 80 (nR ru), kC G q5 8 (nR bf), kC G q6 2 (nR (nuF ho un))] H := hP
  have hD : va_D A [kO q0 4 [.int (nI 0), .ref q1, .ref q2, .ref q3, .ref q4, .ref q5, .ref q6], kC G q1 8 (nR (peF w0 w1)), kC G q2 120 (nR (knF w0 w1)), kC G q3 120 (nR (plF w0 w1)), kC G q4 80 (nR ru), kC G q5 8 (nR bf), kC G q6 2 (nR (nuF ho un))] := hD
  refine lv_iload_n hx hb dX4_weaver_5 rfl (lv_at hl 1 rfl) ?_
  refine k_calli (fun u_6 => [kO q0 4 [.int (nI 0), .ref q1, .ref q2, .ref q3, .ref q4, .ref q5, .ref q6], kC G q1 8 (nR (peF w0 w1)), kC G q2 120 (nR (knF w0 w1)), kC G q3 120 (nR (plF w0 w1)), kC G q4 80 (nR ru), kC G q5 8 (nR bf), kC G q6 2 (nR (nuF ho un))]) [kO q0 4 [.int (nI 0), .ref q1, .ref q2, .ref q3, .ref q4, .ref q5, .ref q6], kC G q1 8 (nR (peF w0 w1)), kC G q2 120 (nR (knF w0 w1)), kC G q3 120 (nR (plF w0 w1)), kC G q4 80 (nR ru), kC G q5 8 (nR bf), kC G q6 2 (nR (nuF ho un))] (k_runS (As := [.int x1]) (rest := []) (wc := []) ⟨hx, hb, hml, hown, hts⟩ (m_isWeaver l G x1 ) (va_cwS 1 hts gX4_weaver_X4_isWeaver rfl rfl rfl (by decide +kernel) ⟨Nat.le_of_ble_eq_true rfl, Nat.le_of_ble_eq_true rfl⟩) hK hZ hP hD hS hA [] rfl rfl rfl hl.1 rfl (Nat.le_of_ble_eq_true rfl) dX4_weaver_6 ⟨Nat.le_of_ble_eq_true rfl, Nat.le_of_ble_eq_true rfl⟩) hP hD hS hA [] [0, 1, 2, 3, 4, 5, 6] [0, 1, 2, 3, 4, 5, 6] rfl rfl rfl (by decide) (fun _ => rfl) rfl (fun r_6 u_6 H locs hp_6 hP hD hS => ?_)
  rcases hp_6 with ⟨rfl, hp_6⟩ | ⟨rfl, hp_6⟩
  · refine lv_if_eq (tgt := 31) hx hb dX4_weaver_9 (by decide) (fun c_9 => absurd c_9 (by decide)) (fun c_9 => ?_)
    refine lv_iload_n hx hb dX4_weaver_12 rfl (lv_at hl 2 rfl) ?_
    refine lv_iconst (v := nI 0) hx hb dX4_weaver_13 (by decide) ?_
    refine lv_bipush (v := nI 6) hx hb dX4_weaver_14 (by decide) ?_
    refine k_calli (fun u_16 => [kO q0 4 [.int (nI 0), .ref q1, .ref q2, .ref q3, .ref q4, .ref q5, .ref q6], kC G q1 8 (nR (peF w0 w1)), kC G q2 120 (nR (knF w0 w1)), kC G q3 120 (nR (plF w0 w1)), kC G q4 80 (nR ru), kC G q5 8 (nR bf), kC G q6 2 (nR (nuF ho un))]) [kO q0 4 [.int (nI 0), .ref q1, .ref q2, .ref q3, .ref q4, .ref q5, .ref q6], kC G q1 8 (nR (peF w0 w1)), kC G q2 120 (nR (knF w0 w1)), kC G q3 120 (nR (plF w0 w1)), kC G q4 80 (nR ru), kC G q5 8 (nR bf), kC G q6 2 (nR (nuF ho un))] (k_runS (As := [.int x2, .int (nI 0), .int (nI 6)]) (rest := []) (wc := []) ⟨hx, hb, hml, hown, hts⟩ (m_isIn l G x2 (nI 0) (nI 6) ) (va_cwS 3 hts gX4_weaver_X4_isIn rfl rfl rfl (by decide +kernel) ⟨Nat.le_of_ble_eq_true rfl, Nat.le_of_ble_eq_true rfl⟩) hK hZ hP hD hS hA [] rfl rfl rfl hl.1 rfl (Nat.le_of_ble_eq_true rfl) dX4_weaver_16 ⟨Nat.le_of_ble_eq_true rfl, Nat.le_of_ble_eq_true rfl⟩) hP hD hS hA [] [0, 1, 2, 3, 4, 5, 6] [0, 1, 2, 3, 4, 5, 6] rfl rfl rfl (by decide) (fun _ => rfl) rfl (fun r_16 u_16 H locs hp_16 hP hD hS => ?_)
    rw [isIn_R (by decide)] at hp_16
    rcases hp_16 with ⟨rfl, hp_16⟩ | ⟨rfl, hp_16⟩
    · refine lv_if_eq (tgt := 31) hx hb dX4_weaver_19 (by decide) (fun c_19 => absurd c_19 (by decide)) (fun c_19 => ?_)
      obtain ⟨j, hj, ej⟩ := id hp_6
      subst ej
      have tj : tN (nI j) = j := tN_nI (by omega)
      obtain ⟨k, hk, ek⟩ := id hp_16
      subst ek
      have tk : tN (nI k) = k := tN_nI (by omega)
      rcases (show j = 0 ∨ j = 1 by omega) with rfl | rfl
      · skip
        refine lv_aload_n hx hb dX4_weaver_22 rfl (lv_at hl 0 rfl) ?_
        refine lv_iload_n hx hb dX4_weaver_23 rfl (lv_at hl 1 rfl) ?_
        refine lv_iload_n hx hb dX4_weaver_24 rfl (lv_at hl 2 rfl) ?_
        refine k_calli (fun _ => [kO q0 4 [.int (nI 0), .ref q1, .ref q2, .ref q3, .ref q4, .ref q5, .ref q6], kC G q1 8 (nR (peF w0 w1)), kC G q2 120 (nR (knF w0 w1)), kC G q3 120 (nR (plF w0 w1)), kC G q4 80 (nR ru), kC G q5 8 (nR bf), kC G q6 2 (nR (nuF ho un))]) [] (k_runV (As := [.int (nI 0), .int (nI k)]) (rest := []) (wc := [kO q0 4 [.int (nI 0), .ref q1, .ref q2, .ref q3, .ref q4, .ref q5, .ref q6], kC G q1 8 (nR (peF w0 w1)), kC G q2 120 (nR (knF w0 w1)), kC G q3 120 (nR (plF w0 w1)), kC G q4 80 (nR ru), kC G q5 8 (nR bf), kC G q6 2 (nR (nuF ho un))]) ⟨hx, hb, hml, hown, hts⟩ (m_weaverTold0 l G q0 q1 q2 q3 q4 q5 q6 w0 w1 bf ho un ru 0 k hk h0 h1 hru) (cwV 2 hts gX4_weaver_X4_weaverTold rfl rfl rfl (by decide +kernel) ⟨Nat.le_of_ble_eq_true rfl, Nat.le_of_ble_eq_true rfl⟩) hK hZ hP hD hS hA [0, 1, 2, 3, 4, 5, 6] rfl rfl 0 4 rfl rfl rfl rfl hl.1 rfl (Nat.le_of_ble_eq_true rfl) dX4_weaver_25 ⟨Nat.le_of_ble_eq_true rfl, Nat.le_of_ble_eq_true rfl⟩) hP hD hS hA [0, 1, 2, 3, 4, 5, 6] [] [0, 1, 2, 3, 4, 5, 6] rfl rfl rfl (by decide) (fun _ => rfl) rfl (fun r_25 u_25 H locs hp_25 hP hD hS => ?_)
        have hp_25 : r_25 = wNumW 0 w0 k := hp_25
        subst hp_25
        refine lv_goto (tgt := 36) hx hb dX4_weaver_28 (by decide) ?_
        exact k_iret (ws := [kO q0 4 [.int (nI th), .ref q1, .ref q2, .ref q3, .ref q4, .ref q5, .ref q6], kC G q1 8 (nR (peF w0 w1)), kC G q2 120 (nR (knF w0 w1)), kC G q3 120 (nR (plF w0 w1)), kC G q4 80 (nR ru), kC G q5 8 (nR bf), kC G q6 2 (nR (nuF ho un))]) (()) hx hb hr hlocks hP hD hS hAe hQ (Nat.le_of_ble_eq_true rfl) (Nat.le_of_ble_eq_true rfl) dX4_weaver_36 (by rw [cdA_0 ⟨hp_6, hp_16⟩]) (fun _ => (by rw [tj, tk]; rfl))
      · skip
        refine lv_aload_n hx hb dX4_weaver_22 rfl (lv_at hl 0 rfl) ?_
        refine lv_iload_n hx hb dX4_weaver_23 rfl (lv_at hl 1 rfl) ?_
        refine lv_iload_n hx hb dX4_weaver_24 rfl (lv_at hl 2 rfl) ?_
        refine k_calli (fun _ => [kO q0 4 [.int (nI 0), .ref q1, .ref q2, .ref q3, .ref q4, .ref q5, .ref q6], kC G q1 8 (nR (peF w0 w1)), kC G q2 120 (nR (knF w0 w1)), kC G q3 120 (nR (plF w0 w1)), kC G q4 80 (nR ru), kC G q5 8 (nR bf), kC G q6 2 (nR (nuF ho un))]) [] (k_runV (As := [.int (nI 1), .int (nI k)]) (rest := []) (wc := [kO q0 4 [.int (nI 0), .ref q1, .ref q2, .ref q3, .ref q4, .ref q5, .ref q6], kC G q1 8 (nR (peF w0 w1)), kC G q2 120 (nR (knF w0 w1)), kC G q3 120 (nR (plF w0 w1)), kC G q4 80 (nR ru), kC G q5 8 (nR bf), kC G q6 2 (nR (nuF ho un))]) ⟨hx, hb, hml, hown, hts⟩ (m_weaverTold1 l G q0 q1 q2 q3 q4 q5 q6 w0 w1 bf ho un ru 0 k hk h0 h1 hru) (cwV 2 hts gX4_weaver_X4_weaverTold rfl rfl rfl (by decide +kernel) ⟨Nat.le_of_ble_eq_true rfl, Nat.le_of_ble_eq_true rfl⟩) hK hZ hP hD hS hA [0, 1, 2, 3, 4, 5, 6] rfl rfl 0 4 rfl rfl rfl rfl hl.1 rfl (Nat.le_of_ble_eq_true rfl) dX4_weaver_25 ⟨Nat.le_of_ble_eq_true rfl, Nat.le_of_ble_eq_true rfl⟩) hP hD hS hA [0, 1, 2, 3, 4, 5, 6] [] [0, 1, 2, 3, 4, 5, 6] rfl rfl rfl (by decide) (fun _ => rfl) rfl (fun r_25 u_25 H locs hp_25 hP hD hS => ?_)
        have hp_25 : r_25 = wNumW 1 w1 k := hp_25
        subst hp_25
        refine lv_goto (tgt := 36) hx hb dX4_weaver_28 (by decide) ?_
        exact k_iret (ws := [kO q0 4 [.int (nI th), .ref q1, .ref q2, .ref q3, .ref q4, .ref q5, .ref q6], kC G q1 8 (nR (peF w0 w1)), kC G q2 120 (nR (knF w0 w1)), kC G q3 120 (nR (plF w0 w1)), kC G q4 80 (nR ru), kC G q5 8 (nR bf), kC G q6 2 (nR (nuF ho un))]) (()) hx hb hr hlocks hP hD hS hAe hQ (Nat.le_of_ble_eq_true rfl) (Nat.le_of_ble_eq_true rfl) dX4_weaver_36 (by rw [cdA_0 ⟨hp_6, hp_16⟩]) (fun _ => (by rw [tj, tk]; rfl))
    · refine lv_if_eq (tgt := 31) hx hb dX4_weaver_19 (by decide) (fun c_19 => ?_) (fun c_19 => absurd c_19 (by decide))
      refine lv_aload_n hx hb dX4_weaver_31 rfl (lv_at hl 0 rfl) ?_
      refine lv_iconst (v := nI 1) hx hb dX4_weaver_32 (by decide) ?_
      refine k_calli (fun _ => [kO q0 4 [.int (nI 1), .ref q1, .ref q2, .ref q3, .ref q4, .ref q5, .ref q6], kC G q1 8 (nR (peF w0 w1)), kC G q2 120 (nR (knF w0 w1)), kC G q3 120 (nR (plF w0 w1)), kC G q4 80 (nR ru), kC G q5 8 (nR bf), kC G q6 2 (nR (nuF ho un))]) [kC G q1 8 (nR (peF w0 w1)), kC G q2 120 (nR (knF w0 w1)), kC G q3 120 (nR (plF w0 w1)), kC G q4 80 (nR ru), kC G q5 8 (nR bf), kC G q6 2 (nR (nuF ho un))] (k_runV (As := [.int (nI 1)]) (rest := []) (wc := [kO q0 4 [.int (nI 0), .ref q1, .ref q2, .ref q3, .ref q4, .ref q5, .ref q6]]) ⟨hx, hb, hml, hown, hts⟩ (m_fail l G q0 q1 q2 q3 q4 q5 q6 0 1 ) (cwV 1 hts gX4_weaver_X4_fail rfl rfl rfl (by decide +kernel) ⟨Nat.le_of_ble_eq_true rfl, Nat.le_of_ble_eq_true rfl⟩) hK hZ hP hD hS hA [0] rfl rfl 0 4 rfl rfl rfl rfl hl.1 rfl (Nat.le_of_ble_eq_true rfl) dX4_weaver_33 ⟨Nat.le_of_ble_eq_true rfl, Nat.le_of_ble_eq_true rfl⟩) hP hD hS hA [0] [1, 2, 3, 4, 5, 6] [6, 0, 1, 2, 3, 4, 5] rfl rfl rfl (by decide) (fun _ => rfl) rfl (fun r_33 u_33 H locs hp_33 hP hD hS => ?_)
      have hp_33 : r_33 = nI 0 := hp_33
      subst hp_33
      exact k_iret (ws := [kO q0 4 [.int (nI th), .ref q1, .ref q2, .ref q3, .ref q4, .ref q5, .ref q6], kC G q1 8 (nR (peF w0 w1)), kC G q2 120 (nR (knF w0 w1)), kC G q3 120 (nR (plF w0 w1)), kC G q4 80 (nR ru), kC G q5 8 (nR bf), kC G q6 2 (nR (nuF ho un))]) (()) hx hb hr hlocks hP hD hS hAe hQ (Nat.le_of_ble_eq_true rfl) (Nat.le_of_ble_eq_true rfl) dX4_weaver_36 (by first | (rw [cdA_1 (fun q => hp_16 q.2)]; done) | (rw [cdA_1 (fun q => hp_6 q.1)]; done)) (by first | exact fun q => absurd ((cdA_1 (fun q => hp_16 q.2)).symm.trans q) (by decide) | exact fun q => absurd ((cdA_1 (fun q => hp_6 q.1)).symm.trans q) (by decide))
  · refine lv_if_eq (tgt := 31) hx hb dX4_weaver_9 (by decide) (fun c_9 => ?_) (fun c_9 => absurd c_9 (by decide))
    refine lv_aload_n hx hb dX4_weaver_31 rfl (lv_at hl 0 rfl) ?_
    refine lv_iconst (v := nI 1) hx hb dX4_weaver_32 (by decide) ?_
    refine k_calli (fun _ => [kO q0 4 [.int (nI 1), .ref q1, .ref q2, .ref q3, .ref q4, .ref q5, .ref q6], kC G q1 8 (nR (peF w0 w1)), kC G q2 120 (nR (knF w0 w1)), kC G q3 120 (nR (plF w0 w1)), kC G q4 80 (nR ru), kC G q5 8 (nR bf), kC G q6 2 (nR (nuF ho un))]) [kC G q1 8 (nR (peF w0 w1)), kC G q2 120 (nR (knF w0 w1)), kC G q3 120 (nR (plF w0 w1)), kC G q4 80 (nR ru), kC G q5 8 (nR bf), kC G q6 2 (nR (nuF ho un))] (k_runV (As := [.int (nI 1)]) (rest := []) (wc := [kO q0 4 [.int (nI 0), .ref q1, .ref q2, .ref q3, .ref q4, .ref q5, .ref q6]]) ⟨hx, hb, hml, hown, hts⟩ (m_fail l G q0 q1 q2 q3 q4 q5 q6 0 1 ) (cwV 1 hts gX4_weaver_X4_fail rfl rfl rfl (by decide +kernel) ⟨Nat.le_of_ble_eq_true rfl, Nat.le_of_ble_eq_true rfl⟩) hK hZ hP hD hS hA [0] rfl rfl 0 4 rfl rfl rfl rfl hl.1 rfl (Nat.le_of_ble_eq_true rfl) dX4_weaver_33 ⟨Nat.le_of_ble_eq_true rfl, Nat.le_of_ble_eq_true rfl⟩) hP hD hS hA [0] [1, 2, 3, 4, 5, 6] [6, 0, 1, 2, 3, 4, 5] rfl rfl rfl (by decide) (fun _ => rfl) rfl (fun r_33 u_33 H locs hp_33 hP hD hS => ?_)
    have hp_33 : r_33 = nI 0 := hp_33
    subst hp_33
    exact k_iret (ws := [kO q0 4 [.int (nI th), .ref q1, .ref q2, .ref q3, .ref q4, .ref q5, .ref q6], kC G q1 8 (nR (peF w0 w1)), kC G q2 120 (nR (knF w0 w1)), kC G q3 120 (nR (plF w0 w1)), kC G q4 80 (nR ru), kC G q5 8 (nR bf), kC G q6 2 (nR (nuF ho un))]) (()) hx hb hr hlocks hP hD hS hAe hQ (Nat.le_of_ble_eq_true rfl) (Nat.le_of_ble_eq_true rfl) dX4_weaver_36 (by first | (rw [cdA_1 (fun q => hp_16 q.2)]; done) | (rw [cdA_1 (fun q => hp_6 q.1)]; done)) (by first | exact fun q => absurd ((cdA_1 (fun q => hp_16 q.2)).symm.trans q) (by decide) | exact fun q => absurd ((cdA_1 (fun q => hp_6 q.1)).symm.trans q) (by decide))
set_option maxHeartbeats 4000000 in
set_option maxRecDepth 100000 in
theorem m_run (l : Launch) (G : kG) (q0 : Nat) (q1 : Nat) (q2 : Nat) (q3 : Nat) (q4 : Nat) (q5 : Nat) (q6 : Nat) (w0 : Wv) (w1 : Wv) (bf : Nat → Nat) (ho : Nat) (un : Nat) (ru : Nat → Nat) (th : Nat) (x1 : Int32) (x2 : Int32) (x3 : Int32) (h0 : wOk w0) (h1 : wOk w1) (hB : bOk bf) (hru : ruOk w0 w1 ru) : kM l G yX4_run wsX4_run ({ frames := 2, cells := 0, slots := 0, locals := 42 } : Room) [.ref q0, .int x1, .int x2, .int x3] [kO q0 4 [.int (nI th), .ref q1, .ref q2, .ref q3, .ref q4, .ref q5, .ref q6], kC G q1 8 (nR (peF w0 w1)), kC G q2 120 (nR (knF w0 w1)), kC G q3 120 (nR (plF w0 w1)), kC G q4 80 (nR ru), kC G q5 8 (nR bf), kC G q6 2 (nR (nuF ho un))] (kQi G [kO q0 4 [.int (nI th), .ref q1, .ref q2, .ref q3, .ref q4, .ref q5, .ref q6], kC G q1 8 (nR (peF w0 w1)), kC G q2 120 (nR (knF w0 w1)), kC G q3 120 (nR (plF w0 w1)), kC G q4 80 (nR ru), kC G q5 8 (nR bf), kC G q6 2 (nR (nuF ho un))] (fun (r : Int32) (_ : Unit) => cdA (inR x1 2 ∧ inR x2 (vT (gW (w0, w1, bf, ho, un) (tN x1))) ∧ inR x3 2) = 0 → r = nI (aRun (gW (w0, w1, bf, ho, un) (tN x1)) (tN x2) (tN x3))) (fun (_ : Unit) => [kO q0 4 [.int (nI (cdA (inR x1 2 ∧ inR x2 (vT (gW (w0, w1, bf, ho, un) (tN x1))) ∧ inR x3 2))), .ref q1, .ref q2, .ref q3, .ref q4, .ref q5, .ref q6], kC G q1 8 (nR (peF w0 w1)), kC G q2 120 (nR (knF w0 w1)), kC G q3 120 (nR (plF w0 w1)), kC G q4 80 (nR ru), kC G q5 8 (nR bf), kC G q6 2 (nR (nuF ho un))])) := by
  refine k_ofW (cc := cX4_run) (maxL := 4) (rt := (some .int)) (by decide) rfl (Nat.le_of_ble_eq_true rfl) ?_
  intro p e s m args below meth c A ls Qs H locs hQ hAe hx hb hr hml hts hown hlocks hin hK hZ hP hD hS hA hl
  have hown : s.vm.findClass RX4 = some m.cls := hown
  have hl : lv_has ls 4 [(0, .ref q0), (1, .int x1), (2, .int x2), (3, .int x3)] := hl
  have m0b : vM w0 ≤ 60 := h0.2.2.2.1
  have m1b : vM w1 ≤ 60 := h1.2.2.2.1
  have t0b : vT w0 ≤ 20 := h0.2.2.1
  have t1b : vT w1 ≤ 20 := h1.2.2.1
  have pb0 : ∀ i, i < 60 → vP w0 i < 8 := h0.2.2.2.2.1
  have pb1 : ∀ i, i < 60 → vP w1 i < 8 := h1.2.2.2.2.1
  have kb0 : ∀ i, i < 60 → vK w0 i < 8 := h0.2.2.2.2.2.1
  have kb1 : ∀ i, i < 60 → vK w1 i < 8 := h1.2.2.2.2.2.1
  have rk0 := hru.1
  have rk1 := hru.2
  have hq_0 : ∀ w ∈ wsX40, w ∈ wsX4_run := by decide +kernel
  have hq_1 : (Cond.fieldLink RX4 28 "KnotRugsModel" "thrown" "I").before args s = true := hts _ (by decide +kernel)
  have hq_2 : (Cond.fieldLink RX4 19 "KnotRugsModel" "runs" "[I").before args s = true := hts _ (by decide +kernel)
  refine lv_aload_n hx hb dX4_run_0 rfl (lv_at hl 0 rfl) ?_
  refine lv_iconst (v := nI 0) hx hb dX4_run_1 (by decide) ?_
  refine va_put (D := G.1) (ci := 4) (v := .int (nI 0)) (ty := .int) (C := RX4) (T := TX4) (N := 7) hx hb hts hq_0 tyX4 tyX4_ok nmX4 hown hK.1 hP hD hS 0 rfl rfl 0 (by decide) hq_1 (fun _ h9 => h9) rfl (by decide +kernel) rfl rfl (Nat.le_of_ble_eq_true rfl) dX4_run_2 (fun H locs hP hD hS => ?_)
  have hP : va_P G.1 vwCl [kO q0 4 [.int (nI 0), .ref q1, .ref q2, .ref q3, .ref q4, .ref q5, .ref q6], kC G q1 8 (nR (peF w0 w1)), kC G q2 120 (nR (knF w0 w1)), kC G q3 120 (nR (plF w0 w1)), kC G q4 80 (nR ru), kC G q5 8 (nR bf), kC G q6 2 (nR (nuF ho un))] H := hP
  have hD : va_D A [kO q0 4 [.int (nI 0), .ref q1, .ref q2, .ref q3, .ref q4, .ref q5, .ref q6], kC G q1 8 (nR (peF w0 w1)), kC G q2 120 (nR (knF w0 w1)), kC G q3 120 (nR (plF w0 w1)), kC G q4 80 (nR ru), kC G q5 8 (nR bf), kC G q6 2 (nR (nuF ho un))] := hD
  refine lv_iload_n hx hb dX4_run_5 rfl (lv_at hl 1 rfl) ?_
  refine k_calli (fun u_6 => [kO q0 4 [.int (nI 0), .ref q1, .ref q2, .ref q3, .ref q4, .ref q5, .ref q6], kC G q1 8 (nR (peF w0 w1)), kC G q2 120 (nR (knF w0 w1)), kC G q3 120 (nR (plF w0 w1)), kC G q4 80 (nR ru), kC G q5 8 (nR bf), kC G q6 2 (nR (nuF ho un))]) [kO q0 4 [.int (nI 0), .ref q1, .ref q2, .ref q3, .ref q4, .ref q5, .ref q6], kC G q1 8 (nR (peF w0 w1)), kC G q2 120 (nR (knF w0 w1)), kC G q3 120 (nR (plF w0 w1)), kC G q4 80 (nR ru), kC G q5 8 (nR bf), kC G q6 2 (nR (nuF ho un))] (k_runS (As := [.int x1]) (rest := []) (wc := []) ⟨hx, hb, hml, hown, hts⟩ (m_isWeaver l G x1 ) (va_cwS 1 hts gX4_run_X4_isWeaver rfl rfl rfl (by decide +kernel) ⟨Nat.le_of_ble_eq_true rfl, Nat.le_of_ble_eq_true rfl⟩) hK hZ hP hD hS hA [] rfl rfl rfl hl.1 rfl (Nat.le_of_ble_eq_true rfl) dX4_run_6 ⟨Nat.le_of_ble_eq_true rfl, Nat.le_of_ble_eq_true rfl⟩) hP hD hS hA [] [0, 1, 2, 3, 4, 5, 6] [0, 1, 2, 3, 4, 5, 6] rfl rfl rfl (by decide) (fun _ => rfl) rfl (fun r_6 u_6 H locs hp_6 hP hD hS => ?_)
  rcases hp_6 with ⟨rfl, hp_6⟩ | ⟨rfl, hp_6⟩
  · refine lv_if_eq (tgt := 53) hx hb dX4_run_9 (by decide) (fun c_9 => absurd c_9 (by decide)) (fun c_9 => ?_)
    obtain ⟨j, hj, ej⟩ := id hp_6
    subst ej
    have tj : tN (nI j) = j := tN_nI (by omega)
    rcases (show j = 0 ∨ j = 1 by omega) with rfl | rfl
    · skip
      refine lv_iload_n hx hb dX4_run_12 rfl (lv_at hl 2 rfl) ?_
      refine lv_iconst (v := nI 0) hx hb dX4_run_13 (by decide) ?_
      refine lv_aload_n hx hb dX4_run_14 rfl (lv_at hl 0 rfl) ?_
      refine lv_iload_n hx hb dX4_run_15 rfl (lv_at hl 1 rfl) ?_
      refine lv_iconst (v := nI 2) hx hb dX4_run_16 (by decide) ?_
      refine k_calli (fun _ => [kO q0 4 [.int (nI 0), .ref q1, .ref q2, .ref q3, .ref q4, .ref q5, .ref q6], kC G q1 8 (nR (peF w0 w1)), kC G q2 120 (nR (knF w0 w1)), kC G q3 120 (nR (plF w0 w1)), kC G q4 80 (nR ru), kC G q5 8 (nR bf), kC G q6 2 (nR (nuF ho un))]) [kC G q2 120 (nR (knF w0 w1)), kC G q3 120 (nR (plF w0 w1)), kC G q4 80 (nR ru), kC G q5 8 (nR bf), kC G q6 2 (nR (nuF ho un))] (k_runV (As := [.int (nI 0), .int (nI 2)]) (rest := [.int (nI 0), .int x2]) (wc := [kO q0 4 [.int (nI 0), .ref q1, .ref q2, .ref q3, .ref q4, .ref q5, .ref q6], kC G q1 8 (nR (peF w0 w1))]) ⟨hx, hb, hml, hown, hts⟩ (m_pe l G q0 q1 q2 q3 q4 q5 q6 0 (peF w0 w1) 0 2 (by decide) (by decide)) (cwV 2 hts gX4_run_X4_pe rfl rfl rfl (by decide +kernel) ⟨Nat.le_of_ble_eq_true rfl, Nat.le_of_ble_eq_true rfl⟩) hK hZ hP hD hS hA [0, 1] rfl rfl 0 4 rfl rfl rfl rfl hl.1 rfl (Nat.le_of_ble_eq_true rfl) dX4_run_17 ⟨Nat.le_of_ble_eq_true rfl, Nat.le_of_ble_eq_true rfl⟩) hP hD hS hA [0, 1] [2, 3, 4, 5, 6] [5, 6, 0, 1, 2, 3, 4] rfl rfl rfl (by decide) (fun _ => rfl) rfl (fun r_17 u_17 H locs hp_17 hP hD hS => ?_)
      have hp_17 : r_17 = nI (vT w0) := hp_17
      subst hp_17
      refine lv_iconst (v := nI 1) hx hb dX4_run_20 (by decide) ?_
      refine lv_isub hx hb dX4_run_21 ?_
      refine k_calli (fun u_22 => [kO q0 4 [.int (nI 0), .ref q1, .ref q2, .ref q3, .ref q4, .ref q5, .ref q6], kC G q1 8 (nR (peF w0 w1)), kC G q2 120 (nR (knF w0 w1)), kC G q3 120 (nR (plF w0 w1)), kC G q4 80 (nR ru), kC G q5 8 (nR bf), kC G q6 2 (nR (nuF ho un))]) [kO q0 4 [.int (nI 0), .ref q1, .ref q2, .ref q3, .ref q4, .ref q5, .ref q6], kC G q1 8 (nR (peF w0 w1)), kC G q2 120 (nR (knF w0 w1)), kC G q3 120 (nR (plF w0 w1)), kC G q4 80 (nR ru), kC G q5 8 (nR bf), kC G q6 2 (nR (nuF ho un))] (k_runS (As := [.int x2, .int (nI 0), .int ((nI (vT w0)) - (nI 1))]) (rest := []) (wc := []) ⟨hx, hb, hml, hown, hts⟩ (m_isIn l G x2 (nI 0) ((nI (vT w0)) - (nI 1)) ) (va_cwS 3 hts gX4_run_X4_isIn rfl rfl rfl (by decide +kernel) ⟨Nat.le_of_ble_eq_true rfl, Nat.le_of_ble_eq_true rfl⟩) hK hZ hP hD hS hA [] rfl rfl rfl hl.1 rfl (Nat.le_of_ble_eq_true rfl) dX4_run_22 ⟨Nat.le_of_ble_eq_true rfl, Nat.le_of_ble_eq_true rfl⟩) hP hD hS hA [] [0, 1, 2, 3, 4, 5, 6] [0, 1, 2, 3, 4, 5, 6] rfl rfl rfl (by decide) (fun _ => rfl) rfl (fun r_22 u_22 H locs hp_22 hP hD hS => ?_)
      rw [isIn_T (by omega)] at hp_22
      rcases hp_22 with ⟨rfl, hp_22⟩ | ⟨rfl, hp_22⟩
      · refine lv_if_eq (tgt := 53) hx hb dX4_run_25 (by decide) (fun c_25 => absurd c_25 (by decide)) (fun c_25 => ?_)
        refine lv_iload_n hx hb dX4_run_28 rfl (lv_at hl 3 rfl) ?_
        refine lv_iconst (v := nI 0) hx hb dX4_run_29 (by decide) ?_
        refine lv_iconst (v := nI 1) hx hb dX4_run_30 (by decide) ?_
        refine k_calli (fun u_31 => [kO q0 4 [.int (nI 0), .ref q1, .ref q2, .ref q3, .ref q4, .ref q5, .ref q6], kC G q1 8 (nR (peF w0 w1)), kC G q2 120 (nR (knF w0 w1)), kC G q3 120 (nR (plF w0 w1)), kC G q4 80 (nR ru), kC G q5 8 (nR bf), kC G q6 2 (nR (nuF ho un))]) [kO q0 4 [.int (nI 0), .ref q1, .ref q2, .ref q3, .ref q4, .ref q5, .ref q6], kC G q1 8 (nR (peF w0 w1)), kC G q2 120 (nR (knF w0 w1)), kC G q3 120 (nR (plF w0 w1)), kC G q4 80 (nR ru), kC G q5 8 (nR bf), kC G q6 2 (nR (nuF ho un))] (k_runS (As := [.int x3, .int (nI 0), .int (nI 1)]) (rest := []) (wc := []) ⟨hx, hb, hml, hown, hts⟩ (m_isIn l G x3 (nI 0) (nI 1) ) (va_cwS 3 hts gX4_run_X4_isIn rfl rfl rfl (by decide +kernel) ⟨Nat.le_of_ble_eq_true rfl, Nat.le_of_ble_eq_true rfl⟩) hK hZ hP hD hS hA [] rfl rfl rfl hl.1 rfl (Nat.le_of_ble_eq_true rfl) dX4_run_31 ⟨Nat.le_of_ble_eq_true rfl, Nat.le_of_ble_eq_true rfl⟩) hP hD hS hA [] [0, 1, 2, 3, 4, 5, 6] [0, 1, 2, 3, 4, 5, 6] rfl rfl rfl (by decide) (fun _ => rfl) rfl (fun r_31 u_31 H locs hp_31 hP hD hS => ?_)
        rw [isIn_R (by decide)] at hp_31
        rcases hp_31 with ⟨rfl, hp_31⟩ | ⟨rfl, hp_31⟩
        · refine lv_if_eq (tgt := 53) hx hb dX4_run_34 (by decide) (fun c_34 => absurd c_34 (by decide)) (fun c_34 => ?_)
          obtain ⟨i, hi, ei⟩ := id hp_22
          subst ei
          have ti : tN (nI i) = i := tN_nI (by omega)
          obtain ⟨k, hk, ek⟩ := id hp_31
          subst ek
          have tk : tN (nI k) = k := tN_nI (by omega)
          rcases (show k = 0 ∨ k = 1 by omega) with rfl | rfl
          · skip
            refine lv_aload_n hx hb dX4_run_37 rfl (lv_at hl 0 rfl) ?_
            refine va_get (D := G.1) (ci := 4) (v := .ref q4) (C := RX4) (T := TX4) (N := 7) hx hb hts hq_0 hown hK.1 hP 0 rfl rfl 4 (by decide) hq_2 (fun _ h9 => h9) rfl dX4_run_38 ?_
            refine lv_aload_n hx hb dX4_run_41 rfl (lv_at hl 0 rfl) ?_
            refine lv_iload_n hx hb dX4_run_42 rfl (lv_at hl 1 rfl) ?_
            refine lv_iload_n hx hb dX4_run_43 rfl (lv_at hl 2 rfl) ?_
            refine k_calli (fun _ => [kO q0 4 [.int (nI 0), .ref q1, .ref q2, .ref q3, .ref q4, .ref q5, .ref q6], kC G q1 8 (nR (peF w0 w1)), kC G q2 120 (nR (knF w0 w1)), kC G q3 120 (nR (plF w0 w1)), kC G q4 80 (nR ru), kC G q5 8 (nR bf), kC G q6 2 (nR (nuF ho un))]) [kC G q1 8 (nR (peF w0 w1)), kC G q2 120 (nR (knF w0 w1)), kC G q3 120 (nR (plF w0 w1)), kC G q4 80 (nR ru), kC G q5 8 (nR bf), kC G q6 2 (nR (nuF ho un))] (k_runV (As := [.int (nI 0), .int (nI i)]) (rest := [.ref q4]) (wc := [kO q0 4 [.int (nI 0), .ref q1, .ref q2, .ref q3, .ref q4, .ref q5, .ref q6]]) ⟨hx, hb, hml, hown, hts⟩ (m_runAt l G q0 q1 q2 q3 q4 q5 q6 0 0 i ) (cwV 2 hts gX4_run_X4_runAt rfl rfl rfl (by decide +kernel) ⟨Nat.le_of_ble_eq_true rfl, Nat.le_of_ble_eq_true rfl⟩) hK hZ hP hD hS hA [0] rfl rfl 0 4 rfl rfl rfl rfl hl.1 rfl (Nat.le_of_ble_eq_true rfl) dX4_run_44 ⟨Nat.le_of_ble_eq_true rfl, Nat.le_of_ble_eq_true rfl⟩) hP hD hS hA [0] [1, 2, 3, 4, 5, 6] [6, 0, 1, 2, 3, 4, 5] rfl rfl rfl (by decide) (fun _ => rfl) rfl (fun r_44 u_44 H locs hp_44 hP hD hS => ?_)
            have hp_44 : r_44 = nI (2 * (0 + i)) := hp_44
            subst hp_44
            refine lv_iload_n hx hb dX4_run_47 rfl (lv_at hl 3 rfl) ?_
            refine lv_iadd hx hb dX4_run_48 ?_
            refine lv_topi (fun y_1 hy_1 => ?_)
            obtain rfl : y_1 = nI ((2 * (0 + i)) + 0) := hy_1.trans (nI_add (2 * (0 + i)) 0)
            have hi_2 : ((2 * (0 + i)) + 0) < 80 := by omega
            refine va_iald (D := G.1) hx hb hK.1 hP 4 0 rfl rfl (vp_in_nI hi_2 (by omega)) dX4_run_49 ?_
            refine lv_topi (fun y_3 hy_3 => ?_)
            obtain rfl : y_3 = nI (ru ((2 * (0 + i)) + 0)) := hy_3.trans (nR_at (by omega))
            refine lv_topi (fun y_4 hy_4 => ?_)
            obtain rfl : y_4 = nI (vC w0 i) := hy_4.trans (congrArg nI (rk0 i hi).1)
            refine lv_goto (tgt := 58) hx hb dX4_run_50 (by decide) ?_
            exact k_iret (ws := [kO q0 4 [.int (nI th), .ref q1, .ref q2, .ref q3, .ref q4, .ref q5, .ref q6], kC G q1 8 (nR (peF w0 w1)), kC G q2 120 (nR (knF w0 w1)), kC G q3 120 (nR (plF w0 w1)), kC G q4 80 (nR ru), kC G q5 8 (nR bf), kC G q6 2 (nR (nuF ho un))]) (()) hx hb hr hlocks hP hD hS hAe hQ (Nat.le_of_ble_eq_true rfl) (Nat.le_of_ble_eq_true rfl) dX4_run_58 (by rw [cdA_0 ⟨hp_6, (by rw [tj]; exact hp_22), hp_31⟩]) (fun _ => (by (try rw [tj]); (try rw [ti]); (try rw [tk]); rfl))
          · skip
            refine lv_aload_n hx hb dX4_run_37 rfl (lv_at hl 0 rfl) ?_
            refine va_get (D := G.1) (ci := 4) (v := .ref q4) (C := RX4) (T := TX4) (N := 7) hx hb hts hq_0 hown hK.1 hP 0 rfl rfl 4 (by decide) hq_2 (fun _ h9 => h9) rfl dX4_run_38 ?_
            refine lv_aload_n hx hb dX4_run_41 rfl (lv_at hl 0 rfl) ?_
            refine lv_iload_n hx hb dX4_run_42 rfl (lv_at hl 1 rfl) ?_
            refine lv_iload_n hx hb dX4_run_43 rfl (lv_at hl 2 rfl) ?_
            refine k_calli (fun _ => [kO q0 4 [.int (nI 0), .ref q1, .ref q2, .ref q3, .ref q4, .ref q5, .ref q6], kC G q1 8 (nR (peF w0 w1)), kC G q2 120 (nR (knF w0 w1)), kC G q3 120 (nR (plF w0 w1)), kC G q4 80 (nR ru), kC G q5 8 (nR bf), kC G q6 2 (nR (nuF ho un))]) [kC G q1 8 (nR (peF w0 w1)), kC G q2 120 (nR (knF w0 w1)), kC G q3 120 (nR (plF w0 w1)), kC G q4 80 (nR ru), kC G q5 8 (nR bf), kC G q6 2 (nR (nuF ho un))] (k_runV (As := [.int (nI 0), .int (nI i)]) (rest := [.ref q4]) (wc := [kO q0 4 [.int (nI 0), .ref q1, .ref q2, .ref q3, .ref q4, .ref q5, .ref q6]]) ⟨hx, hb, hml, hown, hts⟩ (m_runAt l G q0 q1 q2 q3 q4 q5 q6 0 0 i ) (cwV 2 hts gX4_run_X4_runAt rfl rfl rfl (by decide +kernel) ⟨Nat.le_of_ble_eq_true rfl, Nat.le_of_ble_eq_true rfl⟩) hK hZ hP hD hS hA [0] rfl rfl 0 4 rfl rfl rfl rfl hl.1 rfl (Nat.le_of_ble_eq_true rfl) dX4_run_44 ⟨Nat.le_of_ble_eq_true rfl, Nat.le_of_ble_eq_true rfl⟩) hP hD hS hA [0] [1, 2, 3, 4, 5, 6] [6, 0, 1, 2, 3, 4, 5] rfl rfl rfl (by decide) (fun _ => rfl) rfl (fun r_44 u_44 H locs hp_44 hP hD hS => ?_)
            have hp_44 : r_44 = nI (2 * (0 + i)) := hp_44
            subst hp_44
            refine lv_iload_n hx hb dX4_run_47 rfl (lv_at hl 3 rfl) ?_
            refine lv_iadd hx hb dX4_run_48 ?_
            refine lv_topi (fun y_5 hy_5 => ?_)
            obtain rfl : y_5 = nI ((2 * (0 + i)) + 1) := hy_5.trans (nI_add (2 * (0 + i)) 1)
            have hi_6 : ((2 * (0 + i)) + 1) < 80 := by omega
            refine va_iald (D := G.1) hx hb hK.1 hP 4 0 rfl rfl (vp_in_nI hi_6 (by omega)) dX4_run_49 ?_
            refine lv_topi (fun y_7 hy_7 => ?_)
            obtain rfl : y_7 = nI (ru ((2 * (0 + i)) + 1)) := hy_7.trans (nR_at (by omega))
            refine lv_topi (fun y_8 hy_8 => ?_)
            obtain rfl : y_8 = nI (vN w0 i) := hy_8.trans (congrArg nI (rk0 i hi).2)
            refine lv_goto (tgt := 58) hx hb dX4_run_50 (by decide) ?_
            exact k_iret (ws := [kO q0 4 [.int (nI th), .ref q1, .ref q2, .ref q3, .ref q4, .ref q5, .ref q6], kC G q1 8 (nR (peF w0 w1)), kC G q2 120 (nR (knF w0 w1)), kC G q3 120 (nR (plF w0 w1)), kC G q4 80 (nR ru), kC G q5 8 (nR bf), kC G q6 2 (nR (nuF ho un))]) (()) hx hb hr hlocks hP hD hS hAe hQ (Nat.le_of_ble_eq_true rfl) (Nat.le_of_ble_eq_true rfl) dX4_run_58 (by rw [cdA_0 ⟨hp_6, (by rw [tj]; exact hp_22), hp_31⟩]) (fun _ => (by (try rw [tj]); (try rw [ti]); (try rw [tk]); rfl))
        · refine lv_if_eq (tgt := 53) hx hb dX4_run_34 (by decide) (fun c_34 => ?_) (fun c_34 => absurd c_34 (by decide))
          refine lv_aload_n hx hb dX4_run_53 rfl (lv_at hl 0 rfl) ?_
          refine lv_iconst (v := nI 1) hx hb dX4_run_54 (by decide) ?_
          refine k_calli (fun _ => [kO q0 4 [.int (nI 1), .ref q1, .ref q2, .ref q3, .ref q4, .ref q5, .ref q6], kC G q1 8 (nR (peF w0 w1)), kC G q2 120 (nR (knF w0 w1)), kC G q3 120 (nR (plF w0 w1)), kC G q4 80 (nR ru), kC G q5 8 (nR bf), kC G q6 2 (nR (nuF ho un))]) [kC G q1 8 (nR (peF w0 w1)), kC G q2 120 (nR (knF w0 w1)), kC G q3 120 (nR (plF w0 w1)), kC G q4 80 (nR ru), kC G q5 8 (nR bf), kC G q6 2 (nR (nuF ho un))] (k_runV (As := [.int (nI 1)]) (rest := []) (wc := [kO q0 4 [.int (nI 0), .ref q1, .ref q2, .ref q3, .ref q4, .ref q5, .ref q6]]) ⟨hx, hb, hml, hown, hts⟩ (m_fail l G q0 q1 q2 q3 q4 q5 q6 0 1 ) (cwV 1 hts gX4_run_X4_fail rfl rfl rfl (by decide +kernel) ⟨Nat.le_of_ble_eq_true rfl, Nat.le_of_ble_eq_true rfl⟩) hK hZ hP hD hS hA [0] rfl rfl 0 4 rfl rfl rfl rfl hl.1 rfl (Nat.le_of_ble_eq_true rfl) dX4_run_55 ⟨Nat.le_of_ble_eq_true rfl, Nat.le_of_ble_eq_true rfl⟩) hP hD hS hA [0] [1, 2, 3, 4, 5, 6] [6, 0, 1, 2, 3, 4, 5] rfl rfl rfl (by decide) (fun _ => rfl) rfl (fun r_55 u_55 H locs hp_55 hP hD hS => ?_)
          have hp_55 : r_55 = nI 0 := hp_55
          subst hp_55
          exact k_iret (ws := [kO q0 4 [.int (nI th), .ref q1, .ref q2, .ref q3, .ref q4, .ref q5, .ref q6], kC G q1 8 (nR (peF w0 w1)), kC G q2 120 (nR (knF w0 w1)), kC G q3 120 (nR (plF w0 w1)), kC G q4 80 (nR ru), kC G q5 8 (nR bf), kC G q6 2 (nR (nuF ho un))]) (()) hx hb hr hlocks hP hD hS hAe hQ (Nat.le_of_ble_eq_true rfl) (Nat.le_of_ble_eq_true rfl) dX4_run_58 (by first | (rw [cdA_1 (fun q => hp_31 q.2.2)]; done) | (rw [cdA_1 (fun q => hp_22 (by have q2 := q.2.1; rw [tj] at q2; exact q2))]; done) | (rw [cdA_1 (fun q => hp_6 q.1)]; done)) (by first | exact fun q => absurd ((cdA_1 (fun q => hp_31 q.2.2)).symm.trans q) (by decide) | exact fun q => absurd ((cdA_1 (fun q => hp_22 (by have q2 := q.2.1; rw [tj] at q2; exact q2))).symm.trans q) (by decide) | exact fun q => absurd ((cdA_1 (fun q => hp_6 q.1)).symm.trans q) (by decide))
      · refine lv_if_eq (tgt := 53) hx hb dX4_run_25 (by decide) (fun c_25 => ?_) (fun c_25 => absurd c_25 (by decide))
        refine lv_aload_n hx hb dX4_run_53 rfl (lv_at hl 0 rfl) ?_
        refine lv_iconst (v := nI 1) hx hb dX4_run_54 (by decide) ?_
        refine k_calli (fun _ => [kO q0 4 [.int (nI 1), .ref q1, .ref q2, .ref q3, .ref q4, .ref q5, .ref q6], kC G q1 8 (nR (peF w0 w1)), kC G q2 120 (nR (knF w0 w1)), kC G q3 120 (nR (plF w0 w1)), kC G q4 80 (nR ru), kC G q5 8 (nR bf), kC G q6 2 (nR (nuF ho un))]) [kC G q1 8 (nR (peF w0 w1)), kC G q2 120 (nR (knF w0 w1)), kC G q3 120 (nR (plF w0 w1)), kC G q4 80 (nR ru), kC G q5 8 (nR bf), kC G q6 2 (nR (nuF ho un))] (k_runV (As := [.int (nI 1)]) (rest := []) (wc := [kO q0 4 [.int (nI 0), .ref q1, .ref q2, .ref q3, .ref q4, .ref q5, .ref q6]]) ⟨hx, hb, hml, hown, hts⟩ (m_fail l G q0 q1 q2 q3 q4 q5 q6 0 1 ) (cwV 1 hts gX4_run_X4_fail rfl rfl rfl (by decide +kernel) ⟨Nat.le_of_ble_eq_true rfl, Nat.le_of_ble_eq_true rfl⟩) hK hZ hP hD hS hA [0] rfl rfl 0 4 rfl rfl rfl rfl hl.1 rfl (Nat.le_of_ble_eq_true rfl) dX4_run_55 ⟨Nat.le_of_ble_eq_true rfl, Nat.le_of_ble_eq_true rfl⟩) hP hD hS hA [0] [1, 2, 3, 4, 5, 6] [6, 0, 1, 2, 3, 4, 5] rfl rfl rfl (by decide) (fun _ => rfl) rfl (fun r_55 u_55 H locs hp_55 hP hD hS => ?_)
        have hp_55 : r_55 = nI 0 := hp_55
        subst hp_55
        exact k_iret (ws := [kO q0 4 [.int (nI th), .ref q1, .ref q2, .ref q3, .ref q4, .ref q5, .ref q6], kC G q1 8 (nR (peF w0 w1)), kC G q2 120 (nR (knF w0 w1)), kC G q3 120 (nR (plF w0 w1)), kC G q4 80 (nR ru), kC G q5 8 (nR bf), kC G q6 2 (nR (nuF ho un))]) (()) hx hb hr hlocks hP hD hS hAe hQ (Nat.le_of_ble_eq_true rfl) (Nat.le_of_ble_eq_true rfl) dX4_run_58 (by first | (rw [cdA_1 (fun q => hp_31 q.2.2)]; done) | (rw [cdA_1 (fun q => hp_22 (by have q2 := q.2.1; rw [tj] at q2; exact q2))]; done) | (rw [cdA_1 (fun q => hp_6 q.1)]; done)) (by first | exact fun q => absurd ((cdA_1 (fun q => hp_31 q.2.2)).symm.trans q) (by decide) | exact fun q => absurd ((cdA_1 (fun q => hp_22 (by have q2 := q.2.1; rw [tj] at q2; exact q2))).symm.trans q) (by decide) | exact fun q => absurd ((cdA_1 (fun q => hp_6 q.1)).symm.trans q) (by decide))
    · skip
      refine lv_iload_n hx hb dX4_run_12 rfl (lv_at hl 2 rfl) ?_
      refine lv_iconst (v := nI 0) hx hb dX4_run_13 (by decide) ?_
      refine lv_aload_n hx hb dX4_run_14 rfl (lv_at hl 0 rfl) ?_
      refine lv_iload_n hx hb dX4_run_15 rfl (lv_at hl 1 rfl) ?_
      refine lv_iconst (v := nI 2) hx hb dX4_run_16 (by decide) ?_
      refine k_calli (fun _ => [kO q0 4 [.int (nI 0), .ref q1, .ref q2, .ref q3, .ref q4, .ref q5, .ref q6], kC G q1 8 (nR (peF w0 w1)), kC G q2 120 (nR (knF w0 w1)), kC G q3 120 (nR (plF w0 w1)), kC G q4 80 (nR ru), kC G q5 8 (nR bf), kC G q6 2 (nR (nuF ho un))]) [kC G q2 120 (nR (knF w0 w1)), kC G q3 120 (nR (plF w0 w1)), kC G q4 80 (nR ru), kC G q5 8 (nR bf), kC G q6 2 (nR (nuF ho un))] (k_runV (As := [.int (nI 1), .int (nI 2)]) (rest := [.int (nI 0), .int x2]) (wc := [kO q0 4 [.int (nI 0), .ref q1, .ref q2, .ref q3, .ref q4, .ref q5, .ref q6], kC G q1 8 (nR (peF w0 w1))]) ⟨hx, hb, hml, hown, hts⟩ (m_pe l G q0 q1 q2 q3 q4 q5 q6 0 (peF w0 w1) 1 2 (by decide) (by decide)) (cwV 2 hts gX4_run_X4_pe rfl rfl rfl (by decide +kernel) ⟨Nat.le_of_ble_eq_true rfl, Nat.le_of_ble_eq_true rfl⟩) hK hZ hP hD hS hA [0, 1] rfl rfl 0 4 rfl rfl rfl rfl hl.1 rfl (Nat.le_of_ble_eq_true rfl) dX4_run_17 ⟨Nat.le_of_ble_eq_true rfl, Nat.le_of_ble_eq_true rfl⟩) hP hD hS hA [0, 1] [2, 3, 4, 5, 6] [5, 6, 0, 1, 2, 3, 4] rfl rfl rfl (by decide) (fun _ => rfl) rfl (fun r_17 u_17 H locs hp_17 hP hD hS => ?_)
      have hp_17 : r_17 = nI (vT w1) := hp_17
      subst hp_17
      refine lv_iconst (v := nI 1) hx hb dX4_run_20 (by decide) ?_
      refine lv_isub hx hb dX4_run_21 ?_
      refine k_calli (fun u_22 => [kO q0 4 [.int (nI 0), .ref q1, .ref q2, .ref q3, .ref q4, .ref q5, .ref q6], kC G q1 8 (nR (peF w0 w1)), kC G q2 120 (nR (knF w0 w1)), kC G q3 120 (nR (plF w0 w1)), kC G q4 80 (nR ru), kC G q5 8 (nR bf), kC G q6 2 (nR (nuF ho un))]) [kO q0 4 [.int (nI 0), .ref q1, .ref q2, .ref q3, .ref q4, .ref q5, .ref q6], kC G q1 8 (nR (peF w0 w1)), kC G q2 120 (nR (knF w0 w1)), kC G q3 120 (nR (plF w0 w1)), kC G q4 80 (nR ru), kC G q5 8 (nR bf), kC G q6 2 (nR (nuF ho un))] (k_runS (As := [.int x2, .int (nI 0), .int ((nI (vT w1)) - (nI 1))]) (rest := []) (wc := []) ⟨hx, hb, hml, hown, hts⟩ (m_isIn l G x2 (nI 0) ((nI (vT w1)) - (nI 1)) ) (va_cwS 3 hts gX4_run_X4_isIn rfl rfl rfl (by decide +kernel) ⟨Nat.le_of_ble_eq_true rfl, Nat.le_of_ble_eq_true rfl⟩) hK hZ hP hD hS hA [] rfl rfl rfl hl.1 rfl (Nat.le_of_ble_eq_true rfl) dX4_run_22 ⟨Nat.le_of_ble_eq_true rfl, Nat.le_of_ble_eq_true rfl⟩) hP hD hS hA [] [0, 1, 2, 3, 4, 5, 6] [0, 1, 2, 3, 4, 5, 6] rfl rfl rfl (by decide) (fun _ => rfl) rfl (fun r_22 u_22 H locs hp_22 hP hD hS => ?_)
      rw [isIn_T (by omega)] at hp_22
      rcases hp_22 with ⟨rfl, hp_22⟩ | ⟨rfl, hp_22⟩
      · refine lv_if_eq (tgt := 53) hx hb dX4_run_25 (by decide) (fun c_25 => absurd c_25 (by decide)) (fun c_25 => ?_)
        refine lv_iload_n hx hb dX4_run_28 rfl (lv_at hl 3 rfl) ?_
        refine lv_iconst (v := nI 0) hx hb dX4_run_29 (by decide) ?_
        refine lv_iconst (v := nI 1) hx hb dX4_run_30 (by decide) ?_
        refine k_calli (fun u_31 => [kO q0 4 [.int (nI 0), .ref q1, .ref q2, .ref q3, .ref q4, .ref q5, .ref q6], kC G q1 8 (nR (peF w0 w1)), kC G q2 120 (nR (knF w0 w1)), kC G q3 120 (nR (plF w0 w1)), kC G q4 80 (nR ru), kC G q5 8 (nR bf), kC G q6 2 (nR (nuF ho un))]) [kO q0 4 [.int (nI 0), .ref q1, .ref q2, .ref q3, .ref q4, .ref q5, .ref q6], kC G q1 8 (nR (peF w0 w1)), kC G q2 120 (nR (knF w0 w1)), kC G q3 120 (nR (plF w0 w1)), kC G q4 80 (nR ru), kC G q5 8 (nR bf), kC G q6 2 (nR (nuF ho un))] (k_runS (As := [.int x3, .int (nI 0), .int (nI 1)]) (rest := []) (wc := []) ⟨hx, hb, hml, hown, hts⟩ (m_isIn l G x3 (nI 0) (nI 1) ) (va_cwS 3 hts gX4_run_X4_isIn rfl rfl rfl (by decide +kernel) ⟨Nat.le_of_ble_eq_true rfl, Nat.le_of_ble_eq_true rfl⟩) hK hZ hP hD hS hA [] rfl rfl rfl hl.1 rfl (Nat.le_of_ble_eq_true rfl) dX4_run_31 ⟨Nat.le_of_ble_eq_true rfl, Nat.le_of_ble_eq_true rfl⟩) hP hD hS hA [] [0, 1, 2, 3, 4, 5, 6] [0, 1, 2, 3, 4, 5, 6] rfl rfl rfl (by decide) (fun _ => rfl) rfl (fun r_31 u_31 H locs hp_31 hP hD hS => ?_)
        rw [isIn_R (by decide)] at hp_31
        rcases hp_31 with ⟨rfl, hp_31⟩ | ⟨rfl, hp_31⟩
        · refine lv_if_eq (tgt := 53) hx hb dX4_run_34 (by decide) (fun c_34 => absurd c_34 (by decide)) (fun c_34 => ?_)
          obtain ⟨i, hi, ei⟩ := id hp_22
          subst ei
          have ti : tN (nI i) = i := tN_nI (by omega)
          obtain ⟨k, hk, ek⟩ := id hp_31
          subst ek
          have tk : tN (nI k) = k := tN_nI (by omega)
          rcases (show k = 0 ∨ k = 1 by omega) with rfl | rfl
          · skip
            refine lv_aload_n hx hb dX4_run_37 rfl (lv_at hl 0 rfl) ?_
            refine va_get (D := G.1) (ci := 4) (v := .ref q4) (C := RX4) (T := TX4) (N := 7) hx hb hts hq_0 hown hK.1 hP 0 rfl rfl 4 (by decide) hq_2 (fun _ h9 => h9) rfl dX4_run_38 ?_
            refine lv_aload_n hx hb dX4_run_41 rfl (lv_at hl 0 rfl) ?_
            refine lv_iload_n hx hb dX4_run_42 rfl (lv_at hl 1 rfl) ?_
            refine lv_iload_n hx hb dX4_run_43 rfl (lv_at hl 2 rfl) ?_
            refine k_calli (fun _ => [kO q0 4 [.int (nI 0), .ref q1, .ref q2, .ref q3, .ref q4, .ref q5, .ref q6], kC G q1 8 (nR (peF w0 w1)), kC G q2 120 (nR (knF w0 w1)), kC G q3 120 (nR (plF w0 w1)), kC G q4 80 (nR ru), kC G q5 8 (nR bf), kC G q6 2 (nR (nuF ho un))]) [kC G q1 8 (nR (peF w0 w1)), kC G q2 120 (nR (knF w0 w1)), kC G q3 120 (nR (plF w0 w1)), kC G q4 80 (nR ru), kC G q5 8 (nR bf), kC G q6 2 (nR (nuF ho un))] (k_runV (As := [.int (nI 1), .int (nI i)]) (rest := [.ref q4]) (wc := [kO q0 4 [.int (nI 0), .ref q1, .ref q2, .ref q3, .ref q4, .ref q5, .ref q6]]) ⟨hx, hb, hml, hown, hts⟩ (m_runAt l G q0 q1 q2 q3 q4 q5 q6 0 1 i ) (cwV 2 hts gX4_run_X4_runAt rfl rfl rfl (by decide +kernel) ⟨Nat.le_of_ble_eq_true rfl, Nat.le_of_ble_eq_true rfl⟩) hK hZ hP hD hS hA [0] rfl rfl 0 4 rfl rfl rfl rfl hl.1 rfl (Nat.le_of_ble_eq_true rfl) dX4_run_44 ⟨Nat.le_of_ble_eq_true rfl, Nat.le_of_ble_eq_true rfl⟩) hP hD hS hA [0] [1, 2, 3, 4, 5, 6] [6, 0, 1, 2, 3, 4, 5] rfl rfl rfl (by decide) (fun _ => rfl) rfl (fun r_44 u_44 H locs hp_44 hP hD hS => ?_)
            have hp_44 : r_44 = nI (2 * (20 + i)) := hp_44
            subst hp_44
            refine lv_iload_n hx hb dX4_run_47 rfl (lv_at hl 3 rfl) ?_
            refine lv_iadd hx hb dX4_run_48 ?_
            refine lv_topi (fun y_9 hy_9 => ?_)
            obtain rfl : y_9 = nI ((2 * (20 + i)) + 0) := hy_9.trans (nI_add (2 * (20 + i)) 0)
            have hi_10 : ((2 * (20 + i)) + 0) < 80 := by omega
            refine va_iald (D := G.1) hx hb hK.1 hP 4 0 rfl rfl (vp_in_nI hi_10 (by omega)) dX4_run_49 ?_
            refine lv_topi (fun y_11 hy_11 => ?_)
            obtain rfl : y_11 = nI (ru ((2 * (20 + i)) + 0)) := hy_11.trans (nR_at (by omega))
            refine lv_topi (fun y_12 hy_12 => ?_)
            obtain rfl : y_12 = nI (vC w1 i) := hy_12.trans (congrArg nI (rk1 i hi).1)
            refine lv_goto (tgt := 58) hx hb dX4_run_50 (by decide) ?_
            exact k_iret (ws := [kO q0 4 [.int (nI th), .ref q1, .ref q2, .ref q3, .ref q4, .ref q5, .ref q6], kC G q1 8 (nR (peF w0 w1)), kC G q2 120 (nR (knF w0 w1)), kC G q3 120 (nR (plF w0 w1)), kC G q4 80 (nR ru), kC G q5 8 (nR bf), kC G q6 2 (nR (nuF ho un))]) (()) hx hb hr hlocks hP hD hS hAe hQ (Nat.le_of_ble_eq_true rfl) (Nat.le_of_ble_eq_true rfl) dX4_run_58 (by rw [cdA_0 ⟨hp_6, (by rw [tj]; exact hp_22), hp_31⟩]) (fun _ => (by (try rw [tj]); (try rw [ti]); (try rw [tk]); rfl))
          · skip
            refine lv_aload_n hx hb dX4_run_37 rfl (lv_at hl 0 rfl) ?_
            refine va_get (D := G.1) (ci := 4) (v := .ref q4) (C := RX4) (T := TX4) (N := 7) hx hb hts hq_0 hown hK.1 hP 0 rfl rfl 4 (by decide) hq_2 (fun _ h9 => h9) rfl dX4_run_38 ?_
            refine lv_aload_n hx hb dX4_run_41 rfl (lv_at hl 0 rfl) ?_
            refine lv_iload_n hx hb dX4_run_42 rfl (lv_at hl 1 rfl) ?_
            refine lv_iload_n hx hb dX4_run_43 rfl (lv_at hl 2 rfl) ?_
            refine k_calli (fun _ => [kO q0 4 [.int (nI 0), .ref q1, .ref q2, .ref q3, .ref q4, .ref q5, .ref q6], kC G q1 8 (nR (peF w0 w1)), kC G q2 120 (nR (knF w0 w1)), kC G q3 120 (nR (plF w0 w1)), kC G q4 80 (nR ru), kC G q5 8 (nR bf), kC G q6 2 (nR (nuF ho un))]) [kC G q1 8 (nR (peF w0 w1)), kC G q2 120 (nR (knF w0 w1)), kC G q3 120 (nR (plF w0 w1)), kC G q4 80 (nR ru), kC G q5 8 (nR bf), kC G q6 2 (nR (nuF ho un))] (k_runV (As := [.int (nI 1), .int (nI i)]) (rest := [.ref q4]) (wc := [kO q0 4 [.int (nI 0), .ref q1, .ref q2, .ref q3, .ref q4, .ref q5, .ref q6]]) ⟨hx, hb, hml, hown, hts⟩ (m_runAt l G q0 q1 q2 q3 q4 q5 q6 0 1 i ) (cwV 2 hts gX4_run_X4_runAt rfl rfl rfl (by decide +kernel) ⟨Nat.le_of_ble_eq_true rfl, Nat.le_of_ble_eq_true rfl⟩) hK hZ hP hD hS hA [0] rfl rfl 0 4 rfl rfl rfl rfl hl.1 rfl (Nat.le_of_ble_eq_true rfl) dX4_run_44 ⟨Nat.le_of_ble_eq_true rfl, Nat.le_of_ble_eq_true rfl⟩) hP hD hS hA [0] [1, 2, 3, 4, 5, 6] [6, 0, 1, 2, 3, 4, 5] rfl rfl rfl (by decide) (fun _ => rfl) rfl (fun r_44 u_44 H locs hp_44 hP hD hS => ?_)
            have hp_44 : r_44 = nI (2 * (20 + i)) := hp_44
            subst hp_44
            refine lv_iload_n hx hb dX4_run_47 rfl (lv_at hl 3 rfl) ?_
            refine lv_iadd hx hb dX4_run_48 ?_
            refine lv_topi (fun y_13 hy_13 => ?_)
            obtain rfl : y_13 = nI ((2 * (20 + i)) + 1) := hy_13.trans (nI_add (2 * (20 + i)) 1)
            have hi_14 : ((2 * (20 + i)) + 1) < 80 := by omega
            refine va_iald (D := G.1) hx hb hK.1 hP 4 0 rfl rfl (vp_in_nI hi_14 (by omega)) dX4_run_49 ?_
            refine lv_topi (fun y_15 hy_15 => ?_)
            obtain rfl : y_15 = nI (ru ((2 * (20 + i)) + 1)) := hy_15.trans (nR_at (by omega))
            refine lv_topi (fun y_16 hy_16 => ?_)
            obtain rfl : y_16 = nI (vN w1 i) := hy_16.trans (congrArg nI (rk1 i hi).2)
            refine lv_goto (tgt := 58) hx hb dX4_run_50 (by decide) ?_
            exact k_iret (ws := [kO q0 4 [.int (nI th), .ref q1, .ref q2, .ref q3, .ref q4, .ref q5, .ref q6], kC G q1 8 (nR (peF w0 w1)), kC G q2 120 (nR (knF w0 w1)), kC G q3 120 (nR (plF w0 w1)), kC G q4 80 (nR ru), kC G q5 8 (nR bf), kC G q6 2 (nR (nuF ho un))]) (()) hx hb hr hlocks hP hD hS hAe hQ (Nat.le_of_ble_eq_true rfl) (Nat.le_of_ble_eq_true rfl) dX4_run_58 (by rw [cdA_0 ⟨hp_6, (by rw [tj]; exact hp_22), hp_31⟩]) (fun _ => (by (try rw [tj]); (try rw [ti]); (try rw [tk]); rfl))
        · refine lv_if_eq (tgt := 53) hx hb dX4_run_34 (by decide) (fun c_34 => ?_) (fun c_34 => absurd c_34 (by decide))
          refine lv_aload_n hx hb dX4_run_53 rfl (lv_at hl 0 rfl) ?_
          refine lv_iconst (v := nI 1) hx hb dX4_run_54 (by decide) ?_
          refine k_calli (fun _ => [kO q0 4 [.int (nI 1), .ref q1, .ref q2, .ref q3, .ref q4, .ref q5, .ref q6], kC G q1 8 (nR (peF w0 w1)), kC G q2 120 (nR (knF w0 w1)), kC G q3 120 (nR (plF w0 w1)), kC G q4 80 (nR ru), kC G q5 8 (nR bf), kC G q6 2 (nR (nuF ho un))]) [kC G q1 8 (nR (peF w0 w1)), kC G q2 120 (nR (knF w0 w1)), kC G q3 120 (nR (plF w0 w1)), kC G q4 80 (nR ru), kC G q5 8 (nR bf), kC G q6 2 (nR (nuF ho un))] (k_runV (As := [.int (nI 1)]) (rest := []) (wc := [kO q0 4 [.int (nI 0), .ref q1, .ref q2, .ref q3, .ref q4, .ref q5, .ref q6]]) ⟨hx, hb, hml, hown, hts⟩ (m_fail l G q0 q1 q2 q3 q4 q5 q6 0 1 ) (cwV 1 hts gX4_run_X4_fail rfl rfl rfl (by decide +kernel) ⟨Nat.le_of_ble_eq_true rfl, Nat.le_of_ble_eq_true rfl⟩) hK hZ hP hD hS hA [0] rfl rfl 0 4 rfl rfl rfl rfl hl.1 rfl (Nat.le_of_ble_eq_true rfl) dX4_run_55 ⟨Nat.le_of_ble_eq_true rfl, Nat.le_of_ble_eq_true rfl⟩) hP hD hS hA [0] [1, 2, 3, 4, 5, 6] [6, 0, 1, 2, 3, 4, 5] rfl rfl rfl (by decide) (fun _ => rfl) rfl (fun r_55 u_55 H locs hp_55 hP hD hS => ?_)
          have hp_55 : r_55 = nI 0 := hp_55
          subst hp_55
          exact k_iret (ws := [kO q0 4 [.int (nI th), .ref q1, .ref q2, .ref q3, .ref q4, .ref q5, .ref q6], kC G q1 8 (nR (peF w0 w1)), kC G q2 120 (nR (knF w0 w1)), kC G q3 120 (nR (plF w0 w1)), kC G q4 80 (nR ru), kC G q5 8 (nR bf), kC G q6 2 (nR (nuF ho un))]) (()) hx hb hr hlocks hP hD hS hAe hQ (Nat.le_of_ble_eq_true rfl) (Nat.le_of_ble_eq_true rfl) dX4_run_58 (by first | (rw [cdA_1 (fun q => hp_31 q.2.2)]; done) | (rw [cdA_1 (fun q => hp_22 (by have q2 := q.2.1; rw [tj] at q2; exact q2))]; done) | (rw [cdA_1 (fun q => hp_6 q.1)]; done)) (by first | exact fun q => absurd ((cdA_1 (fun q => hp_31 q.2.2)).symm.trans q) (by decide) | exact fun q => absurd ((cdA_1 (fun q => hp_22 (by have q2 := q.2.1; rw [tj] at q2; exact q2))).symm.trans q) (by decide) | exact fun q => absurd ((cdA_1 (fun q => hp_6 q.1)).symm.trans q) (by decide))
      · refine lv_if_eq (tgt := 53) hx hb dX4_run_25 (by decide) (fun c_25 => ?_) (fun c_25 => absurd c_25 (by decide))
        refine lv_aload_n hx hb dX4_run_53 rfl (lv_at hl 0 rfl) ?_
        refine lv_iconst (v := nI 1) hx hb dX4_run_54 (by decide) ?_
        refine k_calli (fun _ => [kO q0 4 [.int (nI 1), .ref q1, .ref q2, .ref q3, .ref q4, .ref q5, .ref q6], kC G q1 8 (nR (peF w0 w1)), kC G q2 120 (nR (knF w0 w1)), kC G q3 120 (nR (plF w0 w1)), kC G q4 80 (nR ru), kC G q5 8 (nR bf), kC G q6 2 (nR (nuF ho un))]) [kC G q1 8 (nR (peF w0 w1)), kC G q2 120 (nR (knF w0 w1)), kC G q3 120 (nR (plF w0 w1)), kC G q4 80 (nR ru), kC G q5 8 (nR bf), kC G q6 2 (nR (nuF ho un))] (k_runV (As := [.int (nI 1)]) (rest := []) (wc := [kO q0 4 [.int (nI 0), .ref q1, .ref q2, .ref q3, .ref q4, .ref q5, .ref q6]]) ⟨hx, hb, hml, hown, hts⟩ (m_fail l G q0 q1 q2 q3 q4 q5 q6 0 1 ) (cwV 1 hts gX4_run_X4_fail rfl rfl rfl (by decide +kernel) ⟨Nat.le_of_ble_eq_true rfl, Nat.le_of_ble_eq_true rfl⟩) hK hZ hP hD hS hA [0] rfl rfl 0 4 rfl rfl rfl rfl hl.1 rfl (Nat.le_of_ble_eq_true rfl) dX4_run_55 ⟨Nat.le_of_ble_eq_true rfl, Nat.le_of_ble_eq_true rfl⟩) hP hD hS hA [0] [1, 2, 3, 4, 5, 6] [6, 0, 1, 2, 3, 4, 5] rfl rfl rfl (by decide) (fun _ => rfl) rfl (fun r_55 u_55 H locs hp_55 hP hD hS => ?_)
        have hp_55 : r_55 = nI 0 := hp_55
        subst hp_55
        exact k_iret (ws := [kO q0 4 [.int (nI th), .ref q1, .ref q2, .ref q3, .ref q4, .ref q5, .ref q6], kC G q1 8 (nR (peF w0 w1)), kC G q2 120 (nR (knF w0 w1)), kC G q3 120 (nR (plF w0 w1)), kC G q4 80 (nR ru), kC G q5 8 (nR bf), kC G q6 2 (nR (nuF ho un))]) (()) hx hb hr hlocks hP hD hS hAe hQ (Nat.le_of_ble_eq_true rfl) (Nat.le_of_ble_eq_true rfl) dX4_run_58 (by first | (rw [cdA_1 (fun q => hp_31 q.2.2)]; done) | (rw [cdA_1 (fun q => hp_22 (by have q2 := q.2.1; rw [tj] at q2; exact q2))]; done) | (rw [cdA_1 (fun q => hp_6 q.1)]; done)) (by first | exact fun q => absurd ((cdA_1 (fun q => hp_31 q.2.2)).symm.trans q) (by decide) | exact fun q => absurd ((cdA_1 (fun q => hp_22 (by have q2 := q.2.1; rw [tj] at q2; exact q2))).symm.trans q) (by decide) | exact fun q => absurd ((cdA_1 (fun q => hp_6 q.1)).symm.trans q) (by decide))
  · refine lv_if_eq (tgt := 53) hx hb dX4_run_9 (by decide) (fun c_9 => ?_) (fun c_9 => absurd c_9 (by decide))
    refine lv_aload_n hx hb dX4_run_53 rfl (lv_at hl 0 rfl) ?_
    refine lv_iconst (v := nI 1) hx hb dX4_run_54 (by decide) ?_
    refine k_calli (fun _ => [kO q0 4 [.int (nI 1), .ref q1, .ref q2, .ref q3, .ref q4, .ref q5, .ref q6], kC G q1 8 (nR (peF w0 w1)), kC G q2 120 (nR (knF w0 w1)), kC G q3 120 (nR (plF w0 w1)), kC G q4 80 (nR ru), kC G q5 8 (nR bf), kC G q6 2 (nR (nuF ho un))]) [kC G q1 8 (nR (peF w0 w1)), kC G q2 120 (nR (knF w0 w1)), kC G q3 120 (nR (plF w0 w1)), kC G q4 80 (nR ru), kC G q5 8 (nR bf), kC G q6 2 (nR (nuF ho un))] (k_runV (As := [.int (nI 1)]) (rest := []) (wc := [kO q0 4 [.int (nI 0), .ref q1, .ref q2, .ref q3, .ref q4, .ref q5, .ref q6]]) ⟨hx, hb, hml, hown, hts⟩ (m_fail l G q0 q1 q2 q3 q4 q5 q6 0 1 ) (cwV 1 hts gX4_run_X4_fail rfl rfl rfl (by decide +kernel) ⟨Nat.le_of_ble_eq_true rfl, Nat.le_of_ble_eq_true rfl⟩) hK hZ hP hD hS hA [0] rfl rfl 0 4 rfl rfl rfl rfl hl.1 rfl (Nat.le_of_ble_eq_true rfl) dX4_run_55 ⟨Nat.le_of_ble_eq_true rfl, Nat.le_of_ble_eq_true rfl⟩) hP hD hS hA [0] [1, 2, 3, 4, 5, 6] [6, 0, 1, 2, 3, 4, 5] rfl rfl rfl (by decide) (fun _ => rfl) rfl (fun r_55 u_55 H locs hp_55 hP hD hS => ?_)
    have hp_55 : r_55 = nI 0 := hp_55
    subst hp_55
    exact k_iret (ws := [kO q0 4 [.int (nI th), .ref q1, .ref q2, .ref q3, .ref q4, .ref q5, .ref q6], kC G q1 8 (nR (peF w0 w1)), kC G q2 120 (nR (knF w0 w1)), kC G q3 120 (nR (plF w0 w1)), kC G q4 80 (nR ru), kC G q5 8 (nR bf), kC G q6 2 (nR (nuF ho un))]) (()) hx hb hr hlocks hP hD hS hAe hQ (Nat.le_of_ble_eq_true rfl) (Nat.le_of_ble_eq_true rfl) dX4_run_58 (by first | (rw [cdA_1 (fun q => hp_31 q.2.2)]; done) | (rw [cdA_1 (fun q => hp_22 (by have q2 := q.2.1; rw [tj] at q2; exact q2))]; done) | (rw [cdA_1 (fun q => hp_6 q.1)]; done)) (by first | exact fun q => absurd ((cdA_1 (fun q => hp_31 q.2.2)).symm.trans q) (by decide) | exact fun q => absurd ((cdA_1 (fun q => hp_22 (by have q2 := q.2.1; rw [tj] at q2; exact q2))).symm.trans q) (by decide) | exact fun q => absurd ((cdA_1 (fun q => hp_6 q.1)).symm.trans q) (by decide))
set_option maxHeartbeats 4000000 in
set_option maxRecDepth 100000 in
theorem m_count (l : Launch) (G : kG) (q0 : Nat) (q1 : Nat) (q2 : Nat) (q3 : Nat) (q4 : Nat) (q5 : Nat) (q6 : Nat) (w0 : Wv) (w1 : Wv) (bf : Nat → Nat) (ho : Nat) (un : Nat) (ru : Nat → Nat) (th : Nat) (x1 : Int32) (h0 : wOk w0) (h1 : wOk w1) (hB : bOk bf) (hru : ruOk w0 w1 ru) : kM l G yX4_count wsX4_count ({ frames := 4, cells := 0, slots := 0, locals := 94 } : Room) [.ref q0, .int x1] [kO q0 4 [.int (nI th), .ref q1, .ref q2, .ref q3, .ref q4, .ref q5, .ref q6], kC G q1 8 (nR (peF w0 w1)), kC G q2 120 (nR (knF w0 w1)), kC G q3 120 (nR (plF w0 w1)), kC G q4 80 (nR ru), kC G q5 8 (nR bf), kC G q6 2 (nR (nuF ho un))] (kQi G [kO q0 4 [.int (nI th), .ref q1, .ref q2, .ref q3, .ref q4, .ref q5, .ref q6], kC G q1 8 (nR (peF w0 w1)), kC G q2 120 (nR (knF w0 w1)), kC G q3 120 (nR (plF w0 w1)), kC G q4 80 (nR ru), kC G q5 8 (nR bf), kC G q6 2 (nR (nuF ho un))] (fun (r : Int32) (_ : Unit) => cdA (inR x1 8) = 0 → r = nI (sNum (w0, w1, bf, ho, un) (tN x1))) (fun (_ : Unit) => [kO q0 4 [.int (nI (cdA (inR x1 8))), .ref q1, .ref q2, .ref q3, .ref q4, .ref q5, .ref q6], kC G q1 8 (nR (peF w0 w1)), kC G q2 120 (nR (knF w0 w1)), kC G q3 120 (nR (plF w0 w1)), kC G q4 80 (nR ru), kC G q5 8 (nR bf), kC G q6 2 (nR (nuF ho un))])) := by
  refine k_ofW (cc := cX4_count) (maxL := 2) (rt := (some .int)) (by decide) rfl (Nat.le_of_ble_eq_true rfl) ?_
  intro p e s m args below meth c A ls Qs H locs hQ hAe hx hb hr hml hts hown hlocks hin hK hZ hP hD hS hA hl
  have hown : s.vm.findClass RX4 = some m.cls := hown
  have hl : lv_has ls 2 [(0, .ref q0), (1, .int x1)] := hl
  have hq_0 : ∀ w ∈ wsX40, w ∈ wsX4_count := by decide +kernel
  have hq_1 : (Cond.fieldLink RX4 28 "KnotRugsModel" "thrown" "I").before args s = true := hts _ (by decide +kernel)
  refine lv_aload_n hx hb dX4_count_0 rfl (lv_at hl 0 rfl) ?_
  refine lv_iconst (v := nI 0) hx hb dX4_count_1 (by decide) ?_
  refine va_put (D := G.1) (ci := 4) (v := .int (nI 0)) (ty := .int) (C := RX4) (T := TX4) (N := 7) hx hb hts hq_0 tyX4 tyX4_ok nmX4 hown hK.1 hP hD hS 0 rfl rfl 0 (by decide) hq_1 (fun _ h9 => h9) rfl (by decide +kernel) rfl rfl (Nat.le_of_ble_eq_true rfl) dX4_count_2 (fun H locs hP hD hS => ?_)
  have hP : va_P G.1 vwCl [kO q0 4 [.int (nI 0), .ref q1, .ref q2, .ref q3, .ref q4, .ref q5, .ref q6], kC G q1 8 (nR (peF w0 w1)), kC G q2 120 (nR (knF w0 w1)), kC G q3 120 (nR (plF w0 w1)), kC G q4 80 (nR ru), kC G q5 8 (nR bf), kC G q6 2 (nR (nuF ho un))] H := hP
  have hD : va_D A [kO q0 4 [.int (nI 0), .ref q1, .ref q2, .ref q3, .ref q4, .ref q5, .ref q6], kC G q1 8 (nR (peF w0 w1)), kC G q2 120 (nR (knF w0 w1)), kC G q3 120 (nR (plF w0 w1)), kC G q4 80 (nR ru), kC G q5 8 (nR bf), kC G q6 2 (nR (nuF ho un))] := hD
  refine lv_iload_n hx hb dX4_count_5 rfl (lv_at hl 1 rfl) ?_
  refine lv_iconst (v := nI 0) hx hb dX4_count_6 (by decide) ?_
  refine lv_bipush (v := nI 7) hx hb dX4_count_7 (by decide) ?_
  refine k_calli (fun u_9 => [kO q0 4 [.int (nI 0), .ref q1, .ref q2, .ref q3, .ref q4, .ref q5, .ref q6], kC G q1 8 (nR (peF w0 w1)), kC G q2 120 (nR (knF w0 w1)), kC G q3 120 (nR (plF w0 w1)), kC G q4 80 (nR ru), kC G q5 8 (nR bf), kC G q6 2 (nR (nuF ho un))]) [kO q0 4 [.int (nI 0), .ref q1, .ref q2, .ref q3, .ref q4, .ref q5, .ref q6], kC G q1 8 (nR (peF w0 w1)), kC G q2 120 (nR (knF w0 w1)), kC G q3 120 (nR (plF w0 w1)), kC G q4 80 (nR ru), kC G q5 8 (nR bf), kC G q6 2 (nR (nuF ho un))] (k_runS (As := [.int x1, .int (nI 0), .int (nI 7)]) (rest := []) (wc := []) ⟨hx, hb, hml, hown, hts⟩ (m_isIn l G x1 (nI 0) (nI 7) ) (va_cwS 3 hts gX4_count_X4_isIn rfl rfl rfl (by decide +kernel) ⟨Nat.le_of_ble_eq_true rfl, Nat.le_of_ble_eq_true rfl⟩) hK hZ hP hD hS hA [] rfl rfl rfl hl.1 rfl (Nat.le_of_ble_eq_true rfl) dX4_count_9 ⟨Nat.le_of_ble_eq_true rfl, Nat.le_of_ble_eq_true rfl⟩) hP hD hS hA [] [0, 1, 2, 3, 4, 5, 6] [0, 1, 2, 3, 4, 5, 6] rfl rfl rfl (by decide) (fun _ => rfl) rfl (fun r_9 u_9 H locs hp_9 hP hD hS => ?_)
  rw [isIn_R (by decide)] at hp_9
  rcases hp_9 with ⟨rfl, hp_9⟩ | ⟨rfl, hp_9⟩
  · refine lv_if_eq (tgt := 23) hx hb dX4_count_12 (by decide) (fun c_12 => absurd c_12 (by decide)) (fun c_12 => ?_)
    obtain ⟨k, hk, ek⟩ := id hp_9
    subst ek
    have tk : tN (nI k) = k := tN_nI (by omega)
    refine lv_aload_n hx hb dX4_count_15 rfl (lv_at hl 0 rfl) ?_
    refine lv_iload_n hx hb dX4_count_16 rfl (lv_at hl 1 rfl) ?_
    refine k_calli (fun _ => [kO q0 4 [.int (nI 0), .ref q1, .ref q2, .ref q3, .ref q4, .ref q5, .ref q6], kC G q1 8 (nR (peF w0 w1)), kC G q2 120 (nR (knF w0 w1)), kC G q3 120 (nR (plF w0 w1)), kC G q4 80 (nR ru), kC G q5 8 (nR bf), kC G q6 2 (nR (nuF ho un))]) [] (k_runV (As := [.int (nI k)]) (rest := []) (wc := [kO q0 4 [.int (nI 0), .ref q1, .ref q2, .ref q3, .ref q4, .ref q5, .ref q6], kC G q1 8 (nR (peF w0 w1)), kC G q2 120 (nR (knF w0 w1)), kC G q3 120 (nR (plF w0 w1)), kC G q4 80 (nR ru), kC G q5 8 (nR bf), kC G q6 2 (nR (nuF ho un))]) ⟨hx, hb, hml, hown, hts⟩ (m_counted l G q0 q1 q2 q3 q4 q5 q6 w0 w1 bf ho un ru 0 k hk h0 h1 hB hru) (cwV 1 hts gX4_count_X4_counted rfl rfl rfl (by decide +kernel) ⟨Nat.le_of_ble_eq_true rfl, Nat.le_of_ble_eq_true rfl⟩) hK hZ hP hD hS hA [0, 1, 2, 3, 4, 5, 6] rfl rfl 0 4 rfl rfl rfl rfl hl.1 rfl (Nat.le_of_ble_eq_true rfl) dX4_count_17 ⟨Nat.le_of_ble_eq_true rfl, Nat.le_of_ble_eq_true rfl⟩) hP hD hS hA [0, 1, 2, 3, 4, 5, 6] [] [0, 1, 2, 3, 4, 5, 6] rfl rfl rfl (by decide) (fun _ => rfl) rfl (fun r_17 u_17 H locs hp_17 hP hD hS => ?_)
    have hp_17 : r_17 = nI (rNum w0 w1 bf ho un k) := hp_17
    subst hp_17
    refine lv_goto (tgt := 28) hx hb dX4_count_20 (by decide) ?_
    exact k_iret (ws := [kO q0 4 [.int (nI th), .ref q1, .ref q2, .ref q3, .ref q4, .ref q5, .ref q6], kC G q1 8 (nR (peF w0 w1)), kC G q2 120 (nR (knF w0 w1)), kC G q3 120 (nR (plF w0 w1)), kC G q4 80 (nR ru), kC G q5 8 (nR bf), kC G q6 2 (nR (nuF ho un))]) (()) hx hb hr hlocks hP hD hS hAe hQ (Nat.le_of_ble_eq_true rfl) (Nat.le_of_ble_eq_true rfl) dX4_count_28 (by rw [cdA_0 hp_9]) (fun _ => (by rw [tk]; rfl))
  · refine lv_if_eq (tgt := 23) hx hb dX4_count_12 (by decide) (fun c_12 => ?_) (fun c_12 => absurd c_12 (by decide))
    refine lv_aload_n hx hb dX4_count_23 rfl (lv_at hl 0 rfl) ?_
    refine lv_iconst (v := nI 1) hx hb dX4_count_24 (by decide) ?_
    refine k_calli (fun _ => [kO q0 4 [.int (nI 1), .ref q1, .ref q2, .ref q3, .ref q4, .ref q5, .ref q6], kC G q1 8 (nR (peF w0 w1)), kC G q2 120 (nR (knF w0 w1)), kC G q3 120 (nR (plF w0 w1)), kC G q4 80 (nR ru), kC G q5 8 (nR bf), kC G q6 2 (nR (nuF ho un))]) [kC G q1 8 (nR (peF w0 w1)), kC G q2 120 (nR (knF w0 w1)), kC G q3 120 (nR (plF w0 w1)), kC G q4 80 (nR ru), kC G q5 8 (nR bf), kC G q6 2 (nR (nuF ho un))] (k_runV (As := [.int (nI 1)]) (rest := []) (wc := [kO q0 4 [.int (nI 0), .ref q1, .ref q2, .ref q3, .ref q4, .ref q5, .ref q6]]) ⟨hx, hb, hml, hown, hts⟩ (m_fail l G q0 q1 q2 q3 q4 q5 q6 0 1 ) (cwV 1 hts gX4_count_X4_fail rfl rfl rfl (by decide +kernel) ⟨Nat.le_of_ble_eq_true rfl, Nat.le_of_ble_eq_true rfl⟩) hK hZ hP hD hS hA [0] rfl rfl 0 4 rfl rfl rfl rfl hl.1 rfl (Nat.le_of_ble_eq_true rfl) dX4_count_25 ⟨Nat.le_of_ble_eq_true rfl, Nat.le_of_ble_eq_true rfl⟩) hP hD hS hA [0] [1, 2, 3, 4, 5, 6] [6, 0, 1, 2, 3, 4, 5] rfl rfl rfl (by decide) (fun _ => rfl) rfl (fun r_25 u_25 H locs hp_25 hP hD hS => ?_)
    have hp_25 : r_25 = nI 0 := hp_25
    subst hp_25
    exact k_iret (ws := [kO q0 4 [.int (nI th), .ref q1, .ref q2, .ref q3, .ref q4, .ref q5, .ref q6], kC G q1 8 (nR (peF w0 w1)), kC G q2 120 (nR (knF w0 w1)), kC G q3 120 (nR (plF w0 w1)), kC G q4 80 (nR ru), kC G q5 8 (nR bf), kC G q6 2 (nR (nuF ho un))]) (()) hx hb hr hlocks hP hD hS hAe hQ (Nat.le_of_ble_eq_true rfl) (Nat.le_of_ble_eq_true rfl) dX4_count_28 (by first | (rw [cdA_1 hp_9]; done)) (by first | exact fun q => absurd ((cdA_1 hp_9).symm.trans q) (by decide))
set_option maxHeartbeats 4000000 in
set_option maxRecDepth 100000 in
theorem m_wool (l : Launch) (G : kG) (q0 : Nat) (q1 : Nat) (q2 : Nat) (q3 : Nat) (q4 : Nat) (q5 : Nat) (q6 : Nat) (w0 : Wv) (w1 : Wv) (bf : Nat → Nat) (ho : Nat) (un : Nat) (ru : Nat → Nat) (th : Nat) (x1 : Int32) (h0 : wOk w0) (h1 : wOk w1) (hB : bOk bf) (hru : ruOk w0 w1 ru) : kM l G yX4_wool wsX4_wool ({ frames := 2, cells := 0, slots := 0, locals := 42 } : Room) [.ref q0, .int x1] [kO q0 4 [.int (nI th), .ref q1, .ref q2, .ref q3, .ref q4, .ref q5, .ref q6], kC G q1 8 (nR (peF w0 w1)), kC G q2 120 (nR (knF w0 w1)), kC G q3 120 (nR (plF w0 w1)), kC G q4 80 (nR ru), kC G q5 8 (nR bf), kC G q6 2 (nR (nuF ho un))] (kQi G [kO q0 4 [.int (nI th), .ref q1, .ref q2, .ref q3, .ref q4, .ref q5, .ref q6], kC G q1 8 (nR (peF w0 w1)), kC G q2 120 (nR (knF w0 w1)), kC G q3 120 (nR (plF w0 w1)), kC G q4 80 (nR ru), kC G q5 8 (nR bf), kC G q6 2 (nR (nuF ho un))] (fun (r : Int32) (_ : Unit) => cdA (inR x1 8) = 0 → r = nI (bf (tN x1))) (fun (_ : Unit) => [kO q0 4 [.int (nI (cdA (inR x1 8))), .ref q1, .ref q2, .ref q3, .ref q4, .ref q5, .ref q6], kC G q1 8 (nR (peF w0 w1)), kC G q2 120 (nR (knF w0 w1)), kC G q3 120 (nR (plF w0 w1)), kC G q4 80 (nR ru), kC G q5 8 (nR bf), kC G q6 2 (nR (nuF ho un))])) := by
  refine k_ofW (cc := cX4_wool) (maxL := 2) (rt := (some .int)) (by decide) rfl (Nat.le_of_ble_eq_true rfl) ?_
  intro p e s m args below meth c A ls Qs H locs hQ hAe hx hb hr hml hts hown hlocks hin hK hZ hP hD hS hA hl
  have hown : s.vm.findClass RX4 = some m.cls := hown
  have hl : lv_has ls 2 [(0, .ref q0), (1, .int x1)] := hl
  have hq_0 : ∀ w ∈ wsX40, w ∈ wsX4_wool := by decide +kernel
  have hq_1 : (Cond.fieldLink RX4 28 "KnotRugsModel" "thrown" "I").before args s = true := hts _ (by decide +kernel)
  have hq_2 : (Cond.fieldLink RX4 22 "KnotRugsModel" "baskets" "[I").before args s = true := hts _ (by decide +kernel)
  refine lv_aload_n hx hb dX4_wool_0 rfl (lv_at hl 0 rfl) ?_
  refine lv_iconst (v := nI 0) hx hb dX4_wool_1 (by decide) ?_
  refine va_put (D := G.1) (ci := 4) (v := .int (nI 0)) (ty := .int) (C := RX4) (T := TX4) (N := 7) hx hb hts hq_0 tyX4 tyX4_ok nmX4 hown hK.1 hP hD hS 0 rfl rfl 0 (by decide) hq_1 (fun _ h9 => h9) rfl (by decide +kernel) rfl rfl (Nat.le_of_ble_eq_true rfl) dX4_wool_2 (fun H locs hP hD hS => ?_)
  have hP : va_P G.1 vwCl [kO q0 4 [.int (nI 0), .ref q1, .ref q2, .ref q3, .ref q4, .ref q5, .ref q6], kC G q1 8 (nR (peF w0 w1)), kC G q2 120 (nR (knF w0 w1)), kC G q3 120 (nR (plF w0 w1)), kC G q4 80 (nR ru), kC G q5 8 (nR bf), kC G q6 2 (nR (nuF ho un))] H := hP
  have hD : va_D A [kO q0 4 [.int (nI 0), .ref q1, .ref q2, .ref q3, .ref q4, .ref q5, .ref q6], kC G q1 8 (nR (peF w0 w1)), kC G q2 120 (nR (knF w0 w1)), kC G q3 120 (nR (plF w0 w1)), kC G q4 80 (nR ru), kC G q5 8 (nR bf), kC G q6 2 (nR (nuF ho un))] := hD
  refine lv_iload_n hx hb dX4_wool_5 rfl (lv_at hl 1 rfl) ?_
  refine k_calli (fun u_6 => [kO q0 4 [.int (nI 0), .ref q1, .ref q2, .ref q3, .ref q4, .ref q5, .ref q6], kC G q1 8 (nR (peF w0 w1)), kC G q2 120 (nR (knF w0 w1)), kC G q3 120 (nR (plF w0 w1)), kC G q4 80 (nR ru), kC G q5 8 (nR bf), kC G q6 2 (nR (nuF ho un))]) [kO q0 4 [.int (nI 0), .ref q1, .ref q2, .ref q3, .ref q4, .ref q5, .ref q6], kC G q1 8 (nR (peF w0 w1)), kC G q2 120 (nR (knF w0 w1)), kC G q3 120 (nR (plF w0 w1)), kC G q4 80 (nR ru), kC G q5 8 (nR bf), kC G q6 2 (nR (nuF ho un))] (k_runS (As := [.int x1]) (rest := []) (wc := []) ⟨hx, hb, hml, hown, hts⟩ (m_isColour l G x1 ) (va_cwS 1 hts gX4_wool_X4_isColour rfl rfl rfl (by decide +kernel) ⟨Nat.le_of_ble_eq_true rfl, Nat.le_of_ble_eq_true rfl⟩) hK hZ hP hD hS hA [] rfl rfl rfl hl.1 rfl (Nat.le_of_ble_eq_true rfl) dX4_wool_6 ⟨Nat.le_of_ble_eq_true rfl, Nat.le_of_ble_eq_true rfl⟩) hP hD hS hA [] [0, 1, 2, 3, 4, 5, 6] [0, 1, 2, 3, 4, 5, 6] rfl rfl rfl (by decide) (fun _ => rfl) rfl (fun r_6 u_6 H locs hp_6 hP hD hS => ?_)
  rcases hp_6 with ⟨rfl, hp_6⟩ | ⟨rfl, hp_6⟩
  · refine lv_if_eq (tgt := 21) hx hb dX4_wool_9 (by decide) (fun c_9 => absurd c_9 (by decide)) (fun c_9 => ?_)
    obtain ⟨k, hk, ek⟩ := id hp_6
    subst ek
    have tk : tN (nI k) = k := tN_nI (by omega)
    refine lv_aload_n hx hb dX4_wool_12 rfl (lv_at hl 0 rfl) ?_
    refine va_get (D := G.1) (ci := 4) (v := .ref q5) (C := RX4) (T := TX4) (N := 7) hx hb hts hq_0 hown hK.1 hP 0 rfl rfl 5 (by decide) hq_2 (fun _ h9 => h9) rfl dX4_wool_13 ?_
    refine lv_iload_n hx hb dX4_wool_16 rfl (lv_at hl 1 rfl) ?_
    have hi_1 : k < 8 := by omega
    refine va_iald (D := G.1) hx hb hK.1 hP 5 0 rfl rfl (vp_in_nI hi_1 (by omega)) dX4_wool_17 ?_
    refine lv_topi (fun y_2 hy_2 => ?_)
    obtain rfl : y_2 = nI (bf k) := hy_2.trans (nR_at (by omega))
    refine lv_goto (tgt := 26) hx hb dX4_wool_18 (by decide) ?_
    exact k_iret (ws := [kO q0 4 [.int (nI th), .ref q1, .ref q2, .ref q3, .ref q4, .ref q5, .ref q6], kC G q1 8 (nR (peF w0 w1)), kC G q2 120 (nR (knF w0 w1)), kC G q3 120 (nR (plF w0 w1)), kC G q4 80 (nR ru), kC G q5 8 (nR bf), kC G q6 2 (nR (nuF ho un))]) (()) hx hb hr hlocks hP hD hS hAe hQ (Nat.le_of_ble_eq_true rfl) (Nat.le_of_ble_eq_true rfl) dX4_wool_26 (by rw [cdA_0 hp_6]) (fun _ => (by rw [tk]))
  · refine lv_if_eq (tgt := 21) hx hb dX4_wool_9 (by decide) (fun c_9 => ?_) (fun c_9 => absurd c_9 (by decide))
    refine lv_aload_n hx hb dX4_wool_21 rfl (lv_at hl 0 rfl) ?_
    refine lv_iconst (v := nI 1) hx hb dX4_wool_22 (by decide) ?_
    refine k_calli (fun _ => [kO q0 4 [.int (nI 1), .ref q1, .ref q2, .ref q3, .ref q4, .ref q5, .ref q6], kC G q1 8 (nR (peF w0 w1)), kC G q2 120 (nR (knF w0 w1)), kC G q3 120 (nR (plF w0 w1)), kC G q4 80 (nR ru), kC G q5 8 (nR bf), kC G q6 2 (nR (nuF ho un))]) [kC G q1 8 (nR (peF w0 w1)), kC G q2 120 (nR (knF w0 w1)), kC G q3 120 (nR (plF w0 w1)), kC G q4 80 (nR ru), kC G q5 8 (nR bf), kC G q6 2 (nR (nuF ho un))] (k_runV (As := [.int (nI 1)]) (rest := []) (wc := [kO q0 4 [.int (nI 0), .ref q1, .ref q2, .ref q3, .ref q4, .ref q5, .ref q6]]) ⟨hx, hb, hml, hown, hts⟩ (m_fail l G q0 q1 q2 q3 q4 q5 q6 0 1 ) (cwV 1 hts gX4_wool_X4_fail rfl rfl rfl (by decide +kernel) ⟨Nat.le_of_ble_eq_true rfl, Nat.le_of_ble_eq_true rfl⟩) hK hZ hP hD hS hA [0] rfl rfl 0 4 rfl rfl rfl rfl hl.1 rfl (Nat.le_of_ble_eq_true rfl) dX4_wool_23 ⟨Nat.le_of_ble_eq_true rfl, Nat.le_of_ble_eq_true rfl⟩) hP hD hS hA [0] [1, 2, 3, 4, 5, 6] [6, 0, 1, 2, 3, 4, 5] rfl rfl rfl (by decide) (fun _ => rfl) rfl (fun r_23 u_23 H locs hp_23 hP hD hS => ?_)
    have hp_23 : r_23 = nI 0 := hp_23
    subst hp_23
    exact k_iret (ws := [kO q0 4 [.int (nI th), .ref q1, .ref q2, .ref q3, .ref q4, .ref q5, .ref q6], kC G q1 8 (nR (peF w0 w1)), kC G q2 120 (nR (knF w0 w1)), kC G q3 120 (nR (plF w0 w1)), kC G q4 80 (nR ru), kC G q5 8 (nR bf), kC G q6 2 (nR (nuF ho un))]) (()) hx hb hr hlocks hP hD hS hAe hQ (Nat.le_of_ble_eq_true rfl) (Nat.le_of_ble_eq_true rfl) dX4_wool_26 (by first | (rw [cdA_1 hp_6]; done)) (by first | exact fun q => absurd ((cdA_1 hp_6).symm.trans q) (by decide))
set_option maxHeartbeats 4000000 in
set_option maxRecDepth 100000 in
theorem m_runEnd0 (l : Launch) (G : kG) (q0 : Nat) (q1 : Nat) (q2 : Nat) (q3 : Nat) (q4 : Nat) (q5 : Nat) (q6 : Nat) (w0 : Wv) (w1 : Wv) (bf : Nat → Nat) (ho : Nat) (un : Nat) (ru : Nat → Nat) (th : Nat) (m9 : Nat) (hm9 : m9 < 60) (h0 : wOk w0) (h1 : wOk w1) (hru : ruOk w0 w1 ru) : kM l G yX4_runEnd wsX4_runEnd ({ frames := 0, cells := 0, slots := 0, locals := 0 } : Room) [.ref q0, .int (nI 0), .int (nI m9)] [kO q0 4 [.int (nI th), .ref q1, .ref q2, .ref q3, .ref q4, .ref q5, .ref q6], kC G q1 8 (nR (peF w0 w1)), kC G q2 120 (nR (knF w0 w1)), kC G q3 120 (nR (plF w0 w1)), kC G q4 80 (nR ru), kC G q5 8 (nR bf), kC G q6 2 (nR (nuF ho un))] (kQi G [kO q0 4 [.int (nI th), .ref q1, .ref q2, .ref q3, .ref q4, .ref q5, .ref q6], kC G q1 8 (nR (peF w0 w1)), kC G q2 120 (nR (knF w0 w1)), kC G q3 120 (nR (plF w0 w1)), kC G q4 80 (nR ru), kC G q5 8 (nR bf), kC G q6 2 (nR (nuF ho un))] (fun (r : Int32) (_ : Unit) => r = nI (alEnd (vP w0) m9)) (fun (_ : Unit) => [kO q0 4 [.int (nI th), .ref q1, .ref q2, .ref q3, .ref q4, .ref q5, .ref q6], kC G q1 8 (nR (peF w0 w1)), kC G q2 120 (nR (knF w0 w1)), kC G q3 120 (nR (plF w0 w1)), kC G q4 80 (nR ru), kC G q5 8 (nR bf), kC G q6 2 (nR (nuF ho un))])) := by
  refine k_ofW (cc := cX4_runEnd) (maxL := 4) (rt := (some .int)) (by decide) rfl (Nat.le_of_ble_eq_true rfl) ?_
  intro p e s m args below meth c A ls Qs H locs hQ hAe hx hb hr hml hts hown hlocks hin hK hZ hP hD hS hA hl
  have hown : s.vm.findClass RX4 = some m.cls := hown
  have hl : lv_has ls 4 [(0, .ref q0), (1, .int (nI 0)), (2, .int (nI m9))] := hl
  have m0b : vM w0 ≤ 60 := h0.2.2.2.1
  have m1b : vM w1 ≤ 60 := h1.2.2.2.1
  have t0b : vT w0 ≤ 20 := h0.2.2.1
  have t1b : vT w1 ≤ 20 := h1.2.2.1
  have pb0 : ∀ i, i < 60 → vP w0 i < 8 := h0.2.2.2.2.1
  have pb1 : ∀ i, i < 60 → vP w1 i < 8 := h1.2.2.2.2.1
  have kb0 : ∀ i, i < 60 → vK w0 i < 8 := h0.2.2.2.2.2.1
  have kb1 : ∀ i, i < 60 → vK w1 i < 8 := h1.2.2.2.2.2.1
  have rk0 := hru.1
  have rk1 := hru.2
  have hq_0 : ∀ w ∈ wsX40, w ∈ wsX4_runEnd := by decide +kernel
  have hq_1 : (Cond.fieldLink RX4 16 "KnotRugsModel" "plan" "[I").before args s = true := hts _ (by decide +kernel)
  refine lv_iload_n hx hb dX4_runEnd_0 rfl (lv_at hl 2 rfl) ?_
  refine lv_iconst (v := nI 1) hx hb dX4_runEnd_1 (by decide) ?_
  refine lv_iadd hx hb dX4_runEnd_2 ?_
  refine lv_topi (fun y_1 hy_1 => ?_)
  obtain rfl : y_1 = nI (m9 + 1) := hy_1.trans (nI_add m9 1)
  refine lv_istore_n (lv' := [(3, .int (nI (m9 + 1))), (0, .ref q0), (1, .int (nI 0)), (2, .int (nI m9))]) hx hb dX4_runEnd_3 rfl hl (by decide) rfl (fun ls hl => ?_)
  have loop_4 : ∀ (fu_4 : Nat) (i : Nat), i ≤ 60 → m9 < i → alF (vP w0) m9 (60 - i) i = alEnd (vP w0) m9 → 60 < i + fu_4 → ∀ (H : Heap) (locs : List Loc) (ls : Array Slot), va_P G.1 vwCl [kO q0 4 [.int (nI th), .ref q1, .ref q2, .ref q3, .ref q4, .ref q5, .ref q6], kC G q1 8 (nR (peF w0 w1)), kC G q2 120 (nR (knF w0 w1)), kC G q3 120 (nR (plF w0 w1)), kC G q4 80 (nR ru), kC G q5 8 (nR bf), kC G q6 2 (nR (nuF ho un))] H → va_D A [kO q0 4 [.int (nI th), .ref q1, .ref q2, .ref q3, .ref q4, .ref q5, .ref q6], kC G q1 8 (nR (peF w0 w1)), kC G q2 120 (nR (knF w0 w1)), kC G q3 120 (nR (plF w0 w1)), kC G q4 80 (nR ru), kC G q5 8 (nR bf), kC G q6 2 (nR (nuF ho un))] → va_S A s.heap H locs → lv_has ls 4 [(0, .ref q0), (1, .int (nI 0)), (2, .int (nI m9)), (3, .int (nI i))] → W p l e ({ frames := 0, cells := 0, slots := 0, locals := 0 } : Room) s m args below meth c H locs 0 0 Qs (F0 m 4 ls []) := by
    intro fu_4
    induction fu_4 with
    | zero =>
      intro i hi hj hv hf
      exact absurd hf (by omega)
    | succ fu_4 ih_4 =>
      intro i hi hj hv hf H locs ls hP hD hS hl
      refine lv_iload_n hx hb dX4_runEnd_4 rfl (lv_at hl 3 rfl) ?_
      refine lv_bipush (v := nI 60) hx hb dX4_runEnd_5 (by decide) ?_
      refine lv_icmp_ge (tgt := 41) hx hb dX4_runEnd_7 (by decide) (fun c_7 => ?_) (fun c_7 => ?_)
      · have c_7 : 60 ≤ i := (nI_leI (a := 60) (b := i) (by omega) (by omega)).mp c_7
        have he : i = alEnd (vP w0) m9 := al_e (by omega) hv
        refine lv_iload_n hx hb dX4_runEnd_41 rfl (lv_at hl 3 rfl) ?_
        exact k_iret (ws := [kO q0 4 [.int (nI th), .ref q1, .ref q2, .ref q3, .ref q4, .ref q5, .ref q6], kC G q1 8 (nR (peF w0 w1)), kC G q2 120 (nR (knF w0 w1)), kC G q3 120 (nR (plF w0 w1)), kC G q4 80 (nR ru), kC G q5 8 (nR bf), kC G q6 2 (nR (nuF ho un))]) (()) hx hb hr hlocks hP hD hS hAe hQ (Nat.le_of_ble_eq_true rfl) (Nat.le_of_ble_eq_true rfl) dX4_runEnd_42 (rfl) (by rw [he])
      · have c_7 : ¬ (60 ≤ i) := fun h9 => c_7 ((nI_leI (a := 60) (b := i) (by omega) (by omega)).mpr h9)
        refine lv_aload_n hx hb dX4_runEnd_10 rfl (lv_at hl 0 rfl) ?_
        refine va_get (D := G.1) (ci := 4) (v := .ref q3) (C := RX4) (T := TX4) (N := 7) hx hb hts hq_0 hown hK.1 hP 0 rfl rfl 3 (by decide) hq_1 (fun _ h9 => h9) rfl dX4_runEnd_11 ?_
        refine lv_bipush (v := nI 60) hx hb dX4_runEnd_14 (by decide) ?_
        refine lv_iload_n hx hb dX4_runEnd_16 rfl (lv_at hl 1 rfl) ?_
        refine lv_imul hx hb dX4_runEnd_17 ?_
        refine lv_topi (fun y_2 hy_2 => ?_)
        obtain rfl : y_2 = nI 0 := hy_2.trans (by decide)
        refine lv_iload_n hx hb dX4_runEnd_18 rfl (lv_at hl 3 rfl) ?_
        refine lv_iadd hx hb dX4_runEnd_19 ?_
        refine lv_topi (fun y_3 hy_3 => ?_)
        obtain rfl : y_3 = nI (0 + i) := hy_3.trans (nI_add 0 i)
        have hi_4 : (0 + i) < 120 := by omega
        refine va_iald (D := G.1) hx hb hK.1 hP 3 0 rfl rfl (vp_in_nI hi_4 (by omega)) dX4_runEnd_20 ?_
        refine lv_topi (fun y_5 hy_5 => ?_)
        obtain rfl : y_5 = nI ((plF w0 w1) (0 + i)) := hy_5.trans (nR_at (by omega))
        refine lv_topi (fun y_6 hy_6 => ?_)
        obtain rfl : y_6 = nI (vP w0 i) := hy_6.trans (congrArg nI (plF_lo0 (by omega)))
        refine lv_aload_n hx hb dX4_runEnd_21 rfl (lv_at hl 0 rfl) ?_
        refine va_get (D := G.1) (ci := 4) (v := .ref q3) (C := RX4) (T := TX4) (N := 7) hx hb hts hq_0 hown hK.1 hP 0 rfl rfl 3 (by decide) hq_1 (fun _ h9 => h9) rfl dX4_runEnd_22 ?_
        refine lv_bipush (v := nI 60) hx hb dX4_runEnd_25 (by decide) ?_
        refine lv_iload_n hx hb dX4_runEnd_27 rfl (lv_at hl 1 rfl) ?_
        refine lv_imul hx hb dX4_runEnd_28 ?_
        refine lv_topi (fun y_7 hy_7 => ?_)
        obtain rfl : y_7 = nI 0 := hy_7.trans (by decide)
        refine lv_iload_n hx hb dX4_runEnd_29 rfl (lv_at hl 2 rfl) ?_
        refine lv_iadd hx hb dX4_runEnd_30 ?_
        refine lv_topi (fun y_8 hy_8 => ?_)
        obtain rfl : y_8 = nI (0 + m9) := hy_8.trans (nI_add 0 m9)
        have hi_9 : (0 + m9) < 120 := by omega
        refine va_iald (D := G.1) hx hb hK.1 hP 3 0 rfl rfl (vp_in_nI hi_9 (by omega)) dX4_runEnd_31 ?_
        refine lv_topi (fun y_10 hy_10 => ?_)
        obtain rfl : y_10 = nI ((plF w0 w1) (0 + m9)) := hy_10.trans (nR_at (by omega))
        refine lv_topi (fun y_11 hy_11 => ?_)
        obtain rfl : y_11 = nI (vP w0 m9) := hy_11.trans (congrArg nI (plF_lo0 (by omega)))
        have xi := pb0 i (by omega)
        have xm := pb0 m9 hm9
        refine lv_icmp_ne (tgt := 41) hx hb dX4_runEnd_32 (by decide) (fun c_32 => ?_) (fun c_32 => ?_)
        · have c_32 : ¬ ((vP w0 i) = (vP w0 m9)) := fun h9 => c_32 ((nI_eq (a := (vP w0 i)) (b := (vP w0 m9)) (by omega) (by omega)).mpr h9)
          have he : i = alEnd (vP w0) m9 := al_d (by omega) hv c_32
          refine lv_iload_n hx hb dX4_runEnd_41 rfl (lv_at hl 3 rfl) ?_
          exact k_iret (ws := [kO q0 4 [.int (nI th), .ref q1, .ref q2, .ref q3, .ref q4, .ref q5, .ref q6], kC G q1 8 (nR (peF w0 w1)), kC G q2 120 (nR (knF w0 w1)), kC G q3 120 (nR (plF w0 w1)), kC G q4 80 (nR ru), kC G q5 8 (nR bf), kC G q6 2 (nR (nuF ho un))]) (()) hx hb hr hlocks hP hD hS hAe hQ (Nat.le_of_ble_eq_true rfl) (Nat.le_of_ble_eq_true rfl) dX4_runEnd_42 (rfl) (by rw [he])
        · have c_32 : (vP w0 i) = (vP w0 m9) := (nI_eq (a := (vP w0 i)) (b := (vP w0 m9)) (by omega) (by omega)).mp c_32
          refine lv_iinc (v := nI (i + 1)) (lv' := [(3, .int (nI (i + 1))), (0, .ref q0), (1, .int (nI 0)), (2, .int (nI m9))]) hx hb dX4_runEnd_35 hl (k := 3) rfl (nI_add i 1) (by decide) rfl (fun ls hl => ?_)
          refine lv_goto (tgt := 4) hx hb dX4_runEnd_38 (by decide) ?_
          exact ih_4 (i + 1) (by omega) (by omega) (al_s (by omega) hv c_32) (by omega) _ _ _ hP hD hS (lv_sub hl [1, 2, 3, 0] rfl)
  exact loop_4 61 (m9 + 1) (by omega) (by omega) rfl (by omega) H locs ls hP hD hS (lv_sub hl [1, 2, 3, 0] rfl)
set_option maxHeartbeats 4000000 in
set_option maxRecDepth 100000 in
theorem m_runEnd1 (l : Launch) (G : kG) (q0 : Nat) (q1 : Nat) (q2 : Nat) (q3 : Nat) (q4 : Nat) (q5 : Nat) (q6 : Nat) (w0 : Wv) (w1 : Wv) (bf : Nat → Nat) (ho : Nat) (un : Nat) (ru : Nat → Nat) (th : Nat) (m9 : Nat) (hm9 : m9 < 60) (h0 : wOk w0) (h1 : wOk w1) (hru : ruOk w0 w1 ru) : kM l G yX4_runEnd wsX4_runEnd ({ frames := 0, cells := 0, slots := 0, locals := 0 } : Room) [.ref q0, .int (nI 1), .int (nI m9)] [kO q0 4 [.int (nI th), .ref q1, .ref q2, .ref q3, .ref q4, .ref q5, .ref q6], kC G q1 8 (nR (peF w0 w1)), kC G q2 120 (nR (knF w0 w1)), kC G q3 120 (nR (plF w0 w1)), kC G q4 80 (nR ru), kC G q5 8 (nR bf), kC G q6 2 (nR (nuF ho un))] (kQi G [kO q0 4 [.int (nI th), .ref q1, .ref q2, .ref q3, .ref q4, .ref q5, .ref q6], kC G q1 8 (nR (peF w0 w1)), kC G q2 120 (nR (knF w0 w1)), kC G q3 120 (nR (plF w0 w1)), kC G q4 80 (nR ru), kC G q5 8 (nR bf), kC G q6 2 (nR (nuF ho un))] (fun (r : Int32) (_ : Unit) => r = nI (alEnd (vP w1) m9)) (fun (_ : Unit) => [kO q0 4 [.int (nI th), .ref q1, .ref q2, .ref q3, .ref q4, .ref q5, .ref q6], kC G q1 8 (nR (peF w0 w1)), kC G q2 120 (nR (knF w0 w1)), kC G q3 120 (nR (plF w0 w1)), kC G q4 80 (nR ru), kC G q5 8 (nR bf), kC G q6 2 (nR (nuF ho un))])) := by
  refine k_ofW (cc := cX4_runEnd) (maxL := 4) (rt := (some .int)) (by decide) rfl (Nat.le_of_ble_eq_true rfl) ?_
  intro p e s m args below meth c A ls Qs H locs hQ hAe hx hb hr hml hts hown hlocks hin hK hZ hP hD hS hA hl
  have hown : s.vm.findClass RX4 = some m.cls := hown
  have hl : lv_has ls 4 [(0, .ref q0), (1, .int (nI 1)), (2, .int (nI m9))] := hl
  have m0b : vM w0 ≤ 60 := h0.2.2.2.1
  have m1b : vM w1 ≤ 60 := h1.2.2.2.1
  have t0b : vT w0 ≤ 20 := h0.2.2.1
  have t1b : vT w1 ≤ 20 := h1.2.2.1
  have pb0 : ∀ i, i < 60 → vP w0 i < 8 := h0.2.2.2.2.1
  have pb1 : ∀ i, i < 60 → vP w1 i < 8 := h1.2.2.2.2.1
  have kb0 : ∀ i, i < 60 → vK w0 i < 8 := h0.2.2.2.2.2.1
  have kb1 : ∀ i, i < 60 → vK w1 i < 8 := h1.2.2.2.2.2.1
  have rk0 := hru.1
  have rk1 := hru.2
  have hq_0 : ∀ w ∈ wsX40, w ∈ wsX4_runEnd := by decide +kernel
  have hq_1 : (Cond.fieldLink RX4 16 "KnotRugsModel" "plan" "[I").before args s = true := hts _ (by decide +kernel)
  refine lv_iload_n hx hb dX4_runEnd_0 rfl (lv_at hl 2 rfl) ?_
  refine lv_iconst (v := nI 1) hx hb dX4_runEnd_1 (by decide) ?_
  refine lv_iadd hx hb dX4_runEnd_2 ?_
  refine lv_topi (fun y_1 hy_1 => ?_)
  obtain rfl : y_1 = nI (m9 + 1) := hy_1.trans (nI_add m9 1)
  refine lv_istore_n (lv' := [(3, .int (nI (m9 + 1))), (0, .ref q0), (1, .int (nI 1)), (2, .int (nI m9))]) hx hb dX4_runEnd_3 rfl hl (by decide) rfl (fun ls hl => ?_)
  have loop_4 : ∀ (fu_4 : Nat) (i : Nat), i ≤ 60 → m9 < i → alF (vP w1) m9 (60 - i) i = alEnd (vP w1) m9 → 60 < i + fu_4 → ∀ (H : Heap) (locs : List Loc) (ls : Array Slot), va_P G.1 vwCl [kO q0 4 [.int (nI th), .ref q1, .ref q2, .ref q3, .ref q4, .ref q5, .ref q6], kC G q1 8 (nR (peF w0 w1)), kC G q2 120 (nR (knF w0 w1)), kC G q3 120 (nR (plF w0 w1)), kC G q4 80 (nR ru), kC G q5 8 (nR bf), kC G q6 2 (nR (nuF ho un))] H → va_D A [kO q0 4 [.int (nI th), .ref q1, .ref q2, .ref q3, .ref q4, .ref q5, .ref q6], kC G q1 8 (nR (peF w0 w1)), kC G q2 120 (nR (knF w0 w1)), kC G q3 120 (nR (plF w0 w1)), kC G q4 80 (nR ru), kC G q5 8 (nR bf), kC G q6 2 (nR (nuF ho un))] → va_S A s.heap H locs → lv_has ls 4 [(0, .ref q0), (1, .int (nI 1)), (2, .int (nI m9)), (3, .int (nI i))] → W p l e ({ frames := 0, cells := 0, slots := 0, locals := 0 } : Room) s m args below meth c H locs 0 0 Qs (F0 m 4 ls []) := by
    intro fu_4
    induction fu_4 with
    | zero =>
      intro i hi hj hv hf
      exact absurd hf (by omega)
    | succ fu_4 ih_4 =>
      intro i hi hj hv hf H locs ls hP hD hS hl
      refine lv_iload_n hx hb dX4_runEnd_4 rfl (lv_at hl 3 rfl) ?_
      refine lv_bipush (v := nI 60) hx hb dX4_runEnd_5 (by decide) ?_
      refine lv_icmp_ge (tgt := 41) hx hb dX4_runEnd_7 (by decide) (fun c_7 => ?_) (fun c_7 => ?_)
      · have c_7 : 60 ≤ i := (nI_leI (a := 60) (b := i) (by omega) (by omega)).mp c_7
        have he : i = alEnd (vP w1) m9 := al_e (by omega) hv
        refine lv_iload_n hx hb dX4_runEnd_41 rfl (lv_at hl 3 rfl) ?_
        exact k_iret (ws := [kO q0 4 [.int (nI th), .ref q1, .ref q2, .ref q3, .ref q4, .ref q5, .ref q6], kC G q1 8 (nR (peF w0 w1)), kC G q2 120 (nR (knF w0 w1)), kC G q3 120 (nR (plF w0 w1)), kC G q4 80 (nR ru), kC G q5 8 (nR bf), kC G q6 2 (nR (nuF ho un))]) (()) hx hb hr hlocks hP hD hS hAe hQ (Nat.le_of_ble_eq_true rfl) (Nat.le_of_ble_eq_true rfl) dX4_runEnd_42 (rfl) (by rw [he])
      · have c_7 : ¬ (60 ≤ i) := fun h9 => c_7 ((nI_leI (a := 60) (b := i) (by omega) (by omega)).mpr h9)
        refine lv_aload_n hx hb dX4_runEnd_10 rfl (lv_at hl 0 rfl) ?_
        refine va_get (D := G.1) (ci := 4) (v := .ref q3) (C := RX4) (T := TX4) (N := 7) hx hb hts hq_0 hown hK.1 hP 0 rfl rfl 3 (by decide) hq_1 (fun _ h9 => h9) rfl dX4_runEnd_11 ?_
        refine lv_bipush (v := nI 60) hx hb dX4_runEnd_14 (by decide) ?_
        refine lv_iload_n hx hb dX4_runEnd_16 rfl (lv_at hl 1 rfl) ?_
        refine lv_imul hx hb dX4_runEnd_17 ?_
        refine lv_topi (fun y_2 hy_2 => ?_)
        obtain rfl : y_2 = nI 60 := hy_2.trans (by decide)
        refine lv_iload_n hx hb dX4_runEnd_18 rfl (lv_at hl 3 rfl) ?_
        refine lv_iadd hx hb dX4_runEnd_19 ?_
        refine lv_topi (fun y_3 hy_3 => ?_)
        obtain rfl : y_3 = nI (60 + i) := hy_3.trans (nI_add 60 i)
        have hi_4 : (60 + i) < 120 := by omega
        refine va_iald (D := G.1) hx hb hK.1 hP 3 0 rfl rfl (vp_in_nI hi_4 (by omega)) dX4_runEnd_20 ?_
        refine lv_topi (fun y_5 hy_5 => ?_)
        obtain rfl : y_5 = nI ((plF w0 w1) (60 + i)) := hy_5.trans (nR_at (by omega))
        refine lv_topi (fun y_6 hy_6 => ?_)
        obtain rfl : y_6 = nI (vP w1 i) := hy_6.trans (congrArg nI (plF_hi))
        refine lv_aload_n hx hb dX4_runEnd_21 rfl (lv_at hl 0 rfl) ?_
        refine va_get (D := G.1) (ci := 4) (v := .ref q3) (C := RX4) (T := TX4) (N := 7) hx hb hts hq_0 hown hK.1 hP 0 rfl rfl 3 (by decide) hq_1 (fun _ h9 => h9) rfl dX4_runEnd_22 ?_
        refine lv_bipush (v := nI 60) hx hb dX4_runEnd_25 (by decide) ?_
        refine lv_iload_n hx hb dX4_runEnd_27 rfl (lv_at hl 1 rfl) ?_
        refine lv_imul hx hb dX4_runEnd_28 ?_
        refine lv_topi (fun y_7 hy_7 => ?_)
        obtain rfl : y_7 = nI 60 := hy_7.trans (by decide)
        refine lv_iload_n hx hb dX4_runEnd_29 rfl (lv_at hl 2 rfl) ?_
        refine lv_iadd hx hb dX4_runEnd_30 ?_
        refine lv_topi (fun y_8 hy_8 => ?_)
        obtain rfl : y_8 = nI (60 + m9) := hy_8.trans (nI_add 60 m9)
        have hi_9 : (60 + m9) < 120 := by omega
        refine va_iald (D := G.1) hx hb hK.1 hP 3 0 rfl rfl (vp_in_nI hi_9 (by omega)) dX4_runEnd_31 ?_
        refine lv_topi (fun y_10 hy_10 => ?_)
        obtain rfl : y_10 = nI ((plF w0 w1) (60 + m9)) := hy_10.trans (nR_at (by omega))
        refine lv_topi (fun y_11 hy_11 => ?_)
        obtain rfl : y_11 = nI (vP w1 m9) := hy_11.trans (congrArg nI (plF_hi))
        have xi := pb1 i (by omega)
        have xm := pb1 m9 hm9
        refine lv_icmp_ne (tgt := 41) hx hb dX4_runEnd_32 (by decide) (fun c_32 => ?_) (fun c_32 => ?_)
        · have c_32 : ¬ ((vP w1 i) = (vP w1 m9)) := fun h9 => c_32 ((nI_eq (a := (vP w1 i)) (b := (vP w1 m9)) (by omega) (by omega)).mpr h9)
          have he : i = alEnd (vP w1) m9 := al_d (by omega) hv c_32
          refine lv_iload_n hx hb dX4_runEnd_41 rfl (lv_at hl 3 rfl) ?_
          exact k_iret (ws := [kO q0 4 [.int (nI th), .ref q1, .ref q2, .ref q3, .ref q4, .ref q5, .ref q6], kC G q1 8 (nR (peF w0 w1)), kC G q2 120 (nR (knF w0 w1)), kC G q3 120 (nR (plF w0 w1)), kC G q4 80 (nR ru), kC G q5 8 (nR bf), kC G q6 2 (nR (nuF ho un))]) (()) hx hb hr hlocks hP hD hS hAe hQ (Nat.le_of_ble_eq_true rfl) (Nat.le_of_ble_eq_true rfl) dX4_runEnd_42 (rfl) (by rw [he])
        · have c_32 : (vP w1 i) = (vP w1 m9) := (nI_eq (a := (vP w1 i)) (b := (vP w1 m9)) (by omega) (by omega)).mp c_32
          refine lv_iinc (v := nI (i + 1)) (lv' := [(3, .int (nI (i + 1))), (0, .ref q0), (1, .int (nI 1)), (2, .int (nI m9))]) hx hb dX4_runEnd_35 hl (k := 3) rfl (nI_add i 1) (by decide) rfl (fun ls hl => ?_)
          refine lv_goto (tgt := 4) hx hb dX4_runEnd_38 (by decide) ?_
          exact ih_4 (i + 1) (by omega) (by omega) (al_s (by omega) hv c_32) (by omega) _ _ _ hP hD hS (lv_sub hl [1, 2, 3, 0] rfl)
  exact loop_4 61 (m9 + 1) (by omega) (by omega) rfl (by omega) H locs ls hP hD hS (lv_sub hl [1, 2, 3, 0] rfl)
set_option maxHeartbeats 4000000 in
set_option maxRecDepth 100000 in
theorem m_advise (l : Launch) (G : kG) (q0 : Nat) (q1 : Nat) (q2 : Nat) (q3 : Nat) (q4 : Nat) (q5 : Nat) (q6 : Nat) (w0 : Wv) (w1 : Wv) (bf : Nat → Nat) (ho : Nat) (un : Nat) (ru : Nat → Nat) (th : Nat) (x1 : Int32) (h0 : wOk w0) (h1 : wOk w1) (hB : bOk bf) (hru : ruOk w0 w1 ru) : kM l G yX4_advise wsX4_advise ({ frames := 2, cells := 0, slots := 0, locals := 42 } : Room) [.ref q0, .int x1] [kO q0 4 [.int (nI th), .ref q1, .ref q2, .ref q3, .ref q4, .ref q5, .ref q6], kC G q1 8 (nR (peF w0 w1)), kC G q2 120 (nR (knF w0 w1)), kC G q3 120 (nR (plF w0 w1)), kC G q4 80 (nR ru), kC G q5 8 (nR bf), kC G q6 2 (nR (nuF ho un))] (kQi G [kO q0 4 [.int (nI th), .ref q1, .ref q2, .ref q3, .ref q4, .ref q5, .ref q6], kC G q1 8 (nR (peF w0 w1)), kC G q2 120 (nR (knF w0 w1)), kC G q3 120 (nR (plF w0 w1)), kC G q4 80 (nR ru), kC G q5 8 (nR bf), kC G q6 2 (nR (nuF ho un))] (fun (r : Int32) (_ : Unit) => cdA (inR x1 2) = 0 → r = aAdv (gW (w0, w1, bf, ho, un) (tN x1))) (fun (_ : Unit) => [kO q0 4 [.int (nI (cdA (inR x1 2))), .ref q1, .ref q2, .ref q3, .ref q4, .ref q5, .ref q6], kC G q1 8 (nR (peF w0 w1)), kC G q2 120 (nR (knF w0 w1)), kC G q3 120 (nR (plF w0 w1)), kC G q4 80 (nR ru), kC G q5 8 (nR bf), kC G q6 2 (nR (nuF ho un))])) := by
  refine k_ofW (cc := cX4_advise) (maxL := 3) (rt := (some .int)) (by decide) rfl (Nat.le_of_ble_eq_true rfl) ?_
  intro p e s m args below meth c A ls Qs H locs hQ hAe hx hb hr hml hts hown hlocks hin hK hZ hP hD hS hA hl
  have hown : s.vm.findClass RX4 = some m.cls := hown
  have hl : lv_has ls 3 [(0, .ref q0), (1, .int x1)] := hl
  have m0b : vM w0 ≤ 60 := h0.2.2.2.1
  have m1b : vM w1 ≤ 60 := h1.2.2.2.1
  have t0b : vT w0 ≤ 20 := h0.2.2.1
  have t1b : vT w1 ≤ 20 := h1.2.2.1
  have pb0 : ∀ i, i < 60 → vP w0 i < 8 := h0.2.2.2.2.1
  have pb1 : ∀ i, i < 60 → vP w1 i < 8 := h1.2.2.2.2.1
  have kb0 : ∀ i, i < 60 → vK w0 i < 8 := h0.2.2.2.2.2.1
  have kb1 : ∀ i, i < 60 → vK w1 i < 8 := h1.2.2.2.2.2.1
  have rk0 := hru.1
  have rk1 := hru.2
  have hq_0 : ∀ w ∈ wsX40, w ∈ wsX4_advise := by decide +kernel
  have hq_1 : (Cond.fieldLink RX4 28 "KnotRugsModel" "thrown" "I").before args s = true := hts _ (by decide +kernel)
  have hq_2 : (Cond.fieldLink RX4 16 "KnotRugsModel" "plan" "[I").before args s = true := hts _ (by decide +kernel)
  refine lv_aload_n hx hb dX4_advise_0 rfl (lv_at hl 0 rfl) ?_
  refine lv_iconst (v := nI 0) hx hb dX4_advise_1 (by decide) ?_
  refine va_put (D := G.1) (ci := 4) (v := .int (nI 0)) (ty := .int) (C := RX4) (T := TX4) (N := 7) hx hb hts hq_0 tyX4 tyX4_ok nmX4 hown hK.1 hP hD hS 0 rfl rfl 0 (by decide) hq_1 (fun _ h9 => h9) rfl (by decide +kernel) rfl rfl (Nat.le_of_ble_eq_true rfl) dX4_advise_2 (fun H locs hP hD hS => ?_)
  have hP : va_P G.1 vwCl [kO q0 4 [.int (nI 0), .ref q1, .ref q2, .ref q3, .ref q4, .ref q5, .ref q6], kC G q1 8 (nR (peF w0 w1)), kC G q2 120 (nR (knF w0 w1)), kC G q3 120 (nR (plF w0 w1)), kC G q4 80 (nR ru), kC G q5 8 (nR bf), kC G q6 2 (nR (nuF ho un))] H := hP
  have hD : va_D A [kO q0 4 [.int (nI 0), .ref q1, .ref q2, .ref q3, .ref q4, .ref q5, .ref q6], kC G q1 8 (nR (peF w0 w1)), kC G q2 120 (nR (knF w0 w1)), kC G q3 120 (nR (plF w0 w1)), kC G q4 80 (nR ru), kC G q5 8 (nR bf), kC G q6 2 (nR (nuF ho un))] := hD
  refine lv_iload_n hx hb dX4_advise_5 rfl (lv_at hl 1 rfl) ?_
  refine k_calli (fun u_6 => [kO q0 4 [.int (nI 0), .ref q1, .ref q2, .ref q3, .ref q4, .ref q5, .ref q6], kC G q1 8 (nR (peF w0 w1)), kC G q2 120 (nR (knF w0 w1)), kC G q3 120 (nR (plF w0 w1)), kC G q4 80 (nR ru), kC G q5 8 (nR bf), kC G q6 2 (nR (nuF ho un))]) [kO q0 4 [.int (nI 0), .ref q1, .ref q2, .ref q3, .ref q4, .ref q5, .ref q6], kC G q1 8 (nR (peF w0 w1)), kC G q2 120 (nR (knF w0 w1)), kC G q3 120 (nR (plF w0 w1)), kC G q4 80 (nR ru), kC G q5 8 (nR bf), kC G q6 2 (nR (nuF ho un))] (k_runS (As := [.int x1]) (rest := []) (wc := []) ⟨hx, hb, hml, hown, hts⟩ (m_isWeaver l G x1 ) (va_cwS 1 hts gX4_advise_X4_isWeaver rfl rfl rfl (by decide +kernel) ⟨Nat.le_of_ble_eq_true rfl, Nat.le_of_ble_eq_true rfl⟩) hK hZ hP hD hS hA [] rfl rfl rfl hl.1 rfl (Nat.le_of_ble_eq_true rfl) dX4_advise_6 ⟨Nat.le_of_ble_eq_true rfl, Nat.le_of_ble_eq_true rfl⟩) hP hD hS hA [] [0, 1, 2, 3, 4, 5, 6] [0, 1, 2, 3, 4, 5, 6] rfl rfl rfl (by decide) (fun _ => rfl) rfl (fun r_6 u_6 H locs hp_6 hP hD hS => ?_)
  rcases hp_6 with ⟨rfl, hp_6⟩ | ⟨rfl, hp_6⟩
  · refine lv_if_ne (tgt := 18) hx hb dX4_advise_9 (by decide) (fun c_9 => ?_) (fun c_9 => absurd c_9 (by decide))
    obtain ⟨j, hj, ej⟩ := id hp_6
    subst ej
    have tj : tN (nI j) = j := tN_nI (by omega)
    rcases (show j = 0 ∨ j = 1 by omega) with rfl | rfl
    · skip
      refine lv_aload_n hx hb dX4_advise_18 rfl (lv_at hl 0 rfl) ?_
      refine lv_iload_n hx hb dX4_advise_19 rfl (lv_at hl 1 rfl) ?_
      refine lv_iconst (v := nI 1) hx hb dX4_advise_20 (by decide) ?_
      refine k_calli (fun _ => [kO q0 4 [.int (nI 0), .ref q1, .ref q2, .ref q3, .ref q4, .ref q5, .ref q6], kC G q1 8 (nR (peF w0 w1)), kC G q2 120 (nR (knF w0 w1)), kC G q3 120 (nR (plF w0 w1)), kC G q4 80 (nR ru), kC G q5 8 (nR bf), kC G q6 2 (nR (nuF ho un))]) [kC G q2 120 (nR (knF w0 w1)), kC G q3 120 (nR (plF w0 w1)), kC G q4 80 (nR ru), kC G q5 8 (nR bf), kC G q6 2 (nR (nuF ho un))] (k_runV (As := [.int (nI 0), .int (nI 1)]) (rest := []) (wc := [kO q0 4 [.int (nI 0), .ref q1, .ref q2, .ref q3, .ref q4, .ref q5, .ref q6], kC G q1 8 (nR (peF w0 w1))]) ⟨hx, hb, hml, hown, hts⟩ (m_pe l G q0 q1 q2 q3 q4 q5 q6 0 (peF w0 w1) 0 1 (by decide) (by decide)) (cwV 2 hts gX4_advise_X4_pe rfl rfl rfl (by decide +kernel) ⟨Nat.le_of_ble_eq_true rfl, Nat.le_of_ble_eq_true rfl⟩) hK hZ hP hD hS hA [0, 1] rfl rfl 0 4 rfl rfl rfl rfl hl.1 rfl (Nat.le_of_ble_eq_true rfl) dX4_advise_21 ⟨Nat.le_of_ble_eq_true rfl, Nat.le_of_ble_eq_true rfl⟩) hP hD hS hA [0, 1] [2, 3, 4, 5, 6] [5, 6, 0, 1, 2, 3, 4] rfl rfl rfl (by decide) (fun _ => rfl) rfl (fun r_21 u_21 H locs hp_21 hP hD hS => ?_)
      have hp_21 : r_21 = nI (vM w0) := hp_21
      subst hp_21
      refine lv_istore_n (lv' := [(2, .int (nI (vM w0))), (0, .ref q0), (1, .int (nI 0))]) hx hb dX4_advise_24 rfl hl (by decide) rfl (fun ls hl => ?_)
      refine lv_iload_n hx hb dX4_advise_25 rfl (lv_at hl 0 rfl) ?_
      refine lv_bipush (v := nI 60) hx hb dX4_advise_26 (by decide) ?_
      refine lv_icmp_ne (tgt := 35) hx hb dX4_advise_28 (by decide) (fun c_28 => ?_) (fun c_28 => ?_)
      · have c_28 : ¬ ((vM w0) = 60) := fun h9 => c_28 ((nI_eq (a := (vM w0)) (b := 60) (by omega) (by omega)).mpr h9)
        refine lv_bipush (v := nI 100) hx hb dX4_advise_35 (by decide) ?_
        refine lv_aload_n hx hb dX4_advise_37 rfl (lv_at hl 1 rfl) ?_
        refine va_get (D := G.1) (ci := 4) (v := .ref q3) (C := RX4) (T := TX4) (N := 7) hx hb hts hq_0 hown hK.1 hP 0 rfl rfl 3 (by decide) hq_2 (fun _ h9 => h9) rfl dX4_advise_38 ?_
        refine lv_bipush (v := nI 60) hx hb dX4_advise_41 (by decide) ?_
        refine lv_iload_n hx hb dX4_advise_43 rfl (lv_at hl 2 rfl) ?_
        refine lv_imul hx hb dX4_advise_44 ?_
        refine lv_topi (fun y_1 hy_1 => ?_)
        obtain rfl : y_1 = nI 0 := hy_1.trans (by decide)
        refine lv_iload_n hx hb dX4_advise_45 rfl (lv_at hl 0 rfl) ?_
        refine lv_iadd hx hb dX4_advise_46 ?_
        refine lv_topi (fun y_2 hy_2 => ?_)
        obtain rfl : y_2 = nI (0 + (vM w0)) := hy_2.trans (nI_add 0 (vM w0))
        have hi_3 : (0 + (vM w0)) < 120 := by omega
        refine va_iald (D := G.1) hx hb hK.1 hP 3 0 rfl rfl (vp_in_nI hi_3 (by omega)) dX4_advise_47 ?_
        refine lv_topi (fun y_4 hy_4 => ?_)
        obtain rfl : y_4 = nI ((plF w0 w1) (0 + (vM w0))) := hy_4.trans (nR_at (by omega))
        refine lv_topi (fun y_5 hy_5 => ?_)
        obtain rfl : y_5 = nI (vP w0 (vM w0)) := hy_5.trans (congrArg nI (plF_lo0 (by omega)))
        refine lv_imul hx hb dX4_advise_48 ?_
        refine lv_topi (fun y_6 hy_6 => ?_)
        obtain rfl : y_6 = nI (100 * (vP w0 (vM w0))) := hy_6.trans (pk_mul 100 (vP w0 (vM w0)))
        refine lv_aload_n hx hb dX4_advise_49 rfl (lv_at hl 1 rfl) ?_
        refine lv_iload_n hx hb dX4_advise_50 rfl (lv_at hl 2 rfl) ?_
        refine lv_iload_n hx hb dX4_advise_51 rfl (lv_at hl 0 rfl) ?_
        refine k_calli (fun _ => [kO q0 4 [.int (nI 0), .ref q1, .ref q2, .ref q3, .ref q4, .ref q5, .ref q6], kC G q1 8 (nR (peF w0 w1)), kC G q2 120 (nR (knF w0 w1)), kC G q3 120 (nR (plF w0 w1)), kC G q4 80 (nR ru), kC G q5 8 (nR bf), kC G q6 2 (nR (nuF ho un))]) [] (k_runV (As := [.int (nI 0), .int (nI (vM w0))]) (rest := [.int (nI (100 * (vP w0 (vM w0))))]) (wc := [kO q0 4 [.int (nI 0), .ref q1, .ref q2, .ref q3, .ref q4, .ref q5, .ref q6], kC G q1 8 (nR (peF w0 w1)), kC G q2 120 (nR (knF w0 w1)), kC G q3 120 (nR (plF w0 w1)), kC G q4 80 (nR ru), kC G q5 8 (nR bf), kC G q6 2 (nR (nuF ho un))]) ⟨hx, hb, hml, hown, hts⟩ (m_runEnd0 l G q0 q1 q2 q3 q4 q5 q6 w0 w1 bf ho un ru 0 (vM w0) (by omega) h0 h1 hru) (cwV 2 hts gX4_advise_X4_runEnd rfl rfl rfl (by decide +kernel) ⟨Nat.le_of_ble_eq_true rfl, Nat.le_of_ble_eq_true rfl⟩) hK hZ hP hD hS hA [0, 1, 2, 3, 4, 5, 6] rfl rfl 0 4 rfl rfl rfl rfl hl.1 rfl (Nat.le_of_ble_eq_true rfl) dX4_advise_52 ⟨Nat.le_of_ble_eq_true rfl, Nat.le_of_ble_eq_true rfl⟩) hP hD hS hA [0, 1, 2, 3, 4, 5, 6] [] [0, 1, 2, 3, 4, 5, 6] rfl rfl rfl (by decide) (fun _ => rfl) rfl (fun r_52 u_52 H locs hp_52 hP hD hS => ?_)
        have hp_52 : r_52 = nI (alEnd (vP w0) (vM w0)) := hp_52
        subst hp_52
        have hae := alEnd_in (P := vP w0) (m := vM w0) (by omega)
        refine lv_iadd hx hb dX4_advise_55 ?_
        refine lv_topi (fun y_7 hy_7 => ?_)
        obtain rfl : y_7 = nI ((100 * (vP w0 (vM w0))) + (alEnd (vP w0) (vM w0))) := hy_7.trans (nI_add (100 * (vP w0 (vM w0))) (alEnd (vP w0) (vM w0)))
        refine lv_iload_n hx hb dX4_advise_56 rfl (lv_at hl 0 rfl) ?_
        refine lv_isub hx hb dX4_advise_57 ?_
        refine lv_topi (fun y_8 hy_8 => ?_)
        obtain rfl : y_8 = nI (((100 * (vP w0 (vM w0))) + (alEnd (vP w0) (vM w0))) - (vM w0)) := hy_8.trans (pk_sub (a := ((100 * (vP w0 (vM w0))) + (alEnd (vP w0) (vM w0)))) (b := (vM w0)) (by omega))
        exact k_iret (ws := [kO q0 4 [.int (nI th), .ref q1, .ref q2, .ref q3, .ref q4, .ref q5, .ref q6], kC G q1 8 (nR (peF w0 w1)), kC G q2 120 (nR (knF w0 w1)), kC G q3 120 (nR (plF w0 w1)), kC G q4 80 (nR ru), kC G q5 8 (nR bf), kC G q6 2 (nR (nuF ho un))]) (()) hx hb hr hlocks hP hD hS hAe hQ (Nat.le_of_ble_eq_true rfl) (Nat.le_of_ble_eq_true rfl) dX4_advise_58 (by rw [cdA_0 hp_6]) (fun _ => (by rw [tj]; show _ = aAdv w0; unfold aAdv; rw [if_pos (by omega)]; congr 1; omega))
      · have c_28 : (vM w0) = 60 := (nI_eq (a := (vM w0)) (b := 60) (by omega) (by omega)).mp c_28
        refine lv_iconst (v := (-1)) hx hb dX4_advise_31 (by decide) ?_
        refine lv_goto (tgt := 58) hx hb dX4_advise_32 (by decide) ?_
        exact k_iret (ws := [kO q0 4 [.int (nI th), .ref q1, .ref q2, .ref q3, .ref q4, .ref q5, .ref q6], kC G q1 8 (nR (peF w0 w1)), kC G q2 120 (nR (knF w0 w1)), kC G q3 120 (nR (plF w0 w1)), kC G q4 80 (nR ru), kC G q5 8 (nR bf), kC G q6 2 (nR (nuF ho un))]) (()) hx hb hr hlocks hP hD hS hAe hQ (Nat.le_of_ble_eq_true rfl) (Nat.le_of_ble_eq_true rfl) dX4_advise_58 (by rw [cdA_0 hp_6]) (fun _ => (by rw [tj]; show _ = aAdv w0; unfold aAdv; rw [if_neg (by omega)]))
    · skip
      refine lv_aload_n hx hb dX4_advise_18 rfl (lv_at hl 0 rfl) ?_
      refine lv_iload_n hx hb dX4_advise_19 rfl (lv_at hl 1 rfl) ?_
      refine lv_iconst (v := nI 1) hx hb dX4_advise_20 (by decide) ?_
      refine k_calli (fun _ => [kO q0 4 [.int (nI 0), .ref q1, .ref q2, .ref q3, .ref q4, .ref q5, .ref q6], kC G q1 8 (nR (peF w0 w1)), kC G q2 120 (nR (knF w0 w1)), kC G q3 120 (nR (plF w0 w1)), kC G q4 80 (nR ru), kC G q5 8 (nR bf), kC G q6 2 (nR (nuF ho un))]) [kC G q2 120 (nR (knF w0 w1)), kC G q3 120 (nR (plF w0 w1)), kC G q4 80 (nR ru), kC G q5 8 (nR bf), kC G q6 2 (nR (nuF ho un))] (k_runV (As := [.int (nI 1), .int (nI 1)]) (rest := []) (wc := [kO q0 4 [.int (nI 0), .ref q1, .ref q2, .ref q3, .ref q4, .ref q5, .ref q6], kC G q1 8 (nR (peF w0 w1))]) ⟨hx, hb, hml, hown, hts⟩ (m_pe l G q0 q1 q2 q3 q4 q5 q6 0 (peF w0 w1) 1 1 (by decide) (by decide)) (cwV 2 hts gX4_advise_X4_pe rfl rfl rfl (by decide +kernel) ⟨Nat.le_of_ble_eq_true rfl, Nat.le_of_ble_eq_true rfl⟩) hK hZ hP hD hS hA [0, 1] rfl rfl 0 4 rfl rfl rfl rfl hl.1 rfl (Nat.le_of_ble_eq_true rfl) dX4_advise_21 ⟨Nat.le_of_ble_eq_true rfl, Nat.le_of_ble_eq_true rfl⟩) hP hD hS hA [0, 1] [2, 3, 4, 5, 6] [5, 6, 0, 1, 2, 3, 4] rfl rfl rfl (by decide) (fun _ => rfl) rfl (fun r_21 u_21 H locs hp_21 hP hD hS => ?_)
      have hp_21 : r_21 = nI (vM w1) := hp_21
      subst hp_21
      refine lv_istore_n (lv' := [(2, .int (nI (vM w1))), (0, .ref q0), (1, .int (nI 1))]) hx hb dX4_advise_24 rfl hl (by decide) rfl (fun ls hl => ?_)
      refine lv_iload_n hx hb dX4_advise_25 rfl (lv_at hl 0 rfl) ?_
      refine lv_bipush (v := nI 60) hx hb dX4_advise_26 (by decide) ?_
      refine lv_icmp_ne (tgt := 35) hx hb dX4_advise_28 (by decide) (fun c_28 => ?_) (fun c_28 => ?_)
      · have c_28 : ¬ ((vM w1) = 60) := fun h9 => c_28 ((nI_eq (a := (vM w1)) (b := 60) (by omega) (by omega)).mpr h9)
        refine lv_bipush (v := nI 100) hx hb dX4_advise_35 (by decide) ?_
        refine lv_aload_n hx hb dX4_advise_37 rfl (lv_at hl 1 rfl) ?_
        refine va_get (D := G.1) (ci := 4) (v := .ref q3) (C := RX4) (T := TX4) (N := 7) hx hb hts hq_0 hown hK.1 hP 0 rfl rfl 3 (by decide) hq_2 (fun _ h9 => h9) rfl dX4_advise_38 ?_
        refine lv_bipush (v := nI 60) hx hb dX4_advise_41 (by decide) ?_
        refine lv_iload_n hx hb dX4_advise_43 rfl (lv_at hl 2 rfl) ?_
        refine lv_imul hx hb dX4_advise_44 ?_
        refine lv_topi (fun y_9 hy_9 => ?_)
        obtain rfl : y_9 = nI 60 := hy_9.trans (by decide)
        refine lv_iload_n hx hb dX4_advise_45 rfl (lv_at hl 0 rfl) ?_
        refine lv_iadd hx hb dX4_advise_46 ?_
        refine lv_topi (fun y_10 hy_10 => ?_)
        obtain rfl : y_10 = nI (60 + (vM w1)) := hy_10.trans (nI_add 60 (vM w1))
        have hi_11 : (60 + (vM w1)) < 120 := by omega
        refine va_iald (D := G.1) hx hb hK.1 hP 3 0 rfl rfl (vp_in_nI hi_11 (by omega)) dX4_advise_47 ?_
        refine lv_topi (fun y_12 hy_12 => ?_)
        obtain rfl : y_12 = nI ((plF w0 w1) (60 + (vM w1))) := hy_12.trans (nR_at (by omega))
        refine lv_topi (fun y_13 hy_13 => ?_)
        obtain rfl : y_13 = nI (vP w1 (vM w1)) := hy_13.trans (congrArg nI (plF_hi))
        refine lv_imul hx hb dX4_advise_48 ?_
        refine lv_topi (fun y_14 hy_14 => ?_)
        obtain rfl : y_14 = nI (100 * (vP w1 (vM w1))) := hy_14.trans (pk_mul 100 (vP w1 (vM w1)))
        refine lv_aload_n hx hb dX4_advise_49 rfl (lv_at hl 1 rfl) ?_
        refine lv_iload_n hx hb dX4_advise_50 rfl (lv_at hl 2 rfl) ?_
        refine lv_iload_n hx hb dX4_advise_51 rfl (lv_at hl 0 rfl) ?_
        refine k_calli (fun _ => [kO q0 4 [.int (nI 0), .ref q1, .ref q2, .ref q3, .ref q4, .ref q5, .ref q6], kC G q1 8 (nR (peF w0 w1)), kC G q2 120 (nR (knF w0 w1)), kC G q3 120 (nR (plF w0 w1)), kC G q4 80 (nR ru), kC G q5 8 (nR bf), kC G q6 2 (nR (nuF ho un))]) [] (k_runV (As := [.int (nI 1), .int (nI (vM w1))]) (rest := [.int (nI (100 * (vP w1 (vM w1))))]) (wc := [kO q0 4 [.int (nI 0), .ref q1, .ref q2, .ref q3, .ref q4, .ref q5, .ref q6], kC G q1 8 (nR (peF w0 w1)), kC G q2 120 (nR (knF w0 w1)), kC G q3 120 (nR (plF w0 w1)), kC G q4 80 (nR ru), kC G q5 8 (nR bf), kC G q6 2 (nR (nuF ho un))]) ⟨hx, hb, hml, hown, hts⟩ (m_runEnd1 l G q0 q1 q2 q3 q4 q5 q6 w0 w1 bf ho un ru 0 (vM w1) (by omega) h0 h1 hru) (cwV 2 hts gX4_advise_X4_runEnd rfl rfl rfl (by decide +kernel) ⟨Nat.le_of_ble_eq_true rfl, Nat.le_of_ble_eq_true rfl⟩) hK hZ hP hD hS hA [0, 1, 2, 3, 4, 5, 6] rfl rfl 0 4 rfl rfl rfl rfl hl.1 rfl (Nat.le_of_ble_eq_true rfl) dX4_advise_52 ⟨Nat.le_of_ble_eq_true rfl, Nat.le_of_ble_eq_true rfl⟩) hP hD hS hA [0, 1, 2, 3, 4, 5, 6] [] [0, 1, 2, 3, 4, 5, 6] rfl rfl rfl (by decide) (fun _ => rfl) rfl (fun r_52 u_52 H locs hp_52 hP hD hS => ?_)
        have hp_52 : r_52 = nI (alEnd (vP w1) (vM w1)) := hp_52
        subst hp_52
        have hae := alEnd_in (P := vP w1) (m := vM w1) (by omega)
        refine lv_iadd hx hb dX4_advise_55 ?_
        refine lv_topi (fun y_15 hy_15 => ?_)
        obtain rfl : y_15 = nI ((100 * (vP w1 (vM w1))) + (alEnd (vP w1) (vM w1))) := hy_15.trans (nI_add (100 * (vP w1 (vM w1))) (alEnd (vP w1) (vM w1)))
        refine lv_iload_n hx hb dX4_advise_56 rfl (lv_at hl 0 rfl) ?_
        refine lv_isub hx hb dX4_advise_57 ?_
        refine lv_topi (fun y_16 hy_16 => ?_)
        obtain rfl : y_16 = nI (((100 * (vP w1 (vM w1))) + (alEnd (vP w1) (vM w1))) - (vM w1)) := hy_16.trans (pk_sub (a := ((100 * (vP w1 (vM w1))) + (alEnd (vP w1) (vM w1)))) (b := (vM w1)) (by omega))
        exact k_iret (ws := [kO q0 4 [.int (nI th), .ref q1, .ref q2, .ref q3, .ref q4, .ref q5, .ref q6], kC G q1 8 (nR (peF w0 w1)), kC G q2 120 (nR (knF w0 w1)), kC G q3 120 (nR (plF w0 w1)), kC G q4 80 (nR ru), kC G q5 8 (nR bf), kC G q6 2 (nR (nuF ho un))]) (()) hx hb hr hlocks hP hD hS hAe hQ (Nat.le_of_ble_eq_true rfl) (Nat.le_of_ble_eq_true rfl) dX4_advise_58 (by rw [cdA_0 hp_6]) (fun _ => (by rw [tj]; show _ = aAdv w1; unfold aAdv; rw [if_pos (by omega)]; congr 1; omega))
      · have c_28 : (vM w1) = 60 := (nI_eq (a := (vM w1)) (b := 60) (by omega) (by omega)).mp c_28
        refine lv_iconst (v := (-1)) hx hb dX4_advise_31 (by decide) ?_
        refine lv_goto (tgt := 58) hx hb dX4_advise_32 (by decide) ?_
        exact k_iret (ws := [kO q0 4 [.int (nI th), .ref q1, .ref q2, .ref q3, .ref q4, .ref q5, .ref q6], kC G q1 8 (nR (peF w0 w1)), kC G q2 120 (nR (knF w0 w1)), kC G q3 120 (nR (plF w0 w1)), kC G q4 80 (nR ru), kC G q5 8 (nR bf), kC G q6 2 (nR (nuF ho un))]) (()) hx hb hr hlocks hP hD hS hAe hQ (Nat.le_of_ble_eq_true rfl) (Nat.le_of_ble_eq_true rfl) dX4_advise_58 (by rw [cdA_0 hp_6]) (fun _ => (by rw [tj]; show _ = aAdv w1; unfold aAdv; rw [if_neg (by omega)]))
  · refine lv_if_ne (tgt := 18) hx hb dX4_advise_9 (by decide) (fun c_9 => absurd c_9 (by decide)) (fun c_9 => ?_)
    refine lv_aload_n hx hb dX4_advise_12 rfl (lv_at hl 0 rfl) ?_
    refine lv_iconst (v := nI 1) hx hb dX4_advise_13 (by decide) ?_
    refine k_calli (fun _ => [kO q0 4 [.int (nI 1), .ref q1, .ref q2, .ref q3, .ref q4, .ref q5, .ref q6], kC G q1 8 (nR (peF w0 w1)), kC G q2 120 (nR (knF w0 w1)), kC G q3 120 (nR (plF w0 w1)), kC G q4 80 (nR ru), kC G q5 8 (nR bf), kC G q6 2 (nR (nuF ho un))]) [kC G q1 8 (nR (peF w0 w1)), kC G q2 120 (nR (knF w0 w1)), kC G q3 120 (nR (plF w0 w1)), kC G q4 80 (nR ru), kC G q5 8 (nR bf), kC G q6 2 (nR (nuF ho un))] (k_runV (As := [.int (nI 1)]) (rest := []) (wc := [kO q0 4 [.int (nI 0), .ref q1, .ref q2, .ref q3, .ref q4, .ref q5, .ref q6]]) ⟨hx, hb, hml, hown, hts⟩ (m_fail l G q0 q1 q2 q3 q4 q5 q6 0 1 ) (cwV 1 hts gX4_advise_X4_fail rfl rfl rfl (by decide +kernel) ⟨Nat.le_of_ble_eq_true rfl, Nat.le_of_ble_eq_true rfl⟩) hK hZ hP hD hS hA [0] rfl rfl 0 4 rfl rfl rfl rfl hl.1 rfl (Nat.le_of_ble_eq_true rfl) dX4_advise_14 ⟨Nat.le_of_ble_eq_true rfl, Nat.le_of_ble_eq_true rfl⟩) hP hD hS hA [0] [1, 2, 3, 4, 5, 6] [6, 0, 1, 2, 3, 4, 5] rfl rfl rfl (by decide) (fun _ => rfl) rfl (fun r_14 u_14 H locs hp_14 hP hD hS => ?_)
    have hp_14 : r_14 = nI 0 := hp_14
    subst hp_14
    exact k_iret (ws := [kO q0 4 [.int (nI th), .ref q1, .ref q2, .ref q3, .ref q4, .ref q5, .ref q6], kC G q1 8 (nR (peF w0 w1)), kC G q2 120 (nR (knF w0 w1)), kC G q3 120 (nR (plF w0 w1)), kC G q4 80 (nR ru), kC G q5 8 (nR bf), kC G q6 2 (nR (nuF ho un))]) (()) hx hb hr hlocks hP hD hS hAe hQ (Nat.le_of_ble_eq_true rfl) (Nat.le_of_ble_eq_true rfl) dX4_advise_17 (by first | (rw [cdA_1 hp_6]; done)) (by first | exact fun q => absurd ((cdA_1 hp_6).symm.trans q) (by decide))
set_option maxHeartbeats 4000000 in
set_option maxRecDepth 100000 in
theorem m_runs (l : Launch) (G : kG) (q0 : Nat) (q1 : Nat) (q2 : Nat) (q3 : Nat) (q4 : Nat) (q5 : Nat) (q6 : Nat) (w0 : Wv) (w1 : Wv) (bf : Nat → Nat) (ho : Nat) (un : Nat) (ru : Nat → Nat) (th : Nat) (x1 : Int32) (h0 : wOk w0) (h1 : wOk w1) (hB : bOk bf) (hru : ruOk w0 w1 ru) : kM l G yX4_runs wsX4_runs ({ frames := 2, cells := 0, slots := 0, locals := 42 } : Room) [.ref q0, .int x1] [kO q0 4 [.int (nI th), .ref q1, .ref q2, .ref q3, .ref q4, .ref q5, .ref q6], kC G q1 8 (nR (peF w0 w1)), kC G q2 120 (nR (knF w0 w1)), kC G q3 120 (nR (plF w0 w1)), kC G q4 80 (nR ru), kC G q5 8 (nR bf), kC G q6 2 (nR (nuF ho un))] (kQi G [kO q0 4 [.int (nI th), .ref q1, .ref q2, .ref q3, .ref q4, .ref q5, .ref q6], kC G q1 8 (nR (peF w0 w1)), kC G q2 120 (nR (knF w0 w1)), kC G q3 120 (nR (plF w0 w1)), kC G q4 80 (nR ru), kC G q5 8 (nR bf), kC G q6 2 (nR (nuF ho un))] (fun (r : Int32) (_ : Unit) => cdA (inR x1 2) = 0 → r = nI (frN (vP (gW (w0, w1, bf, ho, un) (tN x1))) (vM (gW (w0, w1, bf, ho, un) (tN x1))))) (fun (_ : Unit) => [kO q0 4 [.int (nI (cdA (inR x1 2))), .ref q1, .ref q2, .ref q3, .ref q4, .ref q5, .ref q6], kC G q1 8 (nR (peF w0 w1)), kC G q2 120 (nR (knF w0 w1)), kC G q3 120 (nR (plF w0 w1)), kC G q4 80 (nR ru), kC G q5 8 (nR bf), kC G q6 2 (nR (nuF ho un))])) := by
  refine k_ofW (cc := cX4_runs) (maxL := 4) (rt := (some .int)) (by decide) rfl (Nat.le_of_ble_eq_true rfl) ?_
  intro p e s m args below meth c A ls Qs H locs hQ hAe hx hb hr hml hts hown hlocks hin hK hZ hP hD hS hA hl
  have hown : s.vm.findClass RX4 = some m.cls := hown
  have hl : lv_has ls 4 [(0, .ref q0), (1, .int x1)] := hl
  have m0b : vM w0 ≤ 60 := h0.2.2.2.1
  have m1b : vM w1 ≤ 60 := h1.2.2.2.1
  have t0b : vT w0 ≤ 20 := h0.2.2.1
  have t1b : vT w1 ≤ 20 := h1.2.2.1
  have pb0 : ∀ i, i < 60 → vP w0 i < 8 := h0.2.2.2.2.1
  have pb1 : ∀ i, i < 60 → vP w1 i < 8 := h1.2.2.2.2.1
  have kb0 : ∀ i, i < 60 → vK w0 i < 8 := h0.2.2.2.2.2.1
  have kb1 : ∀ i, i < 60 → vK w1 i < 8 := h1.2.2.2.2.2.1
  have rk0 := hru.1
  have rk1 := hru.2
  have hq_0 : ∀ w ∈ wsX40, w ∈ wsX4_runs := by decide +kernel
  have hq_1 : (Cond.fieldLink RX4 28 "KnotRugsModel" "thrown" "I").before args s = true := hts _ (by decide +kernel)
  refine lv_aload_n hx hb dX4_runs_0 rfl (lv_at hl 0 rfl) ?_
  refine lv_iconst (v := nI 0) hx hb dX4_runs_1 (by decide) ?_
  refine va_put (D := G.1) (ci := 4) (v := .int (nI 0)) (ty := .int) (C := RX4) (T := TX4) (N := 7) hx hb hts hq_0 tyX4 tyX4_ok nmX4 hown hK.1 hP hD hS 0 rfl rfl 0 (by decide) hq_1 (fun _ h9 => h9) rfl (by decide +kernel) rfl rfl (Nat.le_of_ble_eq_true rfl) dX4_runs_2 (fun H locs hP hD hS => ?_)
  have hP : va_P G.1 vwCl [kO q0 4 [.int (nI 0), .ref q1, .ref q2, .ref q3, .ref q4, .ref q5, .ref q6], kC G q1 8 (nR (peF w0 w1)), kC G q2 120 (nR (knF w0 w1)), kC G q3 120 (nR (plF w0 w1)), kC G q4 80 (nR ru), kC G q5 8 (nR bf), kC G q6 2 (nR (nuF ho un))] H := hP
  have hD : va_D A [kO q0 4 [.int (nI 0), .ref q1, .ref q2, .ref q3, .ref q4, .ref q5, .ref q6], kC G q1 8 (nR (peF w0 w1)), kC G q2 120 (nR (knF w0 w1)), kC G q3 120 (nR (plF w0 w1)), kC G q4 80 (nR ru), kC G q5 8 (nR bf), kC G q6 2 (nR (nuF ho un))] := hD
  refine lv_iload_n hx hb dX4_runs_5 rfl (lv_at hl 1 rfl) ?_
  refine k_calli (fun u_6 => [kO q0 4 [.int (nI 0), .ref q1, .ref q2, .ref q3, .ref q4, .ref q5, .ref q6], kC G q1 8 (nR (peF w0 w1)), kC G q2 120 (nR (knF w0 w1)), kC G q3 120 (nR (plF w0 w1)), kC G q4 80 (nR ru), kC G q5 8 (nR bf), kC G q6 2 (nR (nuF ho un))]) [kO q0 4 [.int (nI 0), .ref q1, .ref q2, .ref q3, .ref q4, .ref q5, .ref q6], kC G q1 8 (nR (peF w0 w1)), kC G q2 120 (nR (knF w0 w1)), kC G q3 120 (nR (plF w0 w1)), kC G q4 80 (nR ru), kC G q5 8 (nR bf), kC G q6 2 (nR (nuF ho un))] (k_runS (As := [.int x1]) (rest := []) (wc := []) ⟨hx, hb, hml, hown, hts⟩ (m_isWeaver l G x1 ) (va_cwS 1 hts gX4_runs_X4_isWeaver rfl rfl rfl (by decide +kernel) ⟨Nat.le_of_ble_eq_true rfl, Nat.le_of_ble_eq_true rfl⟩) hK hZ hP hD hS hA [] rfl rfl rfl hl.1 rfl (Nat.le_of_ble_eq_true rfl) dX4_runs_6 ⟨Nat.le_of_ble_eq_true rfl, Nat.le_of_ble_eq_true rfl⟩) hP hD hS hA [] [0, 1, 2, 3, 4, 5, 6] [0, 1, 2, 3, 4, 5, 6] rfl rfl rfl (by decide) (fun _ => rfl) rfl (fun r_6 u_6 H locs hp_6 hP hD hS => ?_)
  rcases hp_6 with ⟨rfl, hp_6⟩ | ⟨rfl, hp_6⟩
  · refine lv_if_ne (tgt := 18) hx hb dX4_runs_9 (by decide) (fun c_9 => ?_) (fun c_9 => absurd c_9 (by decide))
    obtain ⟨j, hj, ej⟩ := id hp_6
    subst ej
    have tj : tN (nI j) = j := tN_nI (by omega)
    rcases (show j = 0 ∨ j = 1 by omega) with rfl | rfl
    · skip
      refine lv_iconst (v := nI 0) hx hb dX4_runs_18 (by decide) ?_
      refine lv_istore_n (lv' := [(2, .int (nI 0)), (0, .ref q0), (1, .int (nI 0))]) hx hb dX4_runs_19 rfl hl (by decide) rfl (fun ls hl => ?_)
      refine lv_aload_n hx hb dX4_runs_20 rfl (lv_at hl 1 rfl) ?_
      refine lv_iload_n hx hb dX4_runs_21 rfl (lv_at hl 2 rfl) ?_
      refine lv_iconst (v := nI 1) hx hb dX4_runs_22 (by decide) ?_
      refine k_calli (fun _ => [kO q0 4 [.int (nI 0), .ref q1, .ref q2, .ref q3, .ref q4, .ref q5, .ref q6], kC G q1 8 (nR (peF w0 w1)), kC G q2 120 (nR (knF w0 w1)), kC G q3 120 (nR (plF w0 w1)), kC G q4 80 (nR ru), kC G q5 8 (nR bf), kC G q6 2 (nR (nuF ho un))]) [kC G q2 120 (nR (knF w0 w1)), kC G q3 120 (nR (plF w0 w1)), kC G q4 80 (nR ru), kC G q5 8 (nR bf), kC G q6 2 (nR (nuF ho un))] (k_runV (As := [.int (nI 0), .int (nI 1)]) (rest := []) (wc := [kO q0 4 [.int (nI 0), .ref q1, .ref q2, .ref q3, .ref q4, .ref q5, .ref q6], kC G q1 8 (nR (peF w0 w1))]) ⟨hx, hb, hml, hown, hts⟩ (m_pe l G q0 q1 q2 q3 q4 q5 q6 0 (peF w0 w1) 0 1 (by decide) (by decide)) (cwV 2 hts gX4_runs_X4_pe rfl rfl rfl (by decide +kernel) ⟨Nat.le_of_ble_eq_true rfl, Nat.le_of_ble_eq_true rfl⟩) hK hZ hP hD hS hA [0, 1] rfl rfl 0 4 rfl rfl rfl rfl hl.1 rfl (Nat.le_of_ble_eq_true rfl) dX4_runs_23 ⟨Nat.le_of_ble_eq_true rfl, Nat.le_of_ble_eq_true rfl⟩) hP hD hS hA [0, 1] [2, 3, 4, 5, 6] [5, 6, 0, 1, 2, 3, 4] rfl rfl rfl (by decide) (fun _ => rfl) rfl (fun r_23 u_23 H locs hp_23 hP hD hS => ?_)
      have hp_23 : r_23 = nI (vM w0) := hp_23
      subst hp_23
      refine lv_istore_n (lv' := [(3, .int (nI (vM w0))), (2, .int (nI 0)), (0, .ref q0), (1, .int (nI 0))]) hx hb dX4_runs_26 rfl hl (by decide) rfl (fun ls hl => ?_)
      have loop_27 : ∀ (fu_27 : Nat) (i : Nat) (z : Nat), i ≤ 60 → z + frN (vP w0) i = frN (vP w0) (vM w0) → 60 < i + fu_27 → ∀ (H : Heap) (locs : List Loc) (ls : Array Slot), va_P G.1 vwCl [kO q0 4 [.int (nI 0), .ref q1, .ref q2, .ref q3, .ref q4, .ref q5, .ref q6], kC G q1 8 (nR (peF w0 w1)), kC G q2 120 (nR (knF w0 w1)), kC G q3 120 (nR (plF w0 w1)), kC G q4 80 (nR ru), kC G q5 8 (nR bf), kC G q6 2 (nR (nuF ho un))] H → va_D A [kO q0 4 [.int (nI 0), .ref q1, .ref q2, .ref q3, .ref q4, .ref q5, .ref q6], kC G q1 8 (nR (peF w0 w1)), kC G q2 120 (nR (knF w0 w1)), kC G q3 120 (nR (plF w0 w1)), kC G q4 80 (nR ru), kC G q5 8 (nR bf), kC G q6 2 (nR (nuF ho un))] → va_S A s.heap H locs → lv_has ls 4 [(0, .ref q0), (1, .int (nI 0)), (2, .int (nI z)), (3, .int (nI i))] → W p l e ({ frames := 2, cells := 0, slots := 0, locals := 42 } : Room) s m args below meth c H locs 0 0 Qs (F0 m 27 ls []) := by
        intro fu_27
        induction fu_27 with
        | zero =>
          intro i z hi hz hf
          exact absurd hf (by omega)
        | succ fu_27 ih_27 =>
          intro i z hi hz hf H locs ls hP hD hS hl
          refine lv_iload_n hx hb dX4_runs_27 rfl (lv_at hl 3 rfl) ?_
          refine lv_bipush (v := nI 60) hx hb dX4_runs_28 (by decide) ?_
          refine lv_icmp_ge (tgt := 46) hx hb dX4_runs_30 (by decide) (fun c_30 => ?_) (fun c_30 => ?_)
          · have c_30 : 60 ≤ i := (nI_leI (a := 60) (b := i) (by omega) (by omega)).mp c_30
            refine lv_iload_n hx hb dX4_runs_46 rfl (lv_at hl 2 rfl) ?_
            exact k_iret (ws := [kO q0 4 [.int (nI th), .ref q1, .ref q2, .ref q3, .ref q4, .ref q5, .ref q6], kC G q1 8 (nR (peF w0 w1)), kC G q2 120 (nR (knF w0 w1)), kC G q3 120 (nR (plF w0 w1)), kC G q4 80 (nR ru), kC G q5 8 (nR bf), kC G q6 2 (nR (nuF ho un))]) (()) hx hb hr hlocks hP hD hS hAe hQ (Nat.le_of_ble_eq_true rfl) (Nat.le_of_ble_eq_true rfl) dX4_runs_47 (by rw [cdA_0 hp_6]) (fun _ => (by rw [tj]; show nI z = nI (frN (vP w0) (vM w0)); rw [← hz]; unfold frN; rw [if_pos (by omega)]; rfl))
          · have c_30 : ¬ (60 ≤ i) := fun h9 => c_30 ((nI_leI (a := 60) (b := i) (by omega) (by omega)).mpr h9)
            refine lv_iinc (v := nI (z + 1)) (lv' := [(2, .int (nI (z + 1))), (0, .ref q0), (1, .int (nI 0)), (3, .int (nI i))]) hx hb dX4_runs_33 hl (k := 2) rfl (nI_add z 1) (by decide) rfl (fun ls hl => ?_)
            refine lv_aload_n hx hb dX4_runs_36 rfl (lv_at hl 1 rfl) ?_
            refine lv_iload_n hx hb dX4_runs_37 rfl (lv_at hl 2 rfl) ?_
            refine lv_iload_n hx hb dX4_runs_38 rfl (lv_at hl 3 rfl) ?_
            refine k_calli (fun _ => [kO q0 4 [.int (nI 0), .ref q1, .ref q2, .ref q3, .ref q4, .ref q5, .ref q6], kC G q1 8 (nR (peF w0 w1)), kC G q2 120 (nR (knF w0 w1)), kC G q3 120 (nR (plF w0 w1)), kC G q4 80 (nR ru), kC G q5 8 (nR bf), kC G q6 2 (nR (nuF ho un))]) [] (k_runV (As := [.int (nI 0), .int (nI i)]) (rest := []) (wc := [kO q0 4 [.int (nI 0), .ref q1, .ref q2, .ref q3, .ref q4, .ref q5, .ref q6], kC G q1 8 (nR (peF w0 w1)), kC G q2 120 (nR (knF w0 w1)), kC G q3 120 (nR (plF w0 w1)), kC G q4 80 (nR ru), kC G q5 8 (nR bf), kC G q6 2 (nR (nuF ho un))]) ⟨hx, hb, hml, hown, hts⟩ (m_runEnd0 l G q0 q1 q2 q3 q4 q5 q6 w0 w1 bf ho un ru 0 i (by omega) h0 h1 hru) (cwV 2 hts gX4_runs_X4_runEnd rfl rfl rfl (by decide +kernel) ⟨Nat.le_of_ble_eq_true rfl, Nat.le_of_ble_eq_true rfl⟩) hK hZ hP hD hS hA [0, 1, 2, 3, 4, 5, 6] rfl rfl 0 4 rfl rfl rfl rfl hl.1 rfl (Nat.le_of_ble_eq_true rfl) dX4_runs_39 ⟨Nat.le_of_ble_eq_true rfl, Nat.le_of_ble_eq_true rfl⟩) hP hD hS hA [0, 1, 2, 3, 4, 5, 6] [] [0, 1, 2, 3, 4, 5, 6] rfl rfl rfl (by decide) (fun _ => rfl) rfl (fun r_39 u_39 H locs hp_39 hP hD hS => ?_)
            have hp_39 : r_39 = nI (alEnd (vP w0) i) := hp_39
            subst hp_39
            have hae := alEnd_in (P := vP w0) (m := i) (by omega)
            refine lv_istore_n (lv' := [(3, .int (nI (alEnd (vP w0) i))), (2, .int (nI (z + 1))), (0, .ref q0), (1, .int (nI 0))]) hx hb dX4_runs_42 rfl hl (by decide) rfl (fun ls hl => ?_)
            refine lv_goto (tgt := 27) hx hb dX4_runs_43 (by decide) ?_
            exact ih_27 (alEnd (vP w0) i) (z + 1) (by omega) (by rw [frN_s (P := vP w0) (m := i) (by omega)] at hz; omega) (by omega) _ _ _ hP hD hS (lv_sub hl [2, 3, 1, 0] rfl)
      exact loop_27 61 (vM w0) 0 (by omega) (by omega) (by omega) H locs ls hP hD hS (lv_sub hl [2, 3, 1, 0] rfl)
    · skip
      refine lv_iconst (v := nI 0) hx hb dX4_runs_18 (by decide) ?_
      refine lv_istore_n (lv' := [(2, .int (nI 0)), (0, .ref q0), (1, .int (nI 1))]) hx hb dX4_runs_19 rfl hl (by decide) rfl (fun ls hl => ?_)
      refine lv_aload_n hx hb dX4_runs_20 rfl (lv_at hl 1 rfl) ?_
      refine lv_iload_n hx hb dX4_runs_21 rfl (lv_at hl 2 rfl) ?_
      refine lv_iconst (v := nI 1) hx hb dX4_runs_22 (by decide) ?_
      refine k_calli (fun _ => [kO q0 4 [.int (nI 0), .ref q1, .ref q2, .ref q3, .ref q4, .ref q5, .ref q6], kC G q1 8 (nR (peF w0 w1)), kC G q2 120 (nR (knF w0 w1)), kC G q3 120 (nR (plF w0 w1)), kC G q4 80 (nR ru), kC G q5 8 (nR bf), kC G q6 2 (nR (nuF ho un))]) [kC G q2 120 (nR (knF w0 w1)), kC G q3 120 (nR (plF w0 w1)), kC G q4 80 (nR ru), kC G q5 8 (nR bf), kC G q6 2 (nR (nuF ho un))] (k_runV (As := [.int (nI 1), .int (nI 1)]) (rest := []) (wc := [kO q0 4 [.int (nI 0), .ref q1, .ref q2, .ref q3, .ref q4, .ref q5, .ref q6], kC G q1 8 (nR (peF w0 w1))]) ⟨hx, hb, hml, hown, hts⟩ (m_pe l G q0 q1 q2 q3 q4 q5 q6 0 (peF w0 w1) 1 1 (by decide) (by decide)) (cwV 2 hts gX4_runs_X4_pe rfl rfl rfl (by decide +kernel) ⟨Nat.le_of_ble_eq_true rfl, Nat.le_of_ble_eq_true rfl⟩) hK hZ hP hD hS hA [0, 1] rfl rfl 0 4 rfl rfl rfl rfl hl.1 rfl (Nat.le_of_ble_eq_true rfl) dX4_runs_23 ⟨Nat.le_of_ble_eq_true rfl, Nat.le_of_ble_eq_true rfl⟩) hP hD hS hA [0, 1] [2, 3, 4, 5, 6] [5, 6, 0, 1, 2, 3, 4] rfl rfl rfl (by decide) (fun _ => rfl) rfl (fun r_23 u_23 H locs hp_23 hP hD hS => ?_)
      have hp_23 : r_23 = nI (vM w1) := hp_23
      subst hp_23
      refine lv_istore_n (lv' := [(3, .int (nI (vM w1))), (2, .int (nI 0)), (0, .ref q0), (1, .int (nI 1))]) hx hb dX4_runs_26 rfl hl (by decide) rfl (fun ls hl => ?_)
      have loop_27 : ∀ (fu_27 : Nat) (i : Nat) (z : Nat), i ≤ 60 → z + frN (vP w1) i = frN (vP w1) (vM w1) → 60 < i + fu_27 → ∀ (H : Heap) (locs : List Loc) (ls : Array Slot), va_P G.1 vwCl [kO q0 4 [.int (nI 0), .ref q1, .ref q2, .ref q3, .ref q4, .ref q5, .ref q6], kC G q1 8 (nR (peF w0 w1)), kC G q2 120 (nR (knF w0 w1)), kC G q3 120 (nR (plF w0 w1)), kC G q4 80 (nR ru), kC G q5 8 (nR bf), kC G q6 2 (nR (nuF ho un))] H → va_D A [kO q0 4 [.int (nI 0), .ref q1, .ref q2, .ref q3, .ref q4, .ref q5, .ref q6], kC G q1 8 (nR (peF w0 w1)), kC G q2 120 (nR (knF w0 w1)), kC G q3 120 (nR (plF w0 w1)), kC G q4 80 (nR ru), kC G q5 8 (nR bf), kC G q6 2 (nR (nuF ho un))] → va_S A s.heap H locs → lv_has ls 4 [(0, .ref q0), (1, .int (nI 1)), (2, .int (nI z)), (3, .int (nI i))] → W p l e ({ frames := 2, cells := 0, slots := 0, locals := 42 } : Room) s m args below meth c H locs 0 0 Qs (F0 m 27 ls []) := by
        intro fu_27
        induction fu_27 with
        | zero =>
          intro i z hi hz hf
          exact absurd hf (by omega)
        | succ fu_27 ih_27 =>
          intro i z hi hz hf H locs ls hP hD hS hl
          refine lv_iload_n hx hb dX4_runs_27 rfl (lv_at hl 3 rfl) ?_
          refine lv_bipush (v := nI 60) hx hb dX4_runs_28 (by decide) ?_
          refine lv_icmp_ge (tgt := 46) hx hb dX4_runs_30 (by decide) (fun c_30 => ?_) (fun c_30 => ?_)
          · have c_30 : 60 ≤ i := (nI_leI (a := 60) (b := i) (by omega) (by omega)).mp c_30
            refine lv_iload_n hx hb dX4_runs_46 rfl (lv_at hl 2 rfl) ?_
            exact k_iret (ws := [kO q0 4 [.int (nI th), .ref q1, .ref q2, .ref q3, .ref q4, .ref q5, .ref q6], kC G q1 8 (nR (peF w0 w1)), kC G q2 120 (nR (knF w0 w1)), kC G q3 120 (nR (plF w0 w1)), kC G q4 80 (nR ru), kC G q5 8 (nR bf), kC G q6 2 (nR (nuF ho un))]) (()) hx hb hr hlocks hP hD hS hAe hQ (Nat.le_of_ble_eq_true rfl) (Nat.le_of_ble_eq_true rfl) dX4_runs_47 (by rw [cdA_0 hp_6]) (fun _ => (by rw [tj]; show nI z = nI (frN (vP w1) (vM w1)); rw [← hz]; unfold frN; rw [if_pos (by omega)]; rfl))
          · have c_30 : ¬ (60 ≤ i) := fun h9 => c_30 ((nI_leI (a := 60) (b := i) (by omega) (by omega)).mpr h9)
            refine lv_iinc (v := nI (z + 1)) (lv' := [(2, .int (nI (z + 1))), (0, .ref q0), (1, .int (nI 1)), (3, .int (nI i))]) hx hb dX4_runs_33 hl (k := 2) rfl (nI_add z 1) (by decide) rfl (fun ls hl => ?_)
            refine lv_aload_n hx hb dX4_runs_36 rfl (lv_at hl 1 rfl) ?_
            refine lv_iload_n hx hb dX4_runs_37 rfl (lv_at hl 2 rfl) ?_
            refine lv_iload_n hx hb dX4_runs_38 rfl (lv_at hl 3 rfl) ?_
            refine k_calli (fun _ => [kO q0 4 [.int (nI 0), .ref q1, .ref q2, .ref q3, .ref q4, .ref q5, .ref q6], kC G q1 8 (nR (peF w0 w1)), kC G q2 120 (nR (knF w0 w1)), kC G q3 120 (nR (plF w0 w1)), kC G q4 80 (nR ru), kC G q5 8 (nR bf), kC G q6 2 (nR (nuF ho un))]) [] (k_runV (As := [.int (nI 1), .int (nI i)]) (rest := []) (wc := [kO q0 4 [.int (nI 0), .ref q1, .ref q2, .ref q3, .ref q4, .ref q5, .ref q6], kC G q1 8 (nR (peF w0 w1)), kC G q2 120 (nR (knF w0 w1)), kC G q3 120 (nR (plF w0 w1)), kC G q4 80 (nR ru), kC G q5 8 (nR bf), kC G q6 2 (nR (nuF ho un))]) ⟨hx, hb, hml, hown, hts⟩ (m_runEnd1 l G q0 q1 q2 q3 q4 q5 q6 w0 w1 bf ho un ru 0 i (by omega) h0 h1 hru) (cwV 2 hts gX4_runs_X4_runEnd rfl rfl rfl (by decide +kernel) ⟨Nat.le_of_ble_eq_true rfl, Nat.le_of_ble_eq_true rfl⟩) hK hZ hP hD hS hA [0, 1, 2, 3, 4, 5, 6] rfl rfl 0 4 rfl rfl rfl rfl hl.1 rfl (Nat.le_of_ble_eq_true rfl) dX4_runs_39 ⟨Nat.le_of_ble_eq_true rfl, Nat.le_of_ble_eq_true rfl⟩) hP hD hS hA [0, 1, 2, 3, 4, 5, 6] [] [0, 1, 2, 3, 4, 5, 6] rfl rfl rfl (by decide) (fun _ => rfl) rfl (fun r_39 u_39 H locs hp_39 hP hD hS => ?_)
            have hp_39 : r_39 = nI (alEnd (vP w1) i) := hp_39
            subst hp_39
            have hae := alEnd_in (P := vP w1) (m := i) (by omega)
            refine lv_istore_n (lv' := [(3, .int (nI (alEnd (vP w1) i))), (2, .int (nI (z + 1))), (0, .ref q0), (1, .int (nI 1))]) hx hb dX4_runs_42 rfl hl (by decide) rfl (fun ls hl => ?_)
            refine lv_goto (tgt := 27) hx hb dX4_runs_43 (by decide) ?_
            exact ih_27 (alEnd (vP w1) i) (z + 1) (by omega) (by rw [frN_s (P := vP w1) (m := i) (by omega)] at hz; omega) (by omega) _ _ _ hP hD hS (lv_sub hl [2, 3, 1, 0] rfl)
      exact loop_27 61 (vM w1) 0 (by omega) (by omega) (by omega) H locs ls hP hD hS (lv_sub hl [2, 3, 1, 0] rfl)
  · refine lv_if_ne (tgt := 18) hx hb dX4_runs_9 (by decide) (fun c_9 => absurd c_9 (by decide)) (fun c_9 => ?_)
    refine lv_aload_n hx hb dX4_runs_12 rfl (lv_at hl 0 rfl) ?_
    refine lv_iconst (v := nI 1) hx hb dX4_runs_13 (by decide) ?_
    refine k_calli (fun _ => [kO q0 4 [.int (nI 1), .ref q1, .ref q2, .ref q3, .ref q4, .ref q5, .ref q6], kC G q1 8 (nR (peF w0 w1)), kC G q2 120 (nR (knF w0 w1)), kC G q3 120 (nR (plF w0 w1)), kC G q4 80 (nR ru), kC G q5 8 (nR bf), kC G q6 2 (nR (nuF ho un))]) [kC G q1 8 (nR (peF w0 w1)), kC G q2 120 (nR (knF w0 w1)), kC G q3 120 (nR (plF w0 w1)), kC G q4 80 (nR ru), kC G q5 8 (nR bf), kC G q6 2 (nR (nuF ho un))] (k_runV (As := [.int (nI 1)]) (rest := []) (wc := [kO q0 4 [.int (nI 0), .ref q1, .ref q2, .ref q3, .ref q4, .ref q5, .ref q6]]) ⟨hx, hb, hml, hown, hts⟩ (m_fail l G q0 q1 q2 q3 q4 q5 q6 0 1 ) (cwV 1 hts gX4_runs_X4_fail rfl rfl rfl (by decide +kernel) ⟨Nat.le_of_ble_eq_true rfl, Nat.le_of_ble_eq_true rfl⟩) hK hZ hP hD hS hA [0] rfl rfl 0 4 rfl rfl rfl rfl hl.1 rfl (Nat.le_of_ble_eq_true rfl) dX4_runs_14 ⟨Nat.le_of_ble_eq_true rfl, Nat.le_of_ble_eq_true rfl⟩) hP hD hS hA [0] [1, 2, 3, 4, 5, 6] [6, 0, 1, 2, 3, 4, 5] rfl rfl rfl (by decide) (fun _ => rfl) rfl (fun r_14 u_14 H locs hp_14 hP hD hS => ?_)
    have hp_14 : r_14 = nI 0 := hp_14
    subst hp_14
    exact k_iret (ws := [kO q0 4 [.int (nI th), .ref q1, .ref q2, .ref q3, .ref q4, .ref q5, .ref q6], kC G q1 8 (nR (peF w0 w1)), kC G q2 120 (nR (knF w0 w1)), kC G q3 120 (nR (plF w0 w1)), kC G q4 80 (nR ru), kC G q5 8 (nR bf), kC G q6 2 (nR (nuF ho un))]) (()) hx hb hr hlocks hP hD hS hAe hQ (Nat.le_of_ble_eq_true rfl) (Nat.le_of_ble_eq_true rfl) dX4_runs_17 (by first | (rw [cdA_1 hp_6]; done)) (by first | exact fun q => absurd ((cdA_1 hp_6).symm.trans q) (by decide))
set_option maxHeartbeats 4000000 in
set_option maxRecDepth 100000 in
theorem m_mends (l : Launch) (G : kG) (q0 : Nat) (q1 : Nat) (q2 : Nat) (q3 : Nat) (q4 : Nat) (q5 : Nat) (q6 : Nat) (w0 : Wv) (w1 : Wv) (bf : Nat → Nat) (ho : Nat) (un : Nat) (ru : Nat → Nat) (th : Nat) (x1 : Int32) (h0 : wOk w0) (h1 : wOk w1) (hB : bOk bf) (hru : ruOk w0 w1 ru) : kM l G yX4_mends wsX4_mends ({ frames := 2, cells := 0, slots := 0, locals := 42 } : Room) [.ref q0, .int x1] [kO q0 4 [.int (nI th), .ref q1, .ref q2, .ref q3, .ref q4, .ref q5, .ref q6], kC G q1 8 (nR (peF w0 w1)), kC G q2 120 (nR (knF w0 w1)), kC G q3 120 (nR (plF w0 w1)), kC G q4 80 (nR ru), kC G q5 8 (nR bf), kC G q6 2 (nR (nuF ho un))] (kQi G [kO q0 4 [.int (nI th), .ref q1, .ref q2, .ref q3, .ref q4, .ref q5, .ref q6], kC G q1 8 (nR (peF w0 w1)), kC G q2 120 (nR (knF w0 w1)), kC G q3 120 (nR (plF w0 w1)), kC G q4 80 (nR ru), kC G q5 8 (nR bf), kC G q6 2 (nR (nuF ho un))] (fun (r : Int32) (_ : Unit) => cdA (inR x1 2) = 0 → r = nI (aMends (gW (w0, w1, bf, ho, un) (tN x1)))) (fun (_ : Unit) => [kO q0 4 [.int (nI (cdA (inR x1 2))), .ref q1, .ref q2, .ref q3, .ref q4, .ref q5, .ref q6], kC G q1 8 (nR (peF w0 w1)), kC G q2 120 (nR (knF w0 w1)), kC G q3 120 (nR (plF w0 w1)), kC G q4 80 (nR ru), kC G q5 8 (nR bf), kC G q6 2 (nR (nuF ho un))])) := by
  refine k_ofW (cc := cX4_mends) (maxL := 3) (rt := (some .int)) (by decide) rfl (Nat.le_of_ble_eq_true rfl) ?_
  intro p e s m args below meth c A ls Qs H locs hQ hAe hx hb hr hml hts hown hlocks hin hK hZ hP hD hS hA hl
  have hown : s.vm.findClass RX4 = some m.cls := hown
  have hl : lv_has ls 3 [(0, .ref q0), (1, .int x1)] := hl
  have m0b : vM w0 ≤ 60 := h0.2.2.2.1
  have m1b : vM w1 ≤ 60 := h1.2.2.2.1
  have t0b : vT w0 ≤ 20 := h0.2.2.1
  have t1b : vT w1 ≤ 20 := h1.2.2.1
  have pb0 : ∀ i, i < 60 → vP w0 i < 8 := h0.2.2.2.2.1
  have pb1 : ∀ i, i < 60 → vP w1 i < 8 := h1.2.2.2.2.1
  have kb0 : ∀ i, i < 60 → vK w0 i < 8 := h0.2.2.2.2.2.1
  have kb1 : ∀ i, i < 60 → vK w1 i < 8 := h1.2.2.2.2.2.1
  have rk0 := hru.1
  have rk1 := hru.2
  have hq_0 : ∀ w ∈ wsX40, w ∈ wsX4_mends := by decide +kernel
  have hq_1 : (Cond.fieldLink RX4 28 "KnotRugsModel" "thrown" "I").before args s = true := hts _ (by decide +kernel)
  have hq_2 : (Cond.fieldLink RX4 13 "KnotRugsModel" "knots" "[I").before args s = true := hts _ (by decide +kernel)
  have hq_3 : (Cond.fieldLink RX4 16 "KnotRugsModel" "plan" "[I").before args s = true := hts _ (by decide +kernel)
  refine lv_aload_n hx hb dX4_mends_0 rfl (lv_at hl 0 rfl) ?_
  refine lv_iconst (v := nI 0) hx hb dX4_mends_1 (by decide) ?_
  refine va_put (D := G.1) (ci := 4) (v := .int (nI 0)) (ty := .int) (C := RX4) (T := TX4) (N := 7) hx hb hts hq_0 tyX4 tyX4_ok nmX4 hown hK.1 hP hD hS 0 rfl rfl 0 (by decide) hq_1 (fun _ h9 => h9) rfl (by decide +kernel) rfl rfl (Nat.le_of_ble_eq_true rfl) dX4_mends_2 (fun H locs hP hD hS => ?_)
  have hP : va_P G.1 vwCl [kO q0 4 [.int (nI 0), .ref q1, .ref q2, .ref q3, .ref q4, .ref q5, .ref q6], kC G q1 8 (nR (peF w0 w1)), kC G q2 120 (nR (knF w0 w1)), kC G q3 120 (nR (plF w0 w1)), kC G q4 80 (nR ru), kC G q5 8 (nR bf), kC G q6 2 (nR (nuF ho un))] H := hP
  have hD : va_D A [kO q0 4 [.int (nI 0), .ref q1, .ref q2, .ref q3, .ref q4, .ref q5, .ref q6], kC G q1 8 (nR (peF w0 w1)), kC G q2 120 (nR (knF w0 w1)), kC G q3 120 (nR (plF w0 w1)), kC G q4 80 (nR ru), kC G q5 8 (nR bf), kC G q6 2 (nR (nuF ho un))] := hD
  refine lv_iload_n hx hb dX4_mends_5 rfl (lv_at hl 1 rfl) ?_
  refine k_calli (fun u_6 => [kO q0 4 [.int (nI 0), .ref q1, .ref q2, .ref q3, .ref q4, .ref q5, .ref q6], kC G q1 8 (nR (peF w0 w1)), kC G q2 120 (nR (knF w0 w1)), kC G q3 120 (nR (plF w0 w1)), kC G q4 80 (nR ru), kC G q5 8 (nR bf), kC G q6 2 (nR (nuF ho un))]) [kO q0 4 [.int (nI 0), .ref q1, .ref q2, .ref q3, .ref q4, .ref q5, .ref q6], kC G q1 8 (nR (peF w0 w1)), kC G q2 120 (nR (knF w0 w1)), kC G q3 120 (nR (plF w0 w1)), kC G q4 80 (nR ru), kC G q5 8 (nR bf), kC G q6 2 (nR (nuF ho un))] (k_runS (As := [.int x1]) (rest := []) (wc := []) ⟨hx, hb, hml, hown, hts⟩ (m_isWeaver l G x1 ) (va_cwS 1 hts gX4_mends_X4_isWeaver rfl rfl rfl (by decide +kernel) ⟨Nat.le_of_ble_eq_true rfl, Nat.le_of_ble_eq_true rfl⟩) hK hZ hP hD hS hA [] rfl rfl rfl hl.1 rfl (Nat.le_of_ble_eq_true rfl) dX4_mends_6 ⟨Nat.le_of_ble_eq_true rfl, Nat.le_of_ble_eq_true rfl⟩) hP hD hS hA [] [0, 1, 2, 3, 4, 5, 6] [0, 1, 2, 3, 4, 5, 6] rfl rfl rfl (by decide) (fun _ => rfl) rfl (fun r_6 u_6 H locs hp_6 hP hD hS => ?_)
  rcases hp_6 with ⟨rfl, hp_6⟩ | ⟨rfl, hp_6⟩
  · refine lv_if_ne (tgt := 18) hx hb dX4_mends_9 (by decide) (fun c_9 => ?_) (fun c_9 => absurd c_9 (by decide))
    obtain ⟨j, hj, ej⟩ := id hp_6
    subst ej
    have tj : tN (nI j) = j := tN_nI (by omega)
    rcases (show j = 0 ∨ j = 1 by omega) with rfl | rfl
    · skip
      refine lv_iconst (v := nI 0) hx hb dX4_mends_18 (by decide) ?_
      refine lv_istore_n (lv' := [(2, .int (nI 0)), (0, .ref q0), (1, .int (nI 0))]) hx hb dX4_mends_19 rfl hl (by decide) rfl (fun ls hl => ?_)
      have loop_20 : ∀ (fu_20 : Nat) (i : Nat), i ≤ vM w0 → foF (vK w0) (vP w0) (vM w0 - i) i = foN (vK w0) (vP w0) (vM w0) → vM w0 < i + fu_20 → ∀ (H : Heap) (locs : List Loc) (ls : Array Slot), va_P G.1 vwCl [kO q0 4 [.int (nI 0), .ref q1, .ref q2, .ref q3, .ref q4, .ref q5, .ref q6], kC G q1 8 (nR (peF w0 w1)), kC G q2 120 (nR (knF w0 w1)), kC G q3 120 (nR (plF w0 w1)), kC G q4 80 (nR ru), kC G q5 8 (nR bf), kC G q6 2 (nR (nuF ho un))] H → va_D A [kO q0 4 [.int (nI 0), .ref q1, .ref q2, .ref q3, .ref q4, .ref q5, .ref q6], kC G q1 8 (nR (peF w0 w1)), kC G q2 120 (nR (knF w0 w1)), kC G q3 120 (nR (plF w0 w1)), kC G q4 80 (nR ru), kC G q5 8 (nR bf), kC G q6 2 (nR (nuF ho un))] → va_S A s.heap H locs → lv_has ls 3 [(0, .ref q0), (1, .int (nI 0)), (2, .int (nI i))] → W p l e ({ frames := 2, cells := 0, slots := 0, locals := 42 } : Room) s m args below meth c H locs 0 0 Qs (F0 m 20 ls []) := by
        intro fu_20
        induction fu_20 with
        | zero =>
          intro i hi hv hf
          exact absurd hf (by omega)
        | succ fu_20 ih_20 =>
          intro i hi hv hf H locs ls hP hD hS hl
          refine lv_iload_n hx hb dX4_mends_20 rfl (lv_at hl 2 rfl) ?_
          refine lv_aload_n hx hb dX4_mends_21 rfl (lv_at hl 0 rfl) ?_
          refine lv_iload_n hx hb dX4_mends_22 rfl (lv_at hl 1 rfl) ?_
          refine lv_iconst (v := nI 1) hx hb dX4_mends_23 (by decide) ?_
          refine k_calli (fun _ => [kO q0 4 [.int (nI 0), .ref q1, .ref q2, .ref q3, .ref q4, .ref q5, .ref q6], kC G q1 8 (nR (peF w0 w1)), kC G q2 120 (nR (knF w0 w1)), kC G q3 120 (nR (plF w0 w1)), kC G q4 80 (nR ru), kC G q5 8 (nR bf), kC G q6 2 (nR (nuF ho un))]) [kC G q2 120 (nR (knF w0 w1)), kC G q3 120 (nR (plF w0 w1)), kC G q4 80 (nR ru), kC G q5 8 (nR bf), kC G q6 2 (nR (nuF ho un))] (k_runV (As := [.int (nI 0), .int (nI 1)]) (rest := [.int (nI i)]) (wc := [kO q0 4 [.int (nI 0), .ref q1, .ref q2, .ref q3, .ref q4, .ref q5, .ref q6], kC G q1 8 (nR (peF w0 w1))]) ⟨hx, hb, hml, hown, hts⟩ (m_pe l G q0 q1 q2 q3 q4 q5 q6 0 (peF w0 w1) 0 1 (by decide) (by decide)) (cwV 2 hts gX4_mends_X4_pe rfl rfl rfl (by decide +kernel) ⟨Nat.le_of_ble_eq_true rfl, Nat.le_of_ble_eq_true rfl⟩) hK hZ hP hD hS hA [0, 1] rfl rfl 0 4 rfl rfl rfl rfl hl.1 rfl (Nat.le_of_ble_eq_true rfl) dX4_mends_24 ⟨Nat.le_of_ble_eq_true rfl, Nat.le_of_ble_eq_true rfl⟩) hP hD hS hA [0, 1] [2, 3, 4, 5, 6] [5, 6, 0, 1, 2, 3, 4] rfl rfl rfl (by decide) (fun _ => rfl) rfl (fun r_24 u_24 H locs hp_24 hP hD hS => ?_)
          have hp_24 : r_24 = nI (vM w0) := hp_24
          subst hp_24
          refine lv_icmp_ge (tgt := 61) hx hb dX4_mends_27 (by decide) (fun c_27 => ?_) (fun c_27 => ?_)
          · have c_27 : (vM w0) ≤ i := (nI_leI (a := (vM w0)) (b := i) (by omega) (by omega)).mp c_27
            have he : i = foN (vK w0) (vP w0) (vM w0) := fo_e (by omega) hv
            refine lv_aload_n hx hb dX4_mends_61 rfl (lv_at hl 0 rfl) ?_
            refine lv_iload_n hx hb dX4_mends_62 rfl (lv_at hl 1 rfl) ?_
            refine lv_iconst (v := nI 1) hx hb dX4_mends_63 (by decide) ?_
            refine k_calli (fun _ => [kO q0 4 [.int (nI 0), .ref q1, .ref q2, .ref q3, .ref q4, .ref q5, .ref q6], kC G q1 8 (nR (peF w0 w1)), kC G q2 120 (nR (knF w0 w1)), kC G q3 120 (nR (plF w0 w1)), kC G q4 80 (nR ru), kC G q5 8 (nR bf), kC G q6 2 (nR (nuF ho un))]) [kC G q2 120 (nR (knF w0 w1)), kC G q3 120 (nR (plF w0 w1)), kC G q4 80 (nR ru), kC G q5 8 (nR bf), kC G q6 2 (nR (nuF ho un))] (k_runV (As := [.int (nI 0), .int (nI 1)]) (rest := []) (wc := [kO q0 4 [.int (nI 0), .ref q1, .ref q2, .ref q3, .ref q4, .ref q5, .ref q6], kC G q1 8 (nR (peF w0 w1))]) ⟨hx, hb, hml, hown, hts⟩ (m_pe l G q0 q1 q2 q3 q4 q5 q6 0 (peF w0 w1) 0 1 (by decide) (by decide)) (cwV 2 hts gX4_mends_X4_pe rfl rfl rfl (by decide +kernel) ⟨Nat.le_of_ble_eq_true rfl, Nat.le_of_ble_eq_true rfl⟩) hK hZ hP hD hS hA [0, 1] rfl rfl 0 4 rfl rfl rfl rfl hl.1 rfl (Nat.le_of_ble_eq_true rfl) dX4_mends_64 ⟨Nat.le_of_ble_eq_true rfl, Nat.le_of_ble_eq_true rfl⟩) hP hD hS hA [0, 1] [2, 3, 4, 5, 6] [5, 6, 0, 1, 2, 3, 4] rfl rfl rfl (by decide) (fun _ => rfl) rfl (fun r_64 u_64 H locs hp_64 hP hD hS => ?_)
            have hp_64 : r_64 = nI (vM w0) := hp_64
            subst hp_64
            refine lv_iload_n hx hb dX4_mends_67 rfl (lv_at hl 2 rfl) ?_
            refine lv_isub hx hb dX4_mends_68 ?_
            refine lv_topi (fun y_1 hy_1 => ?_)
            obtain rfl : y_1 = nI ((vM w0) - i) := hy_1.trans (pk_sub (a := (vM w0)) (b := i) (by omega))
            exact k_iret (ws := [kO q0 4 [.int (nI th), .ref q1, .ref q2, .ref q3, .ref q4, .ref q5, .ref q6], kC G q1 8 (nR (peF w0 w1)), kC G q2 120 (nR (knF w0 w1)), kC G q3 120 (nR (plF w0 w1)), kC G q4 80 (nR ru), kC G q5 8 (nR bf), kC G q6 2 (nR (nuF ho un))]) (()) hx hb hr hlocks hP hD hS hAe hQ (Nat.le_of_ble_eq_true rfl) (Nat.le_of_ble_eq_true rfl) dX4_mends_69 (by rw [cdA_0 hp_6]) (fun _ => (by rw [tj, he]; rfl))
          · have c_27 : ¬ ((vM w0) ≤ i) := fun h9 => c_27 ((nI_leI (a := (vM w0)) (b := i) (by omega) (by omega)).mpr h9)
            refine lv_aload_n hx hb dX4_mends_30 rfl (lv_at hl 0 rfl) ?_
            refine va_get (D := G.1) (ci := 4) (v := .ref q2) (C := RX4) (T := TX4) (N := 7) hx hb hts hq_0 hown hK.1 hP 0 rfl rfl 2 (by decide) hq_2 (fun _ h9 => h9) rfl dX4_mends_31 ?_
            refine lv_bipush (v := nI 60) hx hb dX4_mends_34 (by decide) ?_
            refine lv_iload_n hx hb dX4_mends_36 rfl (lv_at hl 1 rfl) ?_
            refine lv_imul hx hb dX4_mends_37 ?_
            refine lv_topi (fun y_2 hy_2 => ?_)
            obtain rfl : y_2 = nI 0 := hy_2.trans (by decide)
            refine lv_iload_n hx hb dX4_mends_38 rfl (lv_at hl 2 rfl) ?_
            refine lv_iadd hx hb dX4_mends_39 ?_
            refine lv_topi (fun y_3 hy_3 => ?_)
            obtain rfl : y_3 = nI (0 + i) := hy_3.trans (nI_add 0 i)
            have hi_4 : (0 + i) < 120 := by omega
            refine va_iald (D := G.1) hx hb hK.1 hP 2 0 rfl rfl (vp_in_nI hi_4 (by omega)) dX4_mends_40 ?_
            refine lv_topi (fun y_5 hy_5 => ?_)
            obtain rfl : y_5 = nI ((knF w0 w1) (0 + i)) := hy_5.trans (nR_at (by omega))
            refine lv_topi (fun y_6 hy_6 => ?_)
            obtain rfl : y_6 = nI (vK w0 i) := hy_6.trans (congrArg nI (knF_lo0 (by omega)))
            refine lv_aload_n hx hb dX4_mends_41 rfl (lv_at hl 0 rfl) ?_
            refine va_get (D := G.1) (ci := 4) (v := .ref q3) (C := RX4) (T := TX4) (N := 7) hx hb hts hq_0 hown hK.1 hP 0 rfl rfl 3 (by decide) hq_3 (fun _ h9 => h9) rfl dX4_mends_42 ?_
            refine lv_bipush (v := nI 60) hx hb dX4_mends_45 (by decide) ?_
            refine lv_iload_n hx hb dX4_mends_47 rfl (lv_at hl 1 rfl) ?_
            refine lv_imul hx hb dX4_mends_48 ?_
            refine lv_topi (fun y_7 hy_7 => ?_)
            obtain rfl : y_7 = nI 0 := hy_7.trans (by decide)
            refine lv_iload_n hx hb dX4_mends_49 rfl (lv_at hl 2 rfl) ?_
            refine lv_iadd hx hb dX4_mends_50 ?_
            refine lv_topi (fun y_8 hy_8 => ?_)
            obtain rfl : y_8 = nI (0 + i) := hy_8.trans (nI_add 0 i)
            have hi_9 : (0 + i) < 120 := by omega
            refine va_iald (D := G.1) hx hb hK.1 hP 3 0 rfl rfl (vp_in_nI hi_9 (by omega)) dX4_mends_51 ?_
            refine lv_topi (fun y_10 hy_10 => ?_)
            obtain rfl : y_10 = nI ((plF w0 w1) (0 + i)) := hy_10.trans (nR_at (by omega))
            refine lv_topi (fun y_11 hy_11 => ?_)
            obtain rfl : y_11 = nI (vP w0 i) := hy_11.trans (congrArg nI (plF_lo0 (by omega)))
            have xk := kb0 i (by omega)
            have xp := pb0 i (by omega)
            refine lv_icmp_ne (tgt := 61) hx hb dX4_mends_52 (by decide) (fun c_52 => ?_) (fun c_52 => ?_)
            · have c_52 : ¬ ((vK w0 i) = (vP w0 i)) := fun h9 => c_52 ((nI_eq (a := (vK w0 i)) (b := (vP w0 i)) (by omega) (by omega)).mpr h9)
              have he : i = foN (vK w0) (vP w0) (vM w0) := fo_d (by omega) hv c_52
              refine lv_aload_n hx hb dX4_mends_61 rfl (lv_at hl 0 rfl) ?_
              refine lv_iload_n hx hb dX4_mends_62 rfl (lv_at hl 1 rfl) ?_
              refine lv_iconst (v := nI 1) hx hb dX4_mends_63 (by decide) ?_
              refine k_calli (fun _ => [kO q0 4 [.int (nI 0), .ref q1, .ref q2, .ref q3, .ref q4, .ref q5, .ref q6], kC G q1 8 (nR (peF w0 w1)), kC G q2 120 (nR (knF w0 w1)), kC G q3 120 (nR (plF w0 w1)), kC G q4 80 (nR ru), kC G q5 8 (nR bf), kC G q6 2 (nR (nuF ho un))]) [kC G q2 120 (nR (knF w0 w1)), kC G q3 120 (nR (plF w0 w1)), kC G q4 80 (nR ru), kC G q5 8 (nR bf), kC G q6 2 (nR (nuF ho un))] (k_runV (As := [.int (nI 0), .int (nI 1)]) (rest := []) (wc := [kO q0 4 [.int (nI 0), .ref q1, .ref q2, .ref q3, .ref q4, .ref q5, .ref q6], kC G q1 8 (nR (peF w0 w1))]) ⟨hx, hb, hml, hown, hts⟩ (m_pe l G q0 q1 q2 q3 q4 q5 q6 0 (peF w0 w1) 0 1 (by decide) (by decide)) (cwV 2 hts gX4_mends_X4_pe rfl rfl rfl (by decide +kernel) ⟨Nat.le_of_ble_eq_true rfl, Nat.le_of_ble_eq_true rfl⟩) hK hZ hP hD hS hA [0, 1] rfl rfl 0 4 rfl rfl rfl rfl hl.1 rfl (Nat.le_of_ble_eq_true rfl) dX4_mends_64 ⟨Nat.le_of_ble_eq_true rfl, Nat.le_of_ble_eq_true rfl⟩) hP hD hS hA [0, 1] [2, 3, 4, 5, 6] [5, 6, 0, 1, 2, 3, 4] rfl rfl rfl (by decide) (fun _ => rfl) rfl (fun r_64 u_64 H locs hp_64 hP hD hS => ?_)
              have hp_64 : r_64 = nI (vM w0) := hp_64
              subst hp_64
              refine lv_iload_n hx hb dX4_mends_67 rfl (lv_at hl 2 rfl) ?_
              refine lv_isub hx hb dX4_mends_68 ?_
              refine lv_topi (fun y_12 hy_12 => ?_)
              obtain rfl : y_12 = nI ((vM w0) - i) := hy_12.trans (pk_sub (a := (vM w0)) (b := i) (by omega))
              exact k_iret (ws := [kO q0 4 [.int (nI th), .ref q1, .ref q2, .ref q3, .ref q4, .ref q5, .ref q6], kC G q1 8 (nR (peF w0 w1)), kC G q2 120 (nR (knF w0 w1)), kC G q3 120 (nR (plF w0 w1)), kC G q4 80 (nR ru), kC G q5 8 (nR bf), kC G q6 2 (nR (nuF ho un))]) (()) hx hb hr hlocks hP hD hS hAe hQ (Nat.le_of_ble_eq_true rfl) (Nat.le_of_ble_eq_true rfl) dX4_mends_69 (by rw [cdA_0 hp_6]) (fun _ => (by rw [tj, he]; rfl))
            · have c_52 : (vK w0 i) = (vP w0 i) := (nI_eq (a := (vK w0 i)) (b := (vP w0 i)) (by omega) (by omega)).mp c_52
              refine lv_iinc (v := nI (i + 1)) (lv' := [(2, .int (nI (i + 1))), (0, .ref q0), (1, .int (nI 0))]) hx hb dX4_mends_55 hl (k := 2) rfl (nI_add i 1) (by decide) rfl (fun ls hl => ?_)
              refine lv_goto (tgt := 20) hx hb dX4_mends_58 (by decide) ?_
              exact ih_20 (i + 1) (by omega) (fo_s (by omega) hv c_52) (by omega) _ _ _ hP hD hS (lv_sub hl [1, 2, 0] rfl)
      exact loop_20 (vM w0 + 1) 0 (by omega) rfl (by omega) H locs ls hP hD hS (lv_sub hl [1, 2, 0] rfl)
    · skip
      refine lv_iconst (v := nI 0) hx hb dX4_mends_18 (by decide) ?_
      refine lv_istore_n (lv' := [(2, .int (nI 0)), (0, .ref q0), (1, .int (nI 1))]) hx hb dX4_mends_19 rfl hl (by decide) rfl (fun ls hl => ?_)
      have loop_20 : ∀ (fu_20 : Nat) (i : Nat), i ≤ vM w1 → foF (vK w1) (vP w1) (vM w1 - i) i = foN (vK w1) (vP w1) (vM w1) → vM w1 < i + fu_20 → ∀ (H : Heap) (locs : List Loc) (ls : Array Slot), va_P G.1 vwCl [kO q0 4 [.int (nI 0), .ref q1, .ref q2, .ref q3, .ref q4, .ref q5, .ref q6], kC G q1 8 (nR (peF w0 w1)), kC G q2 120 (nR (knF w0 w1)), kC G q3 120 (nR (plF w0 w1)), kC G q4 80 (nR ru), kC G q5 8 (nR bf), kC G q6 2 (nR (nuF ho un))] H → va_D A [kO q0 4 [.int (nI 0), .ref q1, .ref q2, .ref q3, .ref q4, .ref q5, .ref q6], kC G q1 8 (nR (peF w0 w1)), kC G q2 120 (nR (knF w0 w1)), kC G q3 120 (nR (plF w0 w1)), kC G q4 80 (nR ru), kC G q5 8 (nR bf), kC G q6 2 (nR (nuF ho un))] → va_S A s.heap H locs → lv_has ls 3 [(0, .ref q0), (1, .int (nI 1)), (2, .int (nI i))] → W p l e ({ frames := 2, cells := 0, slots := 0, locals := 42 } : Room) s m args below meth c H locs 0 0 Qs (F0 m 20 ls []) := by
        intro fu_20
        induction fu_20 with
        | zero =>
          intro i hi hv hf
          exact absurd hf (by omega)
        | succ fu_20 ih_20 =>
          intro i hi hv hf H locs ls hP hD hS hl
          refine lv_iload_n hx hb dX4_mends_20 rfl (lv_at hl 2 rfl) ?_
          refine lv_aload_n hx hb dX4_mends_21 rfl (lv_at hl 0 rfl) ?_
          refine lv_iload_n hx hb dX4_mends_22 rfl (lv_at hl 1 rfl) ?_
          refine lv_iconst (v := nI 1) hx hb dX4_mends_23 (by decide) ?_
          refine k_calli (fun _ => [kO q0 4 [.int (nI 0), .ref q1, .ref q2, .ref q3, .ref q4, .ref q5, .ref q6], kC G q1 8 (nR (peF w0 w1)), kC G q2 120 (nR (knF w0 w1)), kC G q3 120 (nR (plF w0 w1)), kC G q4 80 (nR ru), kC G q5 8 (nR bf), kC G q6 2 (nR (nuF ho un))]) [kC G q2 120 (nR (knF w0 w1)), kC G q3 120 (nR (plF w0 w1)), kC G q4 80 (nR ru), kC G q5 8 (nR bf), kC G q6 2 (nR (nuF ho un))] (k_runV (As := [.int (nI 1), .int (nI 1)]) (rest := [.int (nI i)]) (wc := [kO q0 4 [.int (nI 0), .ref q1, .ref q2, .ref q3, .ref q4, .ref q5, .ref q6], kC G q1 8 (nR (peF w0 w1))]) ⟨hx, hb, hml, hown, hts⟩ (m_pe l G q0 q1 q2 q3 q4 q5 q6 0 (peF w0 w1) 1 1 (by decide) (by decide)) (cwV 2 hts gX4_mends_X4_pe rfl rfl rfl (by decide +kernel) ⟨Nat.le_of_ble_eq_true rfl, Nat.le_of_ble_eq_true rfl⟩) hK hZ hP hD hS hA [0, 1] rfl rfl 0 4 rfl rfl rfl rfl hl.1 rfl (Nat.le_of_ble_eq_true rfl) dX4_mends_24 ⟨Nat.le_of_ble_eq_true rfl, Nat.le_of_ble_eq_true rfl⟩) hP hD hS hA [0, 1] [2, 3, 4, 5, 6] [5, 6, 0, 1, 2, 3, 4] rfl rfl rfl (by decide) (fun _ => rfl) rfl (fun r_24 u_24 H locs hp_24 hP hD hS => ?_)
          have hp_24 : r_24 = nI (vM w1) := hp_24
          subst hp_24
          refine lv_icmp_ge (tgt := 61) hx hb dX4_mends_27 (by decide) (fun c_27 => ?_) (fun c_27 => ?_)
          · have c_27 : (vM w1) ≤ i := (nI_leI (a := (vM w1)) (b := i) (by omega) (by omega)).mp c_27
            have he : i = foN (vK w1) (vP w1) (vM w1) := fo_e (by omega) hv
            refine lv_aload_n hx hb dX4_mends_61 rfl (lv_at hl 0 rfl) ?_
            refine lv_iload_n hx hb dX4_mends_62 rfl (lv_at hl 1 rfl) ?_
            refine lv_iconst (v := nI 1) hx hb dX4_mends_63 (by decide) ?_
            refine k_calli (fun _ => [kO q0 4 [.int (nI 0), .ref q1, .ref q2, .ref q3, .ref q4, .ref q5, .ref q6], kC G q1 8 (nR (peF w0 w1)), kC G q2 120 (nR (knF w0 w1)), kC G q3 120 (nR (plF w0 w1)), kC G q4 80 (nR ru), kC G q5 8 (nR bf), kC G q6 2 (nR (nuF ho un))]) [kC G q2 120 (nR (knF w0 w1)), kC G q3 120 (nR (plF w0 w1)), kC G q4 80 (nR ru), kC G q5 8 (nR bf), kC G q6 2 (nR (nuF ho un))] (k_runV (As := [.int (nI 1), .int (nI 1)]) (rest := []) (wc := [kO q0 4 [.int (nI 0), .ref q1, .ref q2, .ref q3, .ref q4, .ref q5, .ref q6], kC G q1 8 (nR (peF w0 w1))]) ⟨hx, hb, hml, hown, hts⟩ (m_pe l G q0 q1 q2 q3 q4 q5 q6 0 (peF w0 w1) 1 1 (by decide) (by decide)) (cwV 2 hts gX4_mends_X4_pe rfl rfl rfl (by decide +kernel) ⟨Nat.le_of_ble_eq_true rfl, Nat.le_of_ble_eq_true rfl⟩) hK hZ hP hD hS hA [0, 1] rfl rfl 0 4 rfl rfl rfl rfl hl.1 rfl (Nat.le_of_ble_eq_true rfl) dX4_mends_64 ⟨Nat.le_of_ble_eq_true rfl, Nat.le_of_ble_eq_true rfl⟩) hP hD hS hA [0, 1] [2, 3, 4, 5, 6] [5, 6, 0, 1, 2, 3, 4] rfl rfl rfl (by decide) (fun _ => rfl) rfl (fun r_64 u_64 H locs hp_64 hP hD hS => ?_)
            have hp_64 : r_64 = nI (vM w1) := hp_64
            subst hp_64
            refine lv_iload_n hx hb dX4_mends_67 rfl (lv_at hl 2 rfl) ?_
            refine lv_isub hx hb dX4_mends_68 ?_
            refine lv_topi (fun y_13 hy_13 => ?_)
            obtain rfl : y_13 = nI ((vM w1) - i) := hy_13.trans (pk_sub (a := (vM w1)) (b := i) (by omega))
            exact k_iret (ws := [kO q0 4 [.int (nI th), .ref q1, .ref q2, .ref q3, .ref q4, .ref q5, .ref q6], kC G q1 8 (nR (peF w0 w1)), kC G q2 120 (nR (knF w0 w1)), kC G q3 120 (nR (plF w0 w1)), kC G q4 80 (nR ru), kC G q5 8 (nR bf), kC G q6 2 (nR (nuF ho un))]) (()) hx hb hr hlocks hP hD hS hAe hQ (Nat.le_of_ble_eq_true rfl) (Nat.le_of_ble_eq_true rfl) dX4_mends_69 (by rw [cdA_0 hp_6]) (fun _ => (by rw [tj, he]; rfl))
          · have c_27 : ¬ ((vM w1) ≤ i) := fun h9 => c_27 ((nI_leI (a := (vM w1)) (b := i) (by omega) (by omega)).mpr h9)
            refine lv_aload_n hx hb dX4_mends_30 rfl (lv_at hl 0 rfl) ?_
            refine va_get (D := G.1) (ci := 4) (v := .ref q2) (C := RX4) (T := TX4) (N := 7) hx hb hts hq_0 hown hK.1 hP 0 rfl rfl 2 (by decide) hq_2 (fun _ h9 => h9) rfl dX4_mends_31 ?_
            refine lv_bipush (v := nI 60) hx hb dX4_mends_34 (by decide) ?_
            refine lv_iload_n hx hb dX4_mends_36 rfl (lv_at hl 1 rfl) ?_
            refine lv_imul hx hb dX4_mends_37 ?_
            refine lv_topi (fun y_14 hy_14 => ?_)
            obtain rfl : y_14 = nI 60 := hy_14.trans (by decide)
            refine lv_iload_n hx hb dX4_mends_38 rfl (lv_at hl 2 rfl) ?_
            refine lv_iadd hx hb dX4_mends_39 ?_
            refine lv_topi (fun y_15 hy_15 => ?_)
            obtain rfl : y_15 = nI (60 + i) := hy_15.trans (nI_add 60 i)
            have hi_16 : (60 + i) < 120 := by omega
            refine va_iald (D := G.1) hx hb hK.1 hP 2 0 rfl rfl (vp_in_nI hi_16 (by omega)) dX4_mends_40 ?_
            refine lv_topi (fun y_17 hy_17 => ?_)
            obtain rfl : y_17 = nI ((knF w0 w1) (60 + i)) := hy_17.trans (nR_at (by omega))
            refine lv_topi (fun y_18 hy_18 => ?_)
            obtain rfl : y_18 = nI (vK w1 i) := hy_18.trans (congrArg nI (knF_hi))
            refine lv_aload_n hx hb dX4_mends_41 rfl (lv_at hl 0 rfl) ?_
            refine va_get (D := G.1) (ci := 4) (v := .ref q3) (C := RX4) (T := TX4) (N := 7) hx hb hts hq_0 hown hK.1 hP 0 rfl rfl 3 (by decide) hq_3 (fun _ h9 => h9) rfl dX4_mends_42 ?_
            refine lv_bipush (v := nI 60) hx hb dX4_mends_45 (by decide) ?_
            refine lv_iload_n hx hb dX4_mends_47 rfl (lv_at hl 1 rfl) ?_
            refine lv_imul hx hb dX4_mends_48 ?_
            refine lv_topi (fun y_19 hy_19 => ?_)
            obtain rfl : y_19 = nI 60 := hy_19.trans (by decide)
            refine lv_iload_n hx hb dX4_mends_49 rfl (lv_at hl 2 rfl) ?_
            refine lv_iadd hx hb dX4_mends_50 ?_
            refine lv_topi (fun y_20 hy_20 => ?_)
            obtain rfl : y_20 = nI (60 + i) := hy_20.trans (nI_add 60 i)
            have hi_21 : (60 + i) < 120 := by omega
            refine va_iald (D := G.1) hx hb hK.1 hP 3 0 rfl rfl (vp_in_nI hi_21 (by omega)) dX4_mends_51 ?_
            refine lv_topi (fun y_22 hy_22 => ?_)
            obtain rfl : y_22 = nI ((plF w0 w1) (60 + i)) := hy_22.trans (nR_at (by omega))
            refine lv_topi (fun y_23 hy_23 => ?_)
            obtain rfl : y_23 = nI (vP w1 i) := hy_23.trans (congrArg nI (plF_hi))
            have xk := kb1 i (by omega)
            have xp := pb1 i (by omega)
            refine lv_icmp_ne (tgt := 61) hx hb dX4_mends_52 (by decide) (fun c_52 => ?_) (fun c_52 => ?_)
            · have c_52 : ¬ ((vK w1 i) = (vP w1 i)) := fun h9 => c_52 ((nI_eq (a := (vK w1 i)) (b := (vP w1 i)) (by omega) (by omega)).mpr h9)
              have he : i = foN (vK w1) (vP w1) (vM w1) := fo_d (by omega) hv c_52
              refine lv_aload_n hx hb dX4_mends_61 rfl (lv_at hl 0 rfl) ?_
              refine lv_iload_n hx hb dX4_mends_62 rfl (lv_at hl 1 rfl) ?_
              refine lv_iconst (v := nI 1) hx hb dX4_mends_63 (by decide) ?_
              refine k_calli (fun _ => [kO q0 4 [.int (nI 0), .ref q1, .ref q2, .ref q3, .ref q4, .ref q5, .ref q6], kC G q1 8 (nR (peF w0 w1)), kC G q2 120 (nR (knF w0 w1)), kC G q3 120 (nR (plF w0 w1)), kC G q4 80 (nR ru), kC G q5 8 (nR bf), kC G q6 2 (nR (nuF ho un))]) [kC G q2 120 (nR (knF w0 w1)), kC G q3 120 (nR (plF w0 w1)), kC G q4 80 (nR ru), kC G q5 8 (nR bf), kC G q6 2 (nR (nuF ho un))] (k_runV (As := [.int (nI 1), .int (nI 1)]) (rest := []) (wc := [kO q0 4 [.int (nI 0), .ref q1, .ref q2, .ref q3, .ref q4, .ref q5, .ref q6], kC G q1 8 (nR (peF w0 w1))]) ⟨hx, hb, hml, hown, hts⟩ (m_pe l G q0 q1 q2 q3 q4 q5 q6 0 (peF w0 w1) 1 1 (by decide) (by decide)) (cwV 2 hts gX4_mends_X4_pe rfl rfl rfl (by decide +kernel) ⟨Nat.le_of_ble_eq_true rfl, Nat.le_of_ble_eq_true rfl⟩) hK hZ hP hD hS hA [0, 1] rfl rfl 0 4 rfl rfl rfl rfl hl.1 rfl (Nat.le_of_ble_eq_true rfl) dX4_mends_64 ⟨Nat.le_of_ble_eq_true rfl, Nat.le_of_ble_eq_true rfl⟩) hP hD hS hA [0, 1] [2, 3, 4, 5, 6] [5, 6, 0, 1, 2, 3, 4] rfl rfl rfl (by decide) (fun _ => rfl) rfl (fun r_64 u_64 H locs hp_64 hP hD hS => ?_)
              have hp_64 : r_64 = nI (vM w1) := hp_64
              subst hp_64
              refine lv_iload_n hx hb dX4_mends_67 rfl (lv_at hl 2 rfl) ?_
              refine lv_isub hx hb dX4_mends_68 ?_
              refine lv_topi (fun y_24 hy_24 => ?_)
              obtain rfl : y_24 = nI ((vM w1) - i) := hy_24.trans (pk_sub (a := (vM w1)) (b := i) (by omega))
              exact k_iret (ws := [kO q0 4 [.int (nI th), .ref q1, .ref q2, .ref q3, .ref q4, .ref q5, .ref q6], kC G q1 8 (nR (peF w0 w1)), kC G q2 120 (nR (knF w0 w1)), kC G q3 120 (nR (plF w0 w1)), kC G q4 80 (nR ru), kC G q5 8 (nR bf), kC G q6 2 (nR (nuF ho un))]) (()) hx hb hr hlocks hP hD hS hAe hQ (Nat.le_of_ble_eq_true rfl) (Nat.le_of_ble_eq_true rfl) dX4_mends_69 (by rw [cdA_0 hp_6]) (fun _ => (by rw [tj, he]; rfl))
            · have c_52 : (vK w1 i) = (vP w1 i) := (nI_eq (a := (vK w1 i)) (b := (vP w1 i)) (by omega) (by omega)).mp c_52
              refine lv_iinc (v := nI (i + 1)) (lv' := [(2, .int (nI (i + 1))), (0, .ref q0), (1, .int (nI 1))]) hx hb dX4_mends_55 hl (k := 2) rfl (nI_add i 1) (by decide) rfl (fun ls hl => ?_)
              refine lv_goto (tgt := 20) hx hb dX4_mends_58 (by decide) ?_
              exact ih_20 (i + 1) (by omega) (fo_s (by omega) hv c_52) (by omega) _ _ _ hP hD hS (lv_sub hl [1, 2, 0] rfl)
      exact loop_20 (vM w1 + 1) 0 (by omega) rfl (by omega) H locs ls hP hD hS (lv_sub hl [1, 2, 0] rfl)
  · refine lv_if_ne (tgt := 18) hx hb dX4_mends_9 (by decide) (fun c_9 => absurd c_9 (by decide)) (fun c_9 => ?_)
    refine lv_aload_n hx hb dX4_mends_12 rfl (lv_at hl 0 rfl) ?_
    refine lv_iconst (v := nI 1) hx hb dX4_mends_13 (by decide) ?_
    refine k_calli (fun _ => [kO q0 4 [.int (nI 1), .ref q1, .ref q2, .ref q3, .ref q4, .ref q5, .ref q6], kC G q1 8 (nR (peF w0 w1)), kC G q2 120 (nR (knF w0 w1)), kC G q3 120 (nR (plF w0 w1)), kC G q4 80 (nR ru), kC G q5 8 (nR bf), kC G q6 2 (nR (nuF ho un))]) [kC G q1 8 (nR (peF w0 w1)), kC G q2 120 (nR (knF w0 w1)), kC G q3 120 (nR (plF w0 w1)), kC G q4 80 (nR ru), kC G q5 8 (nR bf), kC G q6 2 (nR (nuF ho un))] (k_runV (As := [.int (nI 1)]) (rest := []) (wc := [kO q0 4 [.int (nI 0), .ref q1, .ref q2, .ref q3, .ref q4, .ref q5, .ref q6]]) ⟨hx, hb, hml, hown, hts⟩ (m_fail l G q0 q1 q2 q3 q4 q5 q6 0 1 ) (cwV 1 hts gX4_mends_X4_fail rfl rfl rfl (by decide +kernel) ⟨Nat.le_of_ble_eq_true rfl, Nat.le_of_ble_eq_true rfl⟩) hK hZ hP hD hS hA [0] rfl rfl 0 4 rfl rfl rfl rfl hl.1 rfl (Nat.le_of_ble_eq_true rfl) dX4_mends_14 ⟨Nat.le_of_ble_eq_true rfl, Nat.le_of_ble_eq_true rfl⟩) hP hD hS hA [0] [1, 2, 3, 4, 5, 6] [6, 0, 1, 2, 3, 4, 5] rfl rfl rfl (by decide) (fun _ => rfl) rfl (fun r_14 u_14 H locs hp_14 hP hD hS => ?_)
    have hp_14 : r_14 = nI 0 := hp_14
    subst hp_14
    exact k_iret (ws := [kO q0 4 [.int (nI th), .ref q1, .ref q2, .ref q3, .ref q4, .ref q5, .ref q6], kC G q1 8 (nR (peF w0 w1)), kC G q2 120 (nR (knF w0 w1)), kC G q3 120 (nR (plF w0 w1)), kC G q4 80 (nR ru), kC G q5 8 (nR bf), kC G q6 2 (nR (nuF ho un))]) (()) hx hb hr hlocks hP hD hS hAe hQ (Nat.le_of_ble_eq_true rfl) (Nat.le_of_ble_eq_true rfl) dX4_mends_17 (by first | (rw [cdA_1 hp_6]; done)) (by first | exact fun q => absurd ((cdA_1 hp_6).symm.trans q) (by decide))
