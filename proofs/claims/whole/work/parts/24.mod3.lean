set_option maxHeartbeats 4000000 in
set_option maxRecDepth 100000 in
theorem m_isDone0 (l : Launch) (G : kG) (q0 : Nat) (q1 : Nat) (q2 : Nat) (q3 : Nat) (q4 : Nat) (q5 : Nat) (q6 : Nat) (w0 : Wv) (w1 : Wv) (bf : Nat → Nat) (ho : Nat) (un : Nat) (ru : Nat → Nat) (th : Nat) (h0 : wOk w0) (h1 : wOk w1) (hru : ruOk w0 w1 ru) : kM l G yX4_isDone wsX4_isDone ({ frames := 1, cells := 0, slots := 0, locals := 22 } : Room) [.ref q0, .int (nI 0)] [kO q0 4 [.int (nI th), .ref q1, .ref q2, .ref q3, .ref q4, .ref q5, .ref q6], kC G q1 8 (nR (peF w0 w1)), kC G q2 120 (nR (knF w0 w1)), kC G q3 120 (nR (plF w0 w1)), kC G q4 80 (nR ru), kC G q5 8 (nR bf), kC G q6 2 (nR (nuF ho un))] (kQi G [kO q0 4 [.int (nI th), .ref q1, .ref q2, .ref q3, .ref q4, .ref q5, .ref q6], kC G q1 8 (nR (peF w0 w1)), kC G q2 120 (nR (knF w0 w1)), kC G q3 120 (nR (plF w0 w1)), kC G q4 80 (nR ru), kC G q5 8 (nR bf), kC G q6 2 (nR (nuF ho un))] (fun (r : Int32) (_ : Unit) => (r = nI 1 ∧ (vT w0 = 0 ∨ vM w0 = 60)) ∨ (r = nI 0 ∧ ¬ (vT w0 = 0 ∨ vM w0 = 60))) (fun (_ : Unit) => [kO q0 4 [.int (nI th), .ref q1, .ref q2, .ref q3, .ref q4, .ref q5, .ref q6], kC G q1 8 (nR (peF w0 w1)), kC G q2 120 (nR (knF w0 w1)), kC G q3 120 (nR (plF w0 w1)), kC G q4 80 (nR ru), kC G q5 8 (nR bf), kC G q6 2 (nR (nuF ho un))])) := by
  refine k_ofW (cc := cX4_isDone) (maxL := 2) (rt := (some .boolean)) (by decide) rfl (Nat.le_of_ble_eq_true rfl) ?_
  intro p e s m args below meth c A ls Qs H locs hQ hAe hx hb hr hml hts hown hlocks hin hK hZ hP hD hS hA hl
  have hown : s.vm.findClass RX4 = some m.cls := hown
  have hl : lv_has ls 2 [(0, .ref q0), (1, .int (nI 0))] := hl
  have m0b : vM w0 ≤ 60 := h0.2.2.2.1
  have m1b : vM w1 ≤ 60 := h1.2.2.2.1
  have t0b : vT w0 ≤ 20 := h0.2.2.1
  have t1b : vT w1 ≤ 20 := h1.2.2.1
  have pb0 : ∀ i, i < 60 → vP w0 i < 8 := h0.2.2.2.2.1
  have pb1 : ∀ i, i < 60 → vP w1 i < 8 := h1.2.2.2.2.1
  have kb0 : ∀ i, i < 60 → vK w0 i < 8 := h0.2.2.2.2.2.1
  have kb1 : ∀ i, i < 60 → vK w1 i < 8 := h1.2.2.2.2.2.1
  have rk0 := hru.1
  have rk1 := hru.2
  refine lv_aload_n hx hb dX4_isDone_0 rfl (lv_at hl 0 rfl) ?_
  refine lv_iload_n hx hb dX4_isDone_1 rfl (lv_at hl 1 rfl) ?_
  refine lv_iconst (v := nI 2) hx hb dX4_isDone_2 (by decide) ?_
  refine k_calli (fun _ => [kO q0 4 [.int (nI th), .ref q1, .ref q2, .ref q3, .ref q4, .ref q5, .ref q6], kC G q1 8 (nR (peF w0 w1)), kC G q2 120 (nR (knF w0 w1)), kC G q3 120 (nR (plF w0 w1)), kC G q4 80 (nR ru), kC G q5 8 (nR bf), kC G q6 2 (nR (nuF ho un))]) [kC G q2 120 (nR (knF w0 w1)), kC G q3 120 (nR (plF w0 w1)), kC G q4 80 (nR ru), kC G q5 8 (nR bf), kC G q6 2 (nR (nuF ho un))] (k_runV (As := [.int (nI 0), .int (nI 2)]) (rest := []) (wc := [kO q0 4 [.int (nI th), .ref q1, .ref q2, .ref q3, .ref q4, .ref q5, .ref q6], kC G q1 8 (nR (peF w0 w1))]) ⟨hx, hb, hml, hown, hts⟩ (m_pe l G q0 q1 q2 q3 q4 q5 q6 th (peF w0 w1) 0 2 (by decide) (by decide)) (cwV 2 hts gX4_isDone_X4_pe rfl rfl rfl (by decide +kernel) ⟨Nat.le_of_ble_eq_true rfl, Nat.le_of_ble_eq_true rfl⟩) hK hZ hP hD hS hA [0, 1] rfl rfl 0 4 rfl rfl rfl rfl hl.1 rfl (Nat.le_of_ble_eq_true rfl) dX4_isDone_3 ⟨Nat.le_of_ble_eq_true rfl, Nat.le_of_ble_eq_true rfl⟩) hP hD hS hA [0, 1] [2, 3, 4, 5, 6] [5, 6, 0, 1, 2, 3, 4] rfl rfl rfl (by decide) (fun _ => rfl) rfl (fun r_3 u_3 H locs hp_3 hP hD hS => ?_)
  have hp_3 : r_3 = nI (vT w0) := hp_3
  subst hp_3
  refine lv_if_eq (tgt := 20) hx hb dX4_isDone_6 (by decide) (fun c_6 => ?_) (fun c_6 => ?_)
  · have c_6 : (vT w0) = 0 := (k_eq0 (a := (vT w0)) (by omega)).mp c_6
    refine lv_iconst (v := nI 1) hx hb dX4_isDone_20 (by decide) ?_
    refine lv_goto (tgt := 25) hx hb dX4_isDone_21 (by decide) ?_
    exact k_zret (ws := [kO q0 4 [.int (nI th), .ref q1, .ref q2, .ref q3, .ref q4, .ref q5, .ref q6], kC G q1 8 (nR (peF w0 w1)), kC G q2 120 (nR (knF w0 w1)), kC G q3 120 (nR (plF w0 w1)), kC G q4 80 (nR ru), kC G q5 8 (nR bf), kC G q6 2 (nR (nuF ho un))]) (()) hx hb hr rfl hlocks hP hD hS hAe hQ (Nat.le_of_ble_eq_true rfl) (Nat.le_of_ble_eq_true rfl) dX4_isDone_25 (rfl) (Or.inl ⟨rfl, by omega⟩)
  · have c_6 : ¬ ((vT w0) = 0) := fun h9 => c_6 ((k_eq0 (a := (vT w0)) (by omega)).mpr h9)
    refine lv_aload_n hx hb dX4_isDone_9 rfl (lv_at hl 0 rfl) ?_
    refine lv_iload_n hx hb dX4_isDone_10 rfl (lv_at hl 1 rfl) ?_
    refine lv_iconst (v := nI 1) hx hb dX4_isDone_11 (by decide) ?_
    refine k_calli (fun _ => [kO q0 4 [.int (nI th), .ref q1, .ref q2, .ref q3, .ref q4, .ref q5, .ref q6], kC G q1 8 (nR (peF w0 w1)), kC G q2 120 (nR (knF w0 w1)), kC G q3 120 (nR (plF w0 w1)), kC G q4 80 (nR ru), kC G q5 8 (nR bf), kC G q6 2 (nR (nuF ho un))]) [kC G q2 120 (nR (knF w0 w1)), kC G q3 120 (nR (plF w0 w1)), kC G q4 80 (nR ru), kC G q5 8 (nR bf), kC G q6 2 (nR (nuF ho un))] (k_runV (As := [.int (nI 0), .int (nI 1)]) (rest := []) (wc := [kO q0 4 [.int (nI th), .ref q1, .ref q2, .ref q3, .ref q4, .ref q5, .ref q6], kC G q1 8 (nR (peF w0 w1))]) ⟨hx, hb, hml, hown, hts⟩ (m_pe l G q0 q1 q2 q3 q4 q5 q6 th (peF w0 w1) 0 1 (by decide) (by decide)) (cwV 2 hts gX4_isDone_X4_pe rfl rfl rfl (by decide +kernel) ⟨Nat.le_of_ble_eq_true rfl, Nat.le_of_ble_eq_true rfl⟩) hK hZ hP hD hS hA [0, 1] rfl rfl 0 4 rfl rfl rfl rfl hl.1 rfl (Nat.le_of_ble_eq_true rfl) dX4_isDone_12 ⟨Nat.le_of_ble_eq_true rfl, Nat.le_of_ble_eq_true rfl⟩) hP hD hS hA [0, 1] [2, 3, 4, 5, 6] [5, 6, 0, 1, 2, 3, 4] rfl rfl rfl (by decide) (fun _ => rfl) rfl (fun r_12 u_12 H locs hp_12 hP hD hS => ?_)
    have hp_12 : r_12 = nI (vM w0) := hp_12
    subst hp_12
    refine lv_bipush (v := nI 60) hx hb dX4_isDone_15 (by decide) ?_
    refine lv_icmp_ne (tgt := 24) hx hb dX4_isDone_17 (by decide) (fun c_17 => ?_) (fun c_17 => ?_)
    · have c_17 : ¬ ((vM w0) = 60) := fun h9 => c_17 ((nI_eq (a := (vM w0)) (b := 60) (by omega) (by omega)).mpr h9)
      refine lv_iconst (v := nI 0) hx hb dX4_isDone_24 (by decide) ?_
      exact k_zret (ws := [kO q0 4 [.int (nI th), .ref q1, .ref q2, .ref q3, .ref q4, .ref q5, .ref q6], kC G q1 8 (nR (peF w0 w1)), kC G q2 120 (nR (knF w0 w1)), kC G q3 120 (nR (plF w0 w1)), kC G q4 80 (nR ru), kC G q5 8 (nR bf), kC G q6 2 (nR (nuF ho un))]) (()) hx hb hr rfl hlocks hP hD hS hAe hQ (Nat.le_of_ble_eq_true rfl) (Nat.le_of_ble_eq_true rfl) dX4_isDone_25 (rfl) (Or.inr ⟨rfl, by omega⟩)
    · have c_17 : (vM w0) = 60 := (nI_eq (a := (vM w0)) (b := 60) (by omega) (by omega)).mp c_17
      refine lv_iconst (v := nI 1) hx hb dX4_isDone_20 (by decide) ?_
      refine lv_goto (tgt := 25) hx hb dX4_isDone_21 (by decide) ?_
      exact k_zret (ws := [kO q0 4 [.int (nI th), .ref q1, .ref q2, .ref q3, .ref q4, .ref q5, .ref q6], kC G q1 8 (nR (peF w0 w1)), kC G q2 120 (nR (knF w0 w1)), kC G q3 120 (nR (plF w0 w1)), kC G q4 80 (nR ru), kC G q5 8 (nR bf), kC G q6 2 (nR (nuF ho un))]) (()) hx hb hr rfl hlocks hP hD hS hAe hQ (Nat.le_of_ble_eq_true rfl) (Nat.le_of_ble_eq_true rfl) dX4_isDone_25 (rfl) (Or.inl ⟨rfl, by omega⟩)
set_option maxHeartbeats 4000000 in
set_option maxRecDepth 100000 in
theorem m_dropRun0 (l : Launch) (G : kG) (q0 : Nat) (q1 : Nat) (q2 : Nat) (q3 : Nat) (q4 : Nat) (q5 : Nat) (q6 : Nat) (th : Nat) (w0 : Wv) (w1 : Wv) (ru : Nat → Nat) (ht : 0 < vT w0) (ht20 : vT w0 ≤ 20) : kM l G yX4_dropRun wsX4_dropRun ({ frames := 1, cells := 0, slots := 0, locals := 23 } : Room) [.ref q0, .int (nI 0)] [kO q0 4 [.int (nI th), .ref q1, .ref q2, .ref q3, .ref q4, .ref q5, .ref q6], kC G q1 8 (nR (peF w0 w1)), kC G q4 80 (nR ru)] (kQv G [kO q0 4 [.int (nI th), .ref q1, .ref q2, .ref q3, .ref q4, .ref q5, .ref q6], kC G q1 8 (nR (peF w0 w1)), kC G q4 80 (nR ru)] (fun (_ : Unit) => True) (fun (_ : Unit) => [kO q0 4 [.int (nI th), .ref q1, .ref q2, .ref q3, .ref q4, .ref q5, .ref q6], kC G q1 8 (nR (peF (wTold w0 (vT w0 - 1)) w1)), kC G q4 80 (nR (cpyN ru (2 * (0 + 1)) (2 * (0 + 0)) 38))])) := by
  refine k_ofW (cc := cX4_dropRun) (maxL := 2) (rt := none) (by decide) rfl (Nat.le_of_ble_eq_true rfl) ?_
  intro p e s m args below meth c A ls Qs H locs hQ hAe hx hb hr hml hts hown hlocks hin hK hZ hP hD hS hA hl
  have hown : s.vm.findClass RX4 = some m.cls := hown
  have hl : lv_has ls 2 [(0, .ref q0), (1, .int (nI 0))] := hl
  have hq_0 : ∀ w ∈ wsX40, w ∈ wsX4_dropRun := by decide +kernel
  have hq_1 : (Cond.fieldLink RX4 19 "KnotRugsModel" "runs" "[I").before args s = true := hts _ (by decide +kernel)
  have hq_2 : (Cond.methodLink RX4 98 arraycopyName).before args s = true := hts _ (by decide +kernel)
  have hq_3 : (Cond.native arraycopyName).before args s = true := hts _ (by decide +kernel)
  have hq_4 : (Cond.static arraycopyName).before args s = true := hts _ (by decide +kernel)
  have hq_5 : (Cond.initialized "java/lang/System").before args s = true := hts _ (by decide +kernel)
  refine lv_aload_n hx hb dX4_dropRun_0 rfl (lv_at hl 0 rfl) ?_
  refine va_get (D := G.1) (ci := 4) (v := .ref q4) (C := RX4) (T := TX4) (N := 7) hx hb hts hq_0 hown hK.1 hP 0 rfl rfl 4 (by decide) hq_1 (fun _ h9 => h9) rfl dX4_dropRun_1 ?_
  refine lv_aload_n hx hb dX4_dropRun_4 rfl (lv_at hl 0 rfl) ?_
  refine lv_iload_n hx hb dX4_dropRun_5 rfl (lv_at hl 1 rfl) ?_
  refine lv_iconst (v := nI 1) hx hb dX4_dropRun_6 (by decide) ?_
  refine k_calli (fun _ => [kO q0 4 [.int (nI th), .ref q1, .ref q2, .ref q3, .ref q4, .ref q5, .ref q6], kC G q1 8 (nR (peF w0 w1)), kC G q4 80 (nR ru)]) [kC G q1 8 (nR (peF w0 w1)), kC G q4 80 (nR ru)] (k_runV (As := [.int (nI 0), .int (nI 1)]) (rest := [.ref q4]) (wc := [kO q0 4 [.int (nI th), .ref q1, .ref q2, .ref q3, .ref q4, .ref q5, .ref q6]]) ⟨hx, hb, hml, hown, hts⟩ (m_runAt l G q0 q1 q2 q3 q4 q5 q6 th 0 1 ) (cwV 2 hts gX4_dropRun_X4_runAt rfl rfl rfl (by decide +kernel) ⟨Nat.le_of_ble_eq_true rfl, Nat.le_of_ble_eq_true rfl⟩) hK hZ hP hD hS hA [0] rfl rfl 0 4 rfl rfl rfl rfl hl.1 rfl (Nat.le_of_ble_eq_true rfl) dX4_dropRun_7 ⟨Nat.le_of_ble_eq_true rfl, Nat.le_of_ble_eq_true rfl⟩) hP hD hS hA [0] [1, 2] [2, 0, 1] rfl rfl rfl (by decide) (fun _ => rfl) rfl (fun r_7 u_7 H locs hp_7 hP hD hS => ?_)
  have hp_7 : r_7 = nI (2 * (0 + 1)) := hp_7
  subst hp_7
  refine lv_aload_n hx hb dX4_dropRun_10 rfl (lv_at hl 0 rfl) ?_
  refine va_get (D := G.1) (ci := 4) (v := .ref q4) (C := RX4) (T := TX4) (N := 7) hx hb hts hq_0 hown hK.1 hP 0 rfl rfl 4 (by decide) hq_1 (fun _ h9 => h9) rfl dX4_dropRun_11 ?_
  refine lv_aload_n hx hb dX4_dropRun_14 rfl (lv_at hl 0 rfl) ?_
  refine lv_iload_n hx hb dX4_dropRun_15 rfl (lv_at hl 1 rfl) ?_
  refine lv_iconst (v := nI 0) hx hb dX4_dropRun_16 (by decide) ?_
  refine k_calli (fun _ => [kO q0 4 [.int (nI th), .ref q1, .ref q2, .ref q3, .ref q4, .ref q5, .ref q6], kC G q1 8 (nR (peF w0 w1)), kC G q4 80 (nR ru)]) [kC G q1 8 (nR (peF w0 w1)), kC G q4 80 (nR ru)] (k_runV (As := [.int (nI 0), .int (nI 0)]) (rest := [.ref q4, .int (nI (2 * (0 + 1))), .ref q4]) (wc := [kO q0 4 [.int (nI th), .ref q1, .ref q2, .ref q3, .ref q4, .ref q5, .ref q6]]) ⟨hx, hb, hml, hown, hts⟩ (m_runAt l G q0 q1 q2 q3 q4 q5 q6 th 0 0 ) (cwV 2 hts gX4_dropRun_X4_runAt rfl rfl rfl (by decide +kernel) ⟨Nat.le_of_ble_eq_true rfl, Nat.le_of_ble_eq_true rfl⟩) hK hZ hP hD hS hA [0] rfl rfl 0 4 rfl rfl rfl rfl hl.1 rfl (Nat.le_of_ble_eq_true rfl) dX4_dropRun_17 ⟨Nat.le_of_ble_eq_true rfl, Nat.le_of_ble_eq_true rfl⟩) hP hD hS hA [0] [1, 2] [2, 0, 1] rfl rfl rfl (by decide) (fun _ => rfl) rfl (fun r_17 u_17 H locs hp_17 hP hD hS => ?_)
  have hp_17 : r_17 = nI (2 * (0 + 0)) := hp_17
  subst hp_17
  refine lv_bipush (v := nI 38) hx hb dX4_dropRun_20 (by decide) ?_
  refine va_copyi (D := G.1) (ty := .int) hx hb (hml.trans hl.1.symm) hown hq_2 hq_3 hq_4 hq_5 hK.1 hP hD hS 2 2 0 0 rfl rfl rfl rfl rfl (nI_pos (by omega)) (nI_pos (by omega)) (nI_pos (by omega)) (by rw [nI_clamp (n := 2 * (0 + 1)) (by omega), nI_clamp (n := 38) (by omega)]; omega) (by rw [nI_clamp (n := 2 * (0 + 0)) (by omega), nI_clamp (n := 38) (by omega)]; omega) (fun _ _ => rfl) (Nat.le_of_ble_eq_true rfl) (Nat.le_of_ble_eq_true rfl) dX4_dropRun_22 (fun H locs hP hD hS => ?_)
  rw [nI_clamp (n := 2 * (0 + 1)) (by omega), nI_clamp (n := 2 * (0 + 0)) (by omega), nI_clamp (n := 38) (by omega)] at hP hD
  rw [nR_cpy] at hP hD
  have hP : va_P G.1 vwCl [kO q0 4 [.int (nI th), .ref q1, .ref q2, .ref q3, .ref q4, .ref q5, .ref q6], kC G q1 8 (nR (peF w0 w1)), kC G q4 80 (nR (cpyN ru (2 * (0 + 1)) (2 * (0 + 0)) 38))] H := hP
  have hD : va_D A [kO q0 4 [.int (nI th), .ref q1, .ref q2, .ref q3, .ref q4, .ref q5, .ref q6], kC G q1 8 (nR (peF w0 w1)), kC G q4 80 (nR (cpyN ru (2 * (0 + 1)) (2 * (0 + 0)) 38))] := hD
  refine lv_aload_n hx hb dX4_dropRun_25 rfl (lv_at hl 0 rfl) ?_
  refine lv_iload_n hx hb dX4_dropRun_26 rfl (lv_at hl 1 rfl) ?_
  refine lv_iconst (v := nI 2) hx hb dX4_dropRun_27 (by decide) ?_
  refine lv_aload_n hx hb dX4_dropRun_28 rfl (lv_at hl 0 rfl) ?_
  refine lv_iload_n hx hb dX4_dropRun_29 rfl (lv_at hl 1 rfl) ?_
  refine lv_iconst (v := nI 2) hx hb dX4_dropRun_30 (by decide) ?_
  refine k_calli (fun _ => [kO q0 4 [.int (nI th), .ref q1, .ref q2, .ref q3, .ref q4, .ref q5, .ref q6], kC G q1 8 (nR (peF w0 w1)), kC G q4 80 (nR (cpyN ru (2 * (0 + 1)) (2 * (0 + 0)) 38))]) [kC G q4 80 (nR (cpyN ru (2 * (0 + 1)) (2 * (0 + 0)) 38))] (k_runV (As := [.int (nI 0), .int (nI 2)]) (rest := [.int (nI 2), .int (nI 0), .ref q0]) (wc := [kO q0 4 [.int (nI th), .ref q1, .ref q2, .ref q3, .ref q4, .ref q5, .ref q6], kC G q1 8 (nR (peF w0 w1))]) ⟨hx, hb, hml, hown, hts⟩ (m_pe l G q0 q1 q2 q3 q4 q5 q6 th (peF w0 w1) 0 2 (by decide) (by decide)) (cwV 2 hts gX4_dropRun_X4_pe rfl rfl rfl (by decide +kernel) ⟨Nat.le_of_ble_eq_true rfl, Nat.le_of_ble_eq_true rfl⟩) hK hZ hP hD hS hA [0, 1] rfl rfl 0 4 rfl rfl rfl rfl hl.1 rfl (Nat.le_of_ble_eq_true rfl) dX4_dropRun_31 ⟨Nat.le_of_ble_eq_true rfl, Nat.le_of_ble_eq_true rfl⟩) hP hD hS hA [0, 1] [2] [1, 2, 0] rfl rfl rfl (by decide) (fun _ => rfl) rfl (fun r_31 u_31 H locs hp_31 hP hD hS => ?_)
  have hp_31 : r_31 = nI (vT w0) := hp_31
  subst hp_31
  refine lv_iconst (v := nI 1) hx hb dX4_dropRun_34 (by decide) ?_
  refine lv_isub hx hb dX4_dropRun_35 ?_
  refine lv_topi (fun y_1 hy_1 => ?_)
  obtain rfl : y_1 = nI ((vT w0) - 1) := hy_1.trans (pk_sub (a := (vT w0)) (b := 1) (by omega))
  refine k_callv (fun _ => [kO q0 4 [.int (nI th), .ref q1, .ref q2, .ref q3, .ref q4, .ref q5, .ref q6], kC G q1 8 (nR (updN (peF w0 w1) (4 * 0 + 2) ((vT w0) - 1))), kC G q4 80 (nR (cpyN ru (2 * (0 + 1)) (2 * (0 + 0)) 38))]) [kC G q4 80 (nR (cpyN ru (2 * (0 + 1)) (2 * (0 + 0)) 38))] (k_runV (As := [.int (nI 0), .int (nI 2), .int (nI ((vT w0) - 1))]) (rest := []) (wc := [kO q0 4 [.int (nI th), .ref q1, .ref q2, .ref q3, .ref q4, .ref q5, .ref q6], kC G q1 8 (nR (peF w0 w1))]) ⟨hx, hb, hml, hown, hts⟩ (m_put l G q0 q1 q2 q3 q4 q5 q6 th (peF w0 w1) 0 2 ((vT w0) - 1) (by decide) (by decide)) (cwV 3 hts gX4_dropRun_X4_put rfl rfl rfl (by decide +kernel) ⟨Nat.le_of_ble_eq_true rfl, Nat.le_of_ble_eq_true rfl⟩) hK hZ hP hD hS hA [0, 1] rfl rfl 0 4 rfl rfl rfl rfl hl.1 rfl (Nat.le_of_ble_eq_true rfl) dX4_dropRun_36 ⟨Nat.le_of_ble_eq_true rfl, Nat.le_of_ble_eq_true rfl⟩) hP hD hS hA [0, 1] [2] [1, 2, 0] rfl rfl rfl (by decide) (fun _ => rfl) rfl (fun u_36 H locs hp_36 hP hD hS => ?_)
  rw [pe_2] at hP hD
  have hP : va_P G.1 vwCl [kO q0 4 [.int (nI th), .ref q1, .ref q2, .ref q3, .ref q4, .ref q5, .ref q6], kC G q1 8 (nR (peF (wTold w0 (vT w0 - 1)) w1)), kC G q4 80 (nR (cpyN ru (2 * (0 + 1)) (2 * (0 + 0)) 38))] H := hP
  have hD : va_D A [kO q0 4 [.int (nI th), .ref q1, .ref q2, .ref q3, .ref q4, .ref q5, .ref q6], kC G q1 8 (nR (peF (wTold w0 (vT w0 - 1)) w1)), kC G q4 80 (nR (cpyN ru (2 * (0 + 1)) (2 * (0 + 0)) 38))] := hD
  exact k_vret (ws := [kO q0 4 [.int (nI th), .ref q1, .ref q2, .ref q3, .ref q4, .ref q5, .ref q6], kC G q1 8 (nR (peF w0 w1)), kC G q4 80 (nR ru)]) (()) hx hb hr hlocks hP hD hS hAe hQ (Nat.le_of_ble_eq_true rfl) (Nat.le_of_ble_eq_true rfl) dX4_dropRun_39 (rfl) (trivial)
set_option maxHeartbeats 4000000 in
set_option maxRecDepth 100000 in
theorem m_isDone1 (l : Launch) (G : kG) (q0 : Nat) (q1 : Nat) (q2 : Nat) (q3 : Nat) (q4 : Nat) (q5 : Nat) (q6 : Nat) (w0 : Wv) (w1 : Wv) (bf : Nat → Nat) (ho : Nat) (un : Nat) (ru : Nat → Nat) (th : Nat) (h0 : wOk w0) (h1 : wOk w1) (hru : ruOk w0 w1 ru) : kM l G yX4_isDone wsX4_isDone ({ frames := 1, cells := 0, slots := 0, locals := 22 } : Room) [.ref q0, .int (nI 1)] [kO q0 4 [.int (nI th), .ref q1, .ref q2, .ref q3, .ref q4, .ref q5, .ref q6], kC G q1 8 (nR (peF w0 w1)), kC G q2 120 (nR (knF w0 w1)), kC G q3 120 (nR (plF w0 w1)), kC G q4 80 (nR ru), kC G q5 8 (nR bf), kC G q6 2 (nR (nuF ho un))] (kQi G [kO q0 4 [.int (nI th), .ref q1, .ref q2, .ref q3, .ref q4, .ref q5, .ref q6], kC G q1 8 (nR (peF w0 w1)), kC G q2 120 (nR (knF w0 w1)), kC G q3 120 (nR (plF w0 w1)), kC G q4 80 (nR ru), kC G q5 8 (nR bf), kC G q6 2 (nR (nuF ho un))] (fun (r : Int32) (_ : Unit) => (r = nI 1 ∧ (vT w1 = 0 ∨ vM w1 = 60)) ∨ (r = nI 0 ∧ ¬ (vT w1 = 0 ∨ vM w1 = 60))) (fun (_ : Unit) => [kO q0 4 [.int (nI th), .ref q1, .ref q2, .ref q3, .ref q4, .ref q5, .ref q6], kC G q1 8 (nR (peF w0 w1)), kC G q2 120 (nR (knF w0 w1)), kC G q3 120 (nR (plF w0 w1)), kC G q4 80 (nR ru), kC G q5 8 (nR bf), kC G q6 2 (nR (nuF ho un))])) := by
  refine k_ofW (cc := cX4_isDone) (maxL := 2) (rt := (some .boolean)) (by decide) rfl (Nat.le_of_ble_eq_true rfl) ?_
  intro p e s m args below meth c A ls Qs H locs hQ hAe hx hb hr hml hts hown hlocks hin hK hZ hP hD hS hA hl
  have hown : s.vm.findClass RX4 = some m.cls := hown
  have hl : lv_has ls 2 [(0, .ref q0), (1, .int (nI 1))] := hl
  have m0b : vM w0 ≤ 60 := h0.2.2.2.1
  have m1b : vM w1 ≤ 60 := h1.2.2.2.1
  have t0b : vT w0 ≤ 20 := h0.2.2.1
  have t1b : vT w1 ≤ 20 := h1.2.2.1
  have pb0 : ∀ i, i < 60 → vP w0 i < 8 := h0.2.2.2.2.1
  have pb1 : ∀ i, i < 60 → vP w1 i < 8 := h1.2.2.2.2.1
  have kb0 : ∀ i, i < 60 → vK w0 i < 8 := h0.2.2.2.2.2.1
  have kb1 : ∀ i, i < 60 → vK w1 i < 8 := h1.2.2.2.2.2.1
  have rk0 := hru.1
  have rk1 := hru.2
  refine lv_aload_n hx hb dX4_isDone_0 rfl (lv_at hl 0 rfl) ?_
  refine lv_iload_n hx hb dX4_isDone_1 rfl (lv_at hl 1 rfl) ?_
  refine lv_iconst (v := nI 2) hx hb dX4_isDone_2 (by decide) ?_
  refine k_calli (fun _ => [kO q0 4 [.int (nI th), .ref q1, .ref q2, .ref q3, .ref q4, .ref q5, .ref q6], kC G q1 8 (nR (peF w0 w1)), kC G q2 120 (nR (knF w0 w1)), kC G q3 120 (nR (plF w0 w1)), kC G q4 80 (nR ru), kC G q5 8 (nR bf), kC G q6 2 (nR (nuF ho un))]) [kC G q2 120 (nR (knF w0 w1)), kC G q3 120 (nR (plF w0 w1)), kC G q4 80 (nR ru), kC G q5 8 (nR bf), kC G q6 2 (nR (nuF ho un))] (k_runV (As := [.int (nI 1), .int (nI 2)]) (rest := []) (wc := [kO q0 4 [.int (nI th), .ref q1, .ref q2, .ref q3, .ref q4, .ref q5, .ref q6], kC G q1 8 (nR (peF w0 w1))]) ⟨hx, hb, hml, hown, hts⟩ (m_pe l G q0 q1 q2 q3 q4 q5 q6 th (peF w0 w1) 1 2 (by decide) (by decide)) (cwV 2 hts gX4_isDone_X4_pe rfl rfl rfl (by decide +kernel) ⟨Nat.le_of_ble_eq_true rfl, Nat.le_of_ble_eq_true rfl⟩) hK hZ hP hD hS hA [0, 1] rfl rfl 0 4 rfl rfl rfl rfl hl.1 rfl (Nat.le_of_ble_eq_true rfl) dX4_isDone_3 ⟨Nat.le_of_ble_eq_true rfl, Nat.le_of_ble_eq_true rfl⟩) hP hD hS hA [0, 1] [2, 3, 4, 5, 6] [5, 6, 0, 1, 2, 3, 4] rfl rfl rfl (by decide) (fun _ => rfl) rfl (fun r_3 u_3 H locs hp_3 hP hD hS => ?_)
  have hp_3 : r_3 = nI (vT w1) := hp_3
  subst hp_3
  refine lv_if_eq (tgt := 20) hx hb dX4_isDone_6 (by decide) (fun c_6 => ?_) (fun c_6 => ?_)
  · have c_6 : (vT w1) = 0 := (k_eq0 (a := (vT w1)) (by omega)).mp c_6
    refine lv_iconst (v := nI 1) hx hb dX4_isDone_20 (by decide) ?_
    refine lv_goto (tgt := 25) hx hb dX4_isDone_21 (by decide) ?_
    exact k_zret (ws := [kO q0 4 [.int (nI th), .ref q1, .ref q2, .ref q3, .ref q4, .ref q5, .ref q6], kC G q1 8 (nR (peF w0 w1)), kC G q2 120 (nR (knF w0 w1)), kC G q3 120 (nR (plF w0 w1)), kC G q4 80 (nR ru), kC G q5 8 (nR bf), kC G q6 2 (nR (nuF ho un))]) (()) hx hb hr rfl hlocks hP hD hS hAe hQ (Nat.le_of_ble_eq_true rfl) (Nat.le_of_ble_eq_true rfl) dX4_isDone_25 (rfl) (Or.inl ⟨rfl, by omega⟩)
  · have c_6 : ¬ ((vT w1) = 0) := fun h9 => c_6 ((k_eq0 (a := (vT w1)) (by omega)).mpr h9)
    refine lv_aload_n hx hb dX4_isDone_9 rfl (lv_at hl 0 rfl) ?_
    refine lv_iload_n hx hb dX4_isDone_10 rfl (lv_at hl 1 rfl) ?_
    refine lv_iconst (v := nI 1) hx hb dX4_isDone_11 (by decide) ?_
    refine k_calli (fun _ => [kO q0 4 [.int (nI th), .ref q1, .ref q2, .ref q3, .ref q4, .ref q5, .ref q6], kC G q1 8 (nR (peF w0 w1)), kC G q2 120 (nR (knF w0 w1)), kC G q3 120 (nR (plF w0 w1)), kC G q4 80 (nR ru), kC G q5 8 (nR bf), kC G q6 2 (nR (nuF ho un))]) [kC G q2 120 (nR (knF w0 w1)), kC G q3 120 (nR (plF w0 w1)), kC G q4 80 (nR ru), kC G q5 8 (nR bf), kC G q6 2 (nR (nuF ho un))] (k_runV (As := [.int (nI 1), .int (nI 1)]) (rest := []) (wc := [kO q0 4 [.int (nI th), .ref q1, .ref q2, .ref q3, .ref q4, .ref q5, .ref q6], kC G q1 8 (nR (peF w0 w1))]) ⟨hx, hb, hml, hown, hts⟩ (m_pe l G q0 q1 q2 q3 q4 q5 q6 th (peF w0 w1) 1 1 (by decide) (by decide)) (cwV 2 hts gX4_isDone_X4_pe rfl rfl rfl (by decide +kernel) ⟨Nat.le_of_ble_eq_true rfl, Nat.le_of_ble_eq_true rfl⟩) hK hZ hP hD hS hA [0, 1] rfl rfl 0 4 rfl rfl rfl rfl hl.1 rfl (Nat.le_of_ble_eq_true rfl) dX4_isDone_12 ⟨Nat.le_of_ble_eq_true rfl, Nat.le_of_ble_eq_true rfl⟩) hP hD hS hA [0, 1] [2, 3, 4, 5, 6] [5, 6, 0, 1, 2, 3, 4] rfl rfl rfl (by decide) (fun _ => rfl) rfl (fun r_12 u_12 H locs hp_12 hP hD hS => ?_)
    have hp_12 : r_12 = nI (vM w1) := hp_12
    subst hp_12
    refine lv_bipush (v := nI 60) hx hb dX4_isDone_15 (by decide) ?_
    refine lv_icmp_ne (tgt := 24) hx hb dX4_isDone_17 (by decide) (fun c_17 => ?_) (fun c_17 => ?_)
    · have c_17 : ¬ ((vM w1) = 60) := fun h9 => c_17 ((nI_eq (a := (vM w1)) (b := 60) (by omega) (by omega)).mpr h9)
      refine lv_iconst (v := nI 0) hx hb dX4_isDone_24 (by decide) ?_
      exact k_zret (ws := [kO q0 4 [.int (nI th), .ref q1, .ref q2, .ref q3, .ref q4, .ref q5, .ref q6], kC G q1 8 (nR (peF w0 w1)), kC G q2 120 (nR (knF w0 w1)), kC G q3 120 (nR (plF w0 w1)), kC G q4 80 (nR ru), kC G q5 8 (nR bf), kC G q6 2 (nR (nuF ho un))]) (()) hx hb hr rfl hlocks hP hD hS hAe hQ (Nat.le_of_ble_eq_true rfl) (Nat.le_of_ble_eq_true rfl) dX4_isDone_25 (rfl) (Or.inr ⟨rfl, by omega⟩)
    · have c_17 : (vM w1) = 60 := (nI_eq (a := (vM w1)) (b := 60) (by omega) (by omega)).mp c_17
      refine lv_iconst (v := nI 1) hx hb dX4_isDone_20 (by decide) ?_
      refine lv_goto (tgt := 25) hx hb dX4_isDone_21 (by decide) ?_
      exact k_zret (ws := [kO q0 4 [.int (nI th), .ref q1, .ref q2, .ref q3, .ref q4, .ref q5, .ref q6], kC G q1 8 (nR (peF w0 w1)), kC G q2 120 (nR (knF w0 w1)), kC G q3 120 (nR (plF w0 w1)), kC G q4 80 (nR ru), kC G q5 8 (nR bf), kC G q6 2 (nR (nuF ho un))]) (()) hx hb hr rfl hlocks hP hD hS hAe hQ (Nat.le_of_ble_eq_true rfl) (Nat.le_of_ble_eq_true rfl) dX4_isDone_25 (rfl) (Or.inl ⟨rfl, by omega⟩)
set_option maxHeartbeats 4000000 in
set_option maxRecDepth 100000 in
theorem m_dropRun1 (l : Launch) (G : kG) (q0 : Nat) (q1 : Nat) (q2 : Nat) (q3 : Nat) (q4 : Nat) (q5 : Nat) (q6 : Nat) (th : Nat) (w0 : Wv) (w1 : Wv) (ru : Nat → Nat) (ht : 0 < vT w1) (ht20 : vT w1 ≤ 20) : kM l G yX4_dropRun wsX4_dropRun ({ frames := 1, cells := 0, slots := 0, locals := 23 } : Room) [.ref q0, .int (nI 1)] [kO q0 4 [.int (nI th), .ref q1, .ref q2, .ref q3, .ref q4, .ref q5, .ref q6], kC G q1 8 (nR (peF w0 w1)), kC G q4 80 (nR ru)] (kQv G [kO q0 4 [.int (nI th), .ref q1, .ref q2, .ref q3, .ref q4, .ref q5, .ref q6], kC G q1 8 (nR (peF w0 w1)), kC G q4 80 (nR ru)] (fun (_ : Unit) => True) (fun (_ : Unit) => [kO q0 4 [.int (nI th), .ref q1, .ref q2, .ref q3, .ref q4, .ref q5, .ref q6], kC G q1 8 (nR (peF w0 (wTold w1 (vT w1 - 1)))), kC G q4 80 (nR (cpyN ru (2 * (20 + 1)) (2 * (20 + 0)) 38))])) := by
  refine k_ofW (cc := cX4_dropRun) (maxL := 2) (rt := none) (by decide) rfl (Nat.le_of_ble_eq_true rfl) ?_
  intro p e s m args below meth c A ls Qs H locs hQ hAe hx hb hr hml hts hown hlocks hin hK hZ hP hD hS hA hl
  have hown : s.vm.findClass RX4 = some m.cls := hown
  have hl : lv_has ls 2 [(0, .ref q0), (1, .int (nI 1))] := hl
  have hq_0 : ∀ w ∈ wsX40, w ∈ wsX4_dropRun := by decide +kernel
  have hq_1 : (Cond.fieldLink RX4 19 "KnotRugsModel" "runs" "[I").before args s = true := hts _ (by decide +kernel)
  have hq_2 : (Cond.methodLink RX4 98 arraycopyName).before args s = true := hts _ (by decide +kernel)
  have hq_3 : (Cond.native arraycopyName).before args s = true := hts _ (by decide +kernel)
  have hq_4 : (Cond.static arraycopyName).before args s = true := hts _ (by decide +kernel)
  have hq_5 : (Cond.initialized "java/lang/System").before args s = true := hts _ (by decide +kernel)
  refine lv_aload_n hx hb dX4_dropRun_0 rfl (lv_at hl 0 rfl) ?_
  refine va_get (D := G.1) (ci := 4) (v := .ref q4) (C := RX4) (T := TX4) (N := 7) hx hb hts hq_0 hown hK.1 hP 0 rfl rfl 4 (by decide) hq_1 (fun _ h9 => h9) rfl dX4_dropRun_1 ?_
  refine lv_aload_n hx hb dX4_dropRun_4 rfl (lv_at hl 0 rfl) ?_
  refine lv_iload_n hx hb dX4_dropRun_5 rfl (lv_at hl 1 rfl) ?_
  refine lv_iconst (v := nI 1) hx hb dX4_dropRun_6 (by decide) ?_
  refine k_calli (fun _ => [kO q0 4 [.int (nI th), .ref q1, .ref q2, .ref q3, .ref q4, .ref q5, .ref q6], kC G q1 8 (nR (peF w0 w1)), kC G q4 80 (nR ru)]) [kC G q1 8 (nR (peF w0 w1)), kC G q4 80 (nR ru)] (k_runV (As := [.int (nI 1), .int (nI 1)]) (rest := [.ref q4]) (wc := [kO q0 4 [.int (nI th), .ref q1, .ref q2, .ref q3, .ref q4, .ref q5, .ref q6]]) ⟨hx, hb, hml, hown, hts⟩ (m_runAt l G q0 q1 q2 q3 q4 q5 q6 th 1 1 ) (cwV 2 hts gX4_dropRun_X4_runAt rfl rfl rfl (by decide +kernel) ⟨Nat.le_of_ble_eq_true rfl, Nat.le_of_ble_eq_true rfl⟩) hK hZ hP hD hS hA [0] rfl rfl 0 4 rfl rfl rfl rfl hl.1 rfl (Nat.le_of_ble_eq_true rfl) dX4_dropRun_7 ⟨Nat.le_of_ble_eq_true rfl, Nat.le_of_ble_eq_true rfl⟩) hP hD hS hA [0] [1, 2] [2, 0, 1] rfl rfl rfl (by decide) (fun _ => rfl) rfl (fun r_7 u_7 H locs hp_7 hP hD hS => ?_)
  have hp_7 : r_7 = nI (2 * (20 + 1)) := hp_7
  subst hp_7
  refine lv_aload_n hx hb dX4_dropRun_10 rfl (lv_at hl 0 rfl) ?_
  refine va_get (D := G.1) (ci := 4) (v := .ref q4) (C := RX4) (T := TX4) (N := 7) hx hb hts hq_0 hown hK.1 hP 0 rfl rfl 4 (by decide) hq_1 (fun _ h9 => h9) rfl dX4_dropRun_11 ?_
  refine lv_aload_n hx hb dX4_dropRun_14 rfl (lv_at hl 0 rfl) ?_
  refine lv_iload_n hx hb dX4_dropRun_15 rfl (lv_at hl 1 rfl) ?_
  refine lv_iconst (v := nI 0) hx hb dX4_dropRun_16 (by decide) ?_
  refine k_calli (fun _ => [kO q0 4 [.int (nI th), .ref q1, .ref q2, .ref q3, .ref q4, .ref q5, .ref q6], kC G q1 8 (nR (peF w0 w1)), kC G q4 80 (nR ru)]) [kC G q1 8 (nR (peF w0 w1)), kC G q4 80 (nR ru)] (k_runV (As := [.int (nI 1), .int (nI 0)]) (rest := [.ref q4, .int (nI (2 * (20 + 1))), .ref q4]) (wc := [kO q0 4 [.int (nI th), .ref q1, .ref q2, .ref q3, .ref q4, .ref q5, .ref q6]]) ⟨hx, hb, hml, hown, hts⟩ (m_runAt l G q0 q1 q2 q3 q4 q5 q6 th 1 0 ) (cwV 2 hts gX4_dropRun_X4_runAt rfl rfl rfl (by decide +kernel) ⟨Nat.le_of_ble_eq_true rfl, Nat.le_of_ble_eq_true rfl⟩) hK hZ hP hD hS hA [0] rfl rfl 0 4 rfl rfl rfl rfl hl.1 rfl (Nat.le_of_ble_eq_true rfl) dX4_dropRun_17 ⟨Nat.le_of_ble_eq_true rfl, Nat.le_of_ble_eq_true rfl⟩) hP hD hS hA [0] [1, 2] [2, 0, 1] rfl rfl rfl (by decide) (fun _ => rfl) rfl (fun r_17 u_17 H locs hp_17 hP hD hS => ?_)
  have hp_17 : r_17 = nI (2 * (20 + 0)) := hp_17
  subst hp_17
  refine lv_bipush (v := nI 38) hx hb dX4_dropRun_20 (by decide) ?_
  refine va_copyi (D := G.1) (ty := .int) hx hb (hml.trans hl.1.symm) hown hq_2 hq_3 hq_4 hq_5 hK.1 hP hD hS 2 2 0 0 rfl rfl rfl rfl rfl (nI_pos (by omega)) (nI_pos (by omega)) (nI_pos (by omega)) (by rw [nI_clamp (n := 2 * (20 + 1)) (by omega), nI_clamp (n := 38) (by omega)]; omega) (by rw [nI_clamp (n := 2 * (20 + 0)) (by omega), nI_clamp (n := 38) (by omega)]; omega) (fun _ _ => rfl) (Nat.le_of_ble_eq_true rfl) (Nat.le_of_ble_eq_true rfl) dX4_dropRun_22 (fun H locs hP hD hS => ?_)
  rw [nI_clamp (n := 2 * (20 + 1)) (by omega), nI_clamp (n := 2 * (20 + 0)) (by omega), nI_clamp (n := 38) (by omega)] at hP hD
  rw [nR_cpy] at hP hD
  have hP : va_P G.1 vwCl [kO q0 4 [.int (nI th), .ref q1, .ref q2, .ref q3, .ref q4, .ref q5, .ref q6], kC G q1 8 (nR (peF w0 w1)), kC G q4 80 (nR (cpyN ru (2 * (20 + 1)) (2 * (20 + 0)) 38))] H := hP
  have hD : va_D A [kO q0 4 [.int (nI th), .ref q1, .ref q2, .ref q3, .ref q4, .ref q5, .ref q6], kC G q1 8 (nR (peF w0 w1)), kC G q4 80 (nR (cpyN ru (2 * (20 + 1)) (2 * (20 + 0)) 38))] := hD
  refine lv_aload_n hx hb dX4_dropRun_25 rfl (lv_at hl 0 rfl) ?_
  refine lv_iload_n hx hb dX4_dropRun_26 rfl (lv_at hl 1 rfl) ?_
  refine lv_iconst (v := nI 2) hx hb dX4_dropRun_27 (by decide) ?_
  refine lv_aload_n hx hb dX4_dropRun_28 rfl (lv_at hl 0 rfl) ?_
  refine lv_iload_n hx hb dX4_dropRun_29 rfl (lv_at hl 1 rfl) ?_
  refine lv_iconst (v := nI 2) hx hb dX4_dropRun_30 (by decide) ?_
  refine k_calli (fun _ => [kO q0 4 [.int (nI th), .ref q1, .ref q2, .ref q3, .ref q4, .ref q5, .ref q6], kC G q1 8 (nR (peF w0 w1)), kC G q4 80 (nR (cpyN ru (2 * (20 + 1)) (2 * (20 + 0)) 38))]) [kC G q4 80 (nR (cpyN ru (2 * (20 + 1)) (2 * (20 + 0)) 38))] (k_runV (As := [.int (nI 1), .int (nI 2)]) (rest := [.int (nI 2), .int (nI 1), .ref q0]) (wc := [kO q0 4 [.int (nI th), .ref q1, .ref q2, .ref q3, .ref q4, .ref q5, .ref q6], kC G q1 8 (nR (peF w0 w1))]) ⟨hx, hb, hml, hown, hts⟩ (m_pe l G q0 q1 q2 q3 q4 q5 q6 th (peF w0 w1) 1 2 (by decide) (by decide)) (cwV 2 hts gX4_dropRun_X4_pe rfl rfl rfl (by decide +kernel) ⟨Nat.le_of_ble_eq_true rfl, Nat.le_of_ble_eq_true rfl⟩) hK hZ hP hD hS hA [0, 1] rfl rfl 0 4 rfl rfl rfl rfl hl.1 rfl (Nat.le_of_ble_eq_true rfl) dX4_dropRun_31 ⟨Nat.le_of_ble_eq_true rfl, Nat.le_of_ble_eq_true rfl⟩) hP hD hS hA [0, 1] [2] [1, 2, 0] rfl rfl rfl (by decide) (fun _ => rfl) rfl (fun r_31 u_31 H locs hp_31 hP hD hS => ?_)
  have hp_31 : r_31 = nI (vT w1) := hp_31
  subst hp_31
  refine lv_iconst (v := nI 1) hx hb dX4_dropRun_34 (by decide) ?_
  refine lv_isub hx hb dX4_dropRun_35 ?_
  refine lv_topi (fun y_1 hy_1 => ?_)
  obtain rfl : y_1 = nI ((vT w1) - 1) := hy_1.trans (pk_sub (a := (vT w1)) (b := 1) (by omega))
  refine k_callv (fun _ => [kO q0 4 [.int (nI th), .ref q1, .ref q2, .ref q3, .ref q4, .ref q5, .ref q6], kC G q1 8 (nR (updN (peF w0 w1) (4 * 1 + 2) ((vT w1) - 1))), kC G q4 80 (nR (cpyN ru (2 * (20 + 1)) (2 * (20 + 0)) 38))]) [kC G q4 80 (nR (cpyN ru (2 * (20 + 1)) (2 * (20 + 0)) 38))] (k_runV (As := [.int (nI 1), .int (nI 2), .int (nI ((vT w1) - 1))]) (rest := []) (wc := [kO q0 4 [.int (nI th), .ref q1, .ref q2, .ref q3, .ref q4, .ref q5, .ref q6], kC G q1 8 (nR (peF w0 w1))]) ⟨hx, hb, hml, hown, hts⟩ (m_put l G q0 q1 q2 q3 q4 q5 q6 th (peF w0 w1) 1 2 ((vT w1) - 1) (by decide) (by decide)) (cwV 3 hts gX4_dropRun_X4_put rfl rfl rfl (by decide +kernel) ⟨Nat.le_of_ble_eq_true rfl, Nat.le_of_ble_eq_true rfl⟩) hK hZ hP hD hS hA [0, 1] rfl rfl 0 4 rfl rfl rfl rfl hl.1 rfl (Nat.le_of_ble_eq_true rfl) dX4_dropRun_36 ⟨Nat.le_of_ble_eq_true rfl, Nat.le_of_ble_eq_true rfl⟩) hP hD hS hA [0, 1] [2] [1, 2, 0] rfl rfl rfl (by decide) (fun _ => rfl) rfl (fun u_36 H locs hp_36 hP hD hS => ?_)
  rw [pe_6] at hP hD
  have hP : va_P G.1 vwCl [kO q0 4 [.int (nI th), .ref q1, .ref q2, .ref q3, .ref q4, .ref q5, .ref q6], kC G q1 8 (nR (peF w0 (wTold w1 (vT w1 - 1)))), kC G q4 80 (nR (cpyN ru (2 * (20 + 1)) (2 * (20 + 0)) 38))] H := hP
  have hD : va_D A [kO q0 4 [.int (nI th), .ref q1, .ref q2, .ref q3, .ref q4, .ref q5, .ref q6], kC G q1 8 (nR (peF w0 (wTold w1 (vT w1 - 1)))), kC G q4 80 (nR (cpyN ru (2 * (20 + 1)) (2 * (20 + 0)) 38))] := hD
  exact k_vret (ws := [kO q0 4 [.int (nI th), .ref q1, .ref q2, .ref q3, .ref q4, .ref q5, .ref q6], kC G q1 8 (nR (peF w0 w1)), kC G q4 80 (nR ru)]) (()) hx hb hr hlocks hP hD hS hAe hQ (Nat.le_of_ble_eq_true rfl) (Nat.le_of_ble_eq_true rfl) dX4_dropRun_39 (rfl) (trivial)
set_option maxHeartbeats 4000000 in
set_option maxRecDepth 100000 in
theorem m_knot0 (l : Launch) (G : kG) (q0 : Nat) (q1 : Nat) (q2 : Nat) (q3 : Nat) (q4 : Nat) (q5 : Nat) (q6 : Nat) (w0 : Wv) (w1 : Wv) (bf : Nat → Nat) (ho : Nat) (un : Nat) (ru : Nat → Nat) (th : Nat) (h0 : wOk w0) (h1 : wOk w1) (hB : bOk bf) (hru : ruOk w0 w1 ru) (ht1 : 0 < vT w0) (hm60 : vM w0 < 60) : kM l G yX4_knot wsX4_knot ({ frames := 2, cells := 0, slots := 0, locals := 44 } : Room) [.ref q0, .int (nI 0)] [kO q0 4 [.int (nI th), .ref q1, .ref q2, .ref q3, .ref q4, .ref q5, .ref q6], kC G q1 8 (nR (peF w0 w1)), kC G q2 120 (nR (knF w0 w1)), kC G q3 120 (nR (plF w0 w1)), kC G q4 80 (nR ru), kC G q5 8 (nR bf), kC G q6 2 (nR (nuF ho un))] (kQi G [kO q0 4 [.int (nI th), .ref q1, .ref q2, .ref q3, .ref q4, .ref q5, .ref q6], kC G q1 8 (nR (peF w0 w1)), kC G q2 120 (nR (knF w0 w1)), kC G q3 120 (nR (plF w0 w1)), kC G q4 80 (nR ru), kC G q5 8 (nR bf), kC G q6 2 (nR (nuF ho un))] (fun (r : Int32) (u : Wv × (Nat → Nat) × (Nat → Nat)) => (r = nI 1 ∧ takeBy bf (vC w0 0) < 8 ∧ u.1 = knW w0 bf ∧ u.2.1 = takeB bf (vC w0 0) ∧ ruOk u.1 w1 u.2.2) ∨ (r = nI 0 ∧ ¬ takeBy bf (vC w0 0) < 8 ∧ u = (w0, bf, ru))) (fun (u : Wv × (Nat → Nat) × (Nat → Nat)) => [kO q0 4 [.int (nI th), .ref q1, .ref q2, .ref q3, .ref q4, .ref q5, .ref q6], kC G q1 8 (nR (peF u.1 w1)), kC G q2 120 (nR (knF u.1 w1)), kC G q3 120 (nR (plF u.1 w1)), kC G q4 80 (nR u.2.2), kC G q5 8 (nR u.2.1), kC G q6 2 (nR (nuF ho un))])) := by
  refine k_ofW (cc := cX4_knot) (maxL := 5) (rt := (some .boolean)) (by decide) rfl (Nat.le_of_ble_eq_true rfl) ?_
  intro p e s m args below meth c A ls Qs H locs hQ hAe hx hb hr hml hts hown hlocks hin hK hZ hP hD hS hA hl
  have hown : s.vm.findClass RX4 = some m.cls := hown
  have hl : lv_has ls 5 [(0, .ref q0), (1, .int (nI 0))] := hl
  have m0b : vM w0 ≤ 60 := h0.2.2.2.1
  have m1b : vM w1 ≤ 60 := h1.2.2.2.1
  have t0b : vT w0 ≤ 20 := h0.2.2.1
  have t1b : vT w1 ≤ 20 := h1.2.2.1
  have pb0 : ∀ i, i < 60 → vP w0 i < 8 := h0.2.2.2.2.1
  have pb1 : ∀ i, i < 60 → vP w1 i < 8 := h1.2.2.2.2.1
  have kb0 : ∀ i, i < 60 → vK w0 i < 8 := h0.2.2.2.2.2.1
  have kb1 : ∀ i, i < 60 → vK w1 i < 8 := h1.2.2.2.2.2.1
  have rk0 := hru.1
  have rk1 := hru.2
  have hc0 : vC w0 0 < 8 := h0.2.2.2.2.2.2.1 0 ht1
  have hn0 := h0.2.2.2.2.2.2.2 0 ht1
  have hr0 := rk0 0 ht1
  have hq_0 : ∀ w ∈ wsX40, w ∈ wsX4_knot := by decide +kernel
  have hq_1 : (Cond.fieldLink RX4 19 "KnotRugsModel" "runs" "[I").before args s = true := hts _ (by decide +kernel)
  have hq_2 : (Cond.fieldLink RX4 22 "KnotRugsModel" "baskets" "[I").before args s = true := hts _ (by decide +kernel)
  have hq_3 : (Cond.fieldLink RX4 13 "KnotRugsModel" "knots" "[I").before args s = true := hts _ (by decide +kernel)
  refine lv_aload_n hx hb dX4_knot_0 rfl (lv_at hl 0 rfl) ?_
  refine va_get (D := G.1) (ci := 4) (v := .ref q4) (C := RX4) (T := TX4) (N := 7) hx hb hts hq_0 hown hK.1 hP 0 rfl rfl 4 (by decide) hq_1 (fun _ h9 => h9) rfl dX4_knot_1 ?_
  refine lv_aload_n hx hb dX4_knot_4 rfl (lv_at hl 0 rfl) ?_
  refine lv_iload_n hx hb dX4_knot_5 rfl (lv_at hl 1 rfl) ?_
  refine lv_iconst (v := nI 0) hx hb dX4_knot_6 (by decide) ?_
  refine k_calli (fun _ => [kO q0 4 [.int (nI th), .ref q1, .ref q2, .ref q3, .ref q4, .ref q5, .ref q6], kC G q1 8 (nR (peF w0 w1)), kC G q2 120 (nR (knF w0 w1)), kC G q3 120 (nR (plF w0 w1)), kC G q4 80 (nR ru), kC G q5 8 (nR bf), kC G q6 2 (nR (nuF ho un))]) [kC G q1 8 (nR (peF w0 w1)), kC G q2 120 (nR (knF w0 w1)), kC G q3 120 (nR (plF w0 w1)), kC G q4 80 (nR ru), kC G q5 8 (nR bf), kC G q6 2 (nR (nuF ho un))] (k_runV (As := [.int (nI 0), .int (nI 0)]) (rest := [.ref q4]) (wc := [kO q0 4 [.int (nI th), .ref q1, .ref q2, .ref q3, .ref q4, .ref q5, .ref q6]]) ⟨hx, hb, hml, hown, hts⟩ (m_runAt l G q0 q1 q2 q3 q4 q5 q6 th 0 0 ) (cwV 2 hts gX4_knot_X4_runAt rfl rfl rfl (by decide +kernel) ⟨Nat.le_of_ble_eq_true rfl, Nat.le_of_ble_eq_true rfl⟩) hK hZ hP hD hS hA [0] rfl rfl 0 4 rfl rfl rfl rfl hl.1 rfl (Nat.le_of_ble_eq_true rfl) dX4_knot_7 ⟨Nat.le_of_ble_eq_true rfl, Nat.le_of_ble_eq_true rfl⟩) hP hD hS hA [0] [1, 2, 3, 4, 5, 6] [6, 0, 1, 2, 3, 4, 5] rfl rfl rfl (by decide) (fun _ => rfl) rfl (fun r_7 u_7 H locs hp_7 hP hD hS => ?_)
  have hp_7 : r_7 = nI (2 * (0 + 0)) := hp_7
  subst hp_7
  have hi_1 : (2 * (0 + 0)) < 80 := by omega
  refine va_iald (D := G.1) hx hb hK.1 hP 4 0 rfl rfl (vp_in_nI hi_1 (by omega)) dX4_knot_10 ?_
  refine lv_topi (fun y_2 hy_2 => ?_)
  obtain rfl : y_2 = nI (ru (2 * (0 + 0))) := hy_2.trans (nR_at (by omega))
  refine lv_topi (fun y_3 hy_3 => ?_)
  obtain rfl : y_3 = nI (vC w0 0) := hy_3.trans (congrArg nI hr0.1)
  refine lv_istore_n (lv' := [(2, .int (nI (vC w0 0))), (0, .ref q0), (1, .int (nI 0))]) hx hb dX4_knot_11 rfl hl (by decide) rfl (fun ls hl => ?_)
  refine lv_iconst (v := nI 0) hx hb dX4_knot_12 (by decide) ?_
  refine lv_istore_n (lv' := [(3, .int (nI 0)), (2, .int (nI (vC w0 0))), (0, .ref q0), (1, .int (nI 0))]) hx hb dX4_knot_13 rfl hl (by decide) rfl (fun ls hl => ?_)
  have loop_14 : ∀ (fu_14 : Nat) (b : Nat), b ≤ 8 → tkB bf (vC w0 0) (8 - b) b = takeBy bf (vC w0 0) → 8 < b + fu_14 → ∀ (H : Heap) (locs : List Loc) (ls : Array Slot), va_P G.1 vwCl [kO q0 4 [.int (nI th), .ref q1, .ref q2, .ref q3, .ref q4, .ref q5, .ref q6], kC G q1 8 (nR (peF w0 w1)), kC G q2 120 (nR (knF w0 w1)), kC G q3 120 (nR (plF w0 w1)), kC G q4 80 (nR ru), kC G q5 8 (nR bf), kC G q6 2 (nR (nuF ho un))] H → va_D A [kO q0 4 [.int (nI th), .ref q1, .ref q2, .ref q3, .ref q4, .ref q5, .ref q6], kC G q1 8 (nR (peF w0 w1)), kC G q2 120 (nR (knF w0 w1)), kC G q3 120 (nR (plF w0 w1)), kC G q4 80 (nR ru), kC G q5 8 (nR bf), kC G q6 2 (nR (nuF ho un))] → va_S A s.heap H locs → lv_has ls 5 [(0, .ref q0), (1, .int (nI 0)), (2, .int (nI (vC w0 0))), (3, .int (nI b))] → W p l e ({ frames := 2, cells := 0, slots := 0, locals := 44 } : Room) s m args below meth c H locs 0 0 Qs (F0 m 14 ls []) := by
    intro fu_14
    induction fu_14 with
    | zero =>
      intro b hb8 hv hf
      exact absurd hf (by omega)
    | succ fu_14 ih_14 =>
      intro b hb8 hv hf H locs ls hP hD hS hl
      refine lv_iload_n hx hb dX4_knot_14 rfl (lv_at hl 3 rfl) ?_
      refine lv_bipush (v := nI 8) hx hb dX4_knot_15 (by decide) ?_
      refine lv_icmp_ge (tgt := 40) hx hb dX4_knot_17 (by decide) (fun c_17 => ?_) (fun c_17 => ?_)
      · have c_17 : 8 ≤ b := (nI_leI (a := 8) (b := b) (by omega) (by omega)).mp c_17
        refine lv_iload_n hx hb dX4_knot_40 rfl (lv_at hl 3 rfl) ?_
        refine lv_bipush (v := nI 8) hx hb dX4_knot_41 (by decide) ?_
        refine lv_icmp_ne (tgt := 48) hx hb dX4_knot_43 (by decide) (fun c_43 => absurd ((nI_eq (a := b) (b := 8) (by omega) (by omega)).mpr (by omega)) c_43) (fun c_43 => ?_)
        have c_43 : b = 8 := (nI_eq (a := b) (b := 8) (by omega) (by omega)).mp c_43
        refine lv_iconst (v := nI 0) hx hb dX4_knot_46 (by decide) ?_
        exact k_zret (ws := [kO q0 4 [.int (nI th), .ref q1, .ref q2, .ref q3, .ref q4, .ref q5, .ref q6], kC G q1 8 (nR (peF w0 w1)), kC G q2 120 (nR (knF w0 w1)), kC G q3 120 (nR (plF w0 w1)), kC G q4 80 (nR ru), kC G q5 8 (nR bf), kC G q6 2 (nR (nuF ho un))]) ((w0, bf, ru)) hx hb hr rfl hlocks hP hD hS hAe hQ (Nat.le_of_ble_eq_true rfl) (Nat.le_of_ble_eq_true rfl) dX4_knot_47 (rfl) (Or.inr ⟨rfl, by have := tk_end (by omega) hv; omega, rfl⟩)
      · have c_17 : ¬ (8 ≤ b) := fun h9 => c_17 ((nI_leI (a := 8) (b := b) (by omega) (by omega)).mpr h9)
        refine lv_aload_n hx hb dX4_knot_20 rfl (lv_at hl 0 rfl) ?_
        refine va_get (D := G.1) (ci := 4) (v := .ref q5) (C := RX4) (T := TX4) (N := 7) hx hb hts hq_0 hown hK.1 hP 0 rfl rfl 5 (by decide) hq_2 (fun _ h9 => h9) rfl dX4_knot_21 ?_
        refine lv_iload_n hx hb dX4_knot_24 rfl (lv_at hl 2 rfl) ?_
        refine lv_iload_n hx hb dX4_knot_25 rfl (lv_at hl 3 rfl) ?_
        refine lv_iadd hx hb dX4_knot_26 ?_
        refine lv_topi (fun y_4 hy_4 => ?_)
        obtain rfl : y_4 = nI ((vC w0 0) + b) := hy_4.trans (nI_add (vC w0 0) b)
        refine lv_bipush (v := nI 8) hx hb dX4_knot_27 (by decide) ?_
        refine lv_irem hx hb dX4_knot_29 (by first | decide | (intro h; exact absurd ((nI_eq (by omega) (by omega)).mp h) (by omega))) ?_
        refine lv_topi (fun y_5 hy_5 => ?_)
        obtain rfl : y_5 = nI (((vC w0 0) + b) % 8) := hy_5.trans (pk_rem (a := ((vC w0 0) + b)) (d := 8) (by omega) (by omega) (by omega))
        have hcb : (vC w0 0 + b) % 8 < 8 := by omega
        have hbc : bf ((vC w0 0 + b) % 8) ≤ 200 := hB _ hcb
        have hi_6 : (((vC w0 0) + b) % 8) < 8 := by omega
        refine va_iald (D := G.1) hx hb hK.1 hP 5 0 rfl rfl (vp_in_nI hi_6 (by omega)) dX4_knot_30 ?_
        refine lv_topi (fun y_7 hy_7 => ?_)
        obtain rfl : y_7 = nI (bf (((vC w0 0) + b) % 8)) := hy_7.trans (nR_at (by omega))
        refine lv_if_ne (tgt := 40) hx hb dX4_knot_31 (by decide) (fun c_31 => ?_) (fun c_31 => ?_)
        · have c_31 : ¬ ((bf (((vC w0 0) + b) % 8)) = 0) := fun h9 => c_31 ((k_eq0 (a := (bf (((vC w0 0) + b) % 8))) (by omega)).mpr h9)
          have hby : takeBy bf (vC w0 0) = b := tk_hit (by omega) hv c_31
          refine lv_iload_n hx hb dX4_knot_40 rfl (lv_at hl 3 rfl) ?_
          refine lv_bipush (v := nI 8) hx hb dX4_knot_41 (by decide) ?_
          refine lv_icmp_ne (tgt := 48) hx hb dX4_knot_43 (by decide) (fun c_43 => ?_) (fun c_43 => absurd ((nI_eq (a := b) (b := 8) (by omega) (by omega)).mp c_43) (by omega))
          have c_43 : ¬ (b = 8) := fun h9 => c_43 ((nI_eq (a := b) (b := 8) (by omega) (by omega)).mpr h9)
          refine lv_iload_n hx hb dX4_knot_48 rfl (lv_at hl 2 rfl) ?_
          refine lv_iload_n hx hb dX4_knot_49 rfl (lv_at hl 3 rfl) ?_
          refine lv_iadd hx hb dX4_knot_50 ?_
          refine lv_topi (fun y_8 hy_8 => ?_)
          obtain rfl : y_8 = nI ((vC w0 0) + b) := hy_8.trans (nI_add (vC w0 0) b)
          refine lv_bipush (v := nI 8) hx hb dX4_knot_51 (by decide) ?_
          refine lv_irem hx hb dX4_knot_53 (by first | decide | (intro h; exact absurd ((nI_eq (by omega) (by omega)).mp h) (by omega))) ?_
          refine lv_topi (fun y_9 hy_9 => ?_)
          obtain rfl : y_9 = nI (((vC w0 0) + b) % 8) := hy_9.trans (pk_rem (a := ((vC w0 0) + b)) (d := 8) (by omega) (by omega) (by omega))
          refine lv_istore (lv' := [(4, .int (nI (((vC w0 0) + b) % 8))), (0, .ref q0), (1, .int (nI 0)), (2, .int (nI (vC w0 0))), (3, .int (nI b))]) hx hb dX4_knot_54 hl (by decide) rfl (fun ls hl => ?_)
          refine lv_aload_n hx hb dX4_knot_56 rfl (lv_at hl 1 rfl) ?_
          refine va_get (D := G.1) (ci := 4) (v := .ref q5) (C := RX4) (T := TX4) (N := 7) hx hb hts hq_0 hown hK.1 hP 0 rfl rfl 5 (by decide) hq_2 (fun _ h9 => h9) rfl dX4_knot_57 ?_
          refine lv_iload hx hb dX4_knot_60 (lv_at hl 0 rfl) ?_
          refine lv_dup2_11 hx hb dX4_knot_62 rfl rfl ?_
          have hbc : bf ((vC w0 0 + b) % 8) ≤ 200 := hB _ (by omega)
          have hi_10 : (((vC w0 0) + b) % 8) < 8 := by omega
          refine va_iald (D := G.1) hx hb hK.1 hP 5 0 rfl rfl (vp_in_nI hi_10 (by omega)) dX4_knot_63 ?_
          refine lv_topi (fun y_11 hy_11 => ?_)
          obtain rfl : y_11 = nI (bf (((vC w0 0) + b) % 8)) := hy_11.trans (nR_at (by omega))
          refine lv_iconst (v := nI 1) hx hb dX4_knot_64 (by decide) ?_
          refine lv_isub hx hb dX4_knot_65 ?_
          refine lv_topi (fun y_12 hy_12 => ?_)
          obtain rfl : y_12 = nI ((bf (((vC w0 0) + b) % 8)) - 1) := hy_12.trans (pk_sub (a := (bf (((vC w0 0) + b) % 8))) (b := 1) (by omega))
          have hi_13 : (((vC w0 0) + b) % 8) < 8 := by omega
          refine va_iast (D := G.1) hx hb hK.1 hP hD hS 5 0 rfl rfl (vp_in_nI hi_13 (by omega)) dX4_knot_66 (fun H locs hP hD hS => ?_)
          rw [nR_upd (f := bf) (k := (((vC w0 0) + b) % 8)) (v := ((bf (((vC w0 0) + b) % 8)) - 1)) (by omega)] at hP hD
          have hP : va_P G.1 vwCl [kO q0 4 [.int (nI th), .ref q1, .ref q2, .ref q3, .ref q4, .ref q5, .ref q6], kC G q1 8 (nR (peF w0 w1)), kC G q2 120 (nR (knF w0 w1)), kC G q3 120 (nR (plF w0 w1)), kC G q4 80 (nR ru), kC G q5 8 (nR (updN bf (((vC w0 0) + b) % 8) ((bf (((vC w0 0) + b) % 8)) - 1))), kC G q6 2 (nR (nuF ho un))] H := hP
          have hD : va_D A [kO q0 4 [.int (nI th), .ref q1, .ref q2, .ref q3, .ref q4, .ref q5, .ref q6], kC G q1 8 (nR (peF w0 w1)), kC G q2 120 (nR (knF w0 w1)), kC G q3 120 (nR (plF w0 w1)), kC G q4 80 (nR ru), kC G q5 8 (nR (updN bf (((vC w0 0) + b) % 8) ((bf (((vC w0 0) + b) % 8)) - 1))), kC G q6 2 (nR (nuF ho un))] := hD
          refine lv_aload_n hx hb dX4_knot_67 rfl (lv_at hl 1 rfl) ?_
          refine va_get (D := G.1) (ci := 4) (v := .ref q2) (C := RX4) (T := TX4) (N := 7) hx hb hts hq_0 hown hK.1 hP 0 rfl rfl 2 (by decide) hq_3 (fun _ h9 => h9) rfl dX4_knot_68 ?_
          refine lv_bipush (v := nI 60) hx hb dX4_knot_71 (by decide) ?_
          refine lv_iload_n hx hb dX4_knot_73 rfl (lv_at hl 2 rfl) ?_
          refine lv_imul hx hb dX4_knot_74 ?_
          refine lv_topi (fun y_14 hy_14 => ?_)
          obtain rfl : y_14 = nI 0 := hy_14.trans (by decide)
          refine lv_aload_n hx hb dX4_knot_75 rfl (lv_at hl 1 rfl) ?_
          refine lv_iload_n hx hb dX4_knot_76 rfl (lv_at hl 2 rfl) ?_
          refine lv_iconst (v := nI 1) hx hb dX4_knot_77 (by decide) ?_
          refine k_calli (fun _ => [kO q0 4 [.int (nI th), .ref q1, .ref q2, .ref q3, .ref q4, .ref q5, .ref q6], kC G q1 8 (nR (peF w0 w1)), kC G q2 120 (nR (knF w0 w1)), kC G q3 120 (nR (plF w0 w1)), kC G q4 80 (nR ru), kC G q5 8 (nR (updN bf (((vC w0 0) + b) % 8) ((bf (((vC w0 0) + b) % 8)) - 1))), kC G q6 2 (nR (nuF ho un))]) [kC G q2 120 (nR (knF w0 w1)), kC G q3 120 (nR (plF w0 w1)), kC G q4 80 (nR ru), kC G q5 8 (nR (updN bf (((vC w0 0) + b) % 8) ((bf (((vC w0 0) + b) % 8)) - 1))), kC G q6 2 (nR (nuF ho un))] (k_runV (As := [.int (nI 0), .int (nI 1)]) (rest := [.int (nI 0), .ref q2]) (wc := [kO q0 4 [.int (nI th), .ref q1, .ref q2, .ref q3, .ref q4, .ref q5, .ref q6], kC G q1 8 (nR (peF w0 w1))]) ⟨hx, hb, hml, hown, hts⟩ (m_pe l G q0 q1 q2 q3 q4 q5 q6 th (peF w0 w1) 0 1 (by decide) (by decide)) (cwV 2 hts gX4_knot_X4_pe rfl rfl rfl (by decide +kernel) ⟨Nat.le_of_ble_eq_true rfl, Nat.le_of_ble_eq_true rfl⟩) hK hZ hP hD hS hA [0, 1] rfl rfl 0 4 rfl rfl rfl rfl hl.1 rfl (Nat.le_of_ble_eq_true rfl) dX4_knot_78 ⟨Nat.le_of_ble_eq_true rfl, Nat.le_of_ble_eq_true rfl⟩) hP hD hS hA [0, 1] [2, 3, 4, 5, 6] [5, 6, 0, 1, 2, 3, 4] rfl rfl rfl (by decide) (fun _ => rfl) rfl (fun r_78 u_78 H locs hp_78 hP hD hS => ?_)
          have hp_78 : r_78 = nI (vM w0) := hp_78
          subst hp_78
          refine lv_iadd hx hb dX4_knot_81 ?_
          refine lv_topi (fun y_15 hy_15 => ?_)
          obtain rfl : y_15 = nI (0 + (vM w0)) := hy_15.trans (nI_add 0 (vM w0))
          refine lv_iload hx hb dX4_knot_82 (lv_at hl 0 rfl) ?_
          have hi_16 : (0 + (vM w0)) < 120 := by omega
          refine va_iast (D := G.1) hx hb hK.1 hP hD hS 2 0 rfl rfl (vp_in_nI hi_16 (by omega)) dX4_knot_84 (fun H locs hP hD hS => ?_)
          rw [nR_upd (f := (knF w0 w1)) (k := (0 + (vM w0))) (v := (((vC w0 0) + b) % 8)) (by omega)] at hP hD
          have hP : va_P G.1 vwCl [kO q0 4 [.int (nI th), .ref q1, .ref q2, .ref q3, .ref q4, .ref q5, .ref q6], kC G q1 8 (nR (peF w0 w1)), kC G q2 120 (nR (updN (knF w0 w1) (0 + (vM w0)) (((vC w0 0) + b) % 8))), kC G q3 120 (nR (plF w0 w1)), kC G q4 80 (nR ru), kC G q5 8 (nR (updN bf (((vC w0 0) + b) % 8) ((bf (((vC w0 0) + b) % 8)) - 1))), kC G q6 2 (nR (nuF ho un))] H := hP
          have hD : va_D A [kO q0 4 [.int (nI th), .ref q1, .ref q2, .ref q3, .ref q4, .ref q5, .ref q6], kC G q1 8 (nR (peF w0 w1)), kC G q2 120 (nR (updN (knF w0 w1) (0 + (vM w0)) (((vC w0 0) + b) % 8))), kC G q3 120 (nR (plF w0 w1)), kC G q4 80 (nR ru), kC G q5 8 (nR (updN bf (((vC w0 0) + b) % 8) ((bf (((vC w0 0) + b) % 8)) - 1))), kC G q6 2 (nR (nuF ho un))] := hD
          rw [kn_0 (by omega)] at hP hD
          have hP : va_P G.1 vwCl [kO q0 4 [.int (nI th), .ref q1, .ref q2, .ref q3, .ref q4, .ref q5, .ref q6], kC G q1 8 (nR (peF w0 w1)), kC G q2 120 (nR (knF (wKn w0 (vM w0) ((vC w0 0 + b) % 8)) w1)), kC G q3 120 (nR (plF w0 w1)), kC G q4 80 (nR ru), kC G q5 8 (nR (updN bf (((vC w0 0) + b) % 8) ((bf (((vC w0 0) + b) % 8)) - 1))), kC G q6 2 (nR (nuF ho un))] H := hP
          have hD : va_D A [kO q0 4 [.int (nI th), .ref q1, .ref q2, .ref q3, .ref q4, .ref q5, .ref q6], kC G q1 8 (nR (peF w0 w1)), kC G q2 120 (nR (knF (wKn w0 (vM w0) ((vC w0 0 + b) % 8)) w1)), kC G q3 120 (nR (plF w0 w1)), kC G q4 80 (nR ru), kC G q5 8 (nR (updN bf (((vC w0 0) + b) % 8) ((bf (((vC w0 0) + b) % 8)) - 1))), kC G q6 2 (nR (nuF ho un))] := hD
          refine lv_aload_n hx hb dX4_knot_85 rfl (lv_at hl 1 rfl) ?_
          refine lv_iload_n hx hb dX4_knot_86 rfl (lv_at hl 2 rfl) ?_
          refine lv_iconst (v := nI 1) hx hb dX4_knot_87 (by decide) ?_
          refine lv_aload_n hx hb dX4_knot_88 rfl (lv_at hl 1 rfl) ?_
          refine lv_iload_n hx hb dX4_knot_89 rfl (lv_at hl 2 rfl) ?_
          refine lv_iconst (v := nI 1) hx hb dX4_knot_90 (by decide) ?_
          refine k_calli (fun _ => [kO q0 4 [.int (nI th), .ref q1, .ref q2, .ref q3, .ref q4, .ref q5, .ref q6], kC G q1 8 (nR (peF w0 w1)), kC G q2 120 (nR (knF (wKn w0 (vM w0) ((vC w0 0 + b) % 8)) w1)), kC G q3 120 (nR (plF w0 w1)), kC G q4 80 (nR ru), kC G q5 8 (nR (updN bf (((vC w0 0) + b) % 8) ((bf (((vC w0 0) + b) % 8)) - 1))), kC G q6 2 (nR (nuF ho un))]) [kC G q2 120 (nR (knF (wKn w0 (vM w0) ((vC w0 0 + b) % 8)) w1)), kC G q3 120 (nR (plF w0 w1)), kC G q4 80 (nR ru), kC G q5 8 (nR (updN bf (((vC w0 0) + b) % 8) ((bf (((vC w0 0) + b) % 8)) - 1))), kC G q6 2 (nR (nuF ho un))] (k_runV (As := [.int (nI 0), .int (nI 1)]) (rest := [.int (nI 1), .int (nI 0), .ref q0]) (wc := [kO q0 4 [.int (nI th), .ref q1, .ref q2, .ref q3, .ref q4, .ref q5, .ref q6], kC G q1 8 (nR (peF w0 w1))]) ⟨hx, hb, hml, hown, hts⟩ (m_pe l G q0 q1 q2 q3 q4 q5 q6 th (peF w0 w1) 0 1 (by decide) (by decide)) (cwV 2 hts gX4_knot_X4_pe rfl rfl rfl (by decide +kernel) ⟨Nat.le_of_ble_eq_true rfl, Nat.le_of_ble_eq_true rfl⟩) hK hZ hP hD hS hA [0, 1] rfl rfl 0 4 rfl rfl rfl rfl hl.1 rfl (Nat.le_of_ble_eq_true rfl) dX4_knot_91 ⟨Nat.le_of_ble_eq_true rfl, Nat.le_of_ble_eq_true rfl⟩) hP hD hS hA [0, 1] [2, 3, 4, 5, 6] [5, 6, 0, 1, 2, 3, 4] rfl rfl rfl (by decide) (fun _ => rfl) rfl (fun r_91 u_91 H locs hp_91 hP hD hS => ?_)
          have hp_91 : r_91 = nI (vM w0) := hp_91
          subst hp_91
          refine lv_iconst (v := nI 1) hx hb dX4_knot_94 (by decide) ?_
          refine lv_iadd hx hb dX4_knot_95 ?_
          refine lv_topi (fun y_17 hy_17 => ?_)
          obtain rfl : y_17 = nI ((vM w0) + 1) := hy_17.trans (nI_add (vM w0) 1)
          refine k_callv (fun _ => [kO q0 4 [.int (nI th), .ref q1, .ref q2, .ref q3, .ref q4, .ref q5, .ref q6], kC G q1 8 (nR (updN (peF w0 w1) (4 * 0 + 1) ((vM w0) + 1))), kC G q2 120 (nR (knF (wKn w0 (vM w0) ((vC w0 0 + b) % 8)) w1)), kC G q3 120 (nR (plF w0 w1)), kC G q4 80 (nR ru), kC G q5 8 (nR (updN bf (((vC w0 0) + b) % 8) ((bf (((vC w0 0) + b) % 8)) - 1))), kC G q6 2 (nR (nuF ho un))]) [kC G q2 120 (nR (knF (wKn w0 (vM w0) ((vC w0 0 + b) % 8)) w1)), kC G q3 120 (nR (plF w0 w1)), kC G q4 80 (nR ru), kC G q5 8 (nR (updN bf (((vC w0 0) + b) % 8) ((bf (((vC w0 0) + b) % 8)) - 1))), kC G q6 2 (nR (nuF ho un))] (k_runV (As := [.int (nI 0), .int (nI 1), .int (nI ((vM w0) + 1))]) (rest := []) (wc := [kO q0 4 [.int (nI th), .ref q1, .ref q2, .ref q3, .ref q4, .ref q5, .ref q6], kC G q1 8 (nR (peF w0 w1))]) ⟨hx, hb, hml, hown, hts⟩ (m_put l G q0 q1 q2 q3 q4 q5 q6 th (peF w0 w1) 0 1 ((vM w0) + 1) (by decide) (by decide)) (cwV 3 hts gX4_knot_X4_put rfl rfl rfl (by decide +kernel) ⟨Nat.le_of_ble_eq_true rfl, Nat.le_of_ble_eq_true rfl⟩) hK hZ hP hD hS hA [0, 1] rfl rfl 0 4 rfl rfl rfl rfl hl.1 rfl (Nat.le_of_ble_eq_true rfl) dX4_knot_96 ⟨Nat.le_of_ble_eq_true rfl, Nat.le_of_ble_eq_true rfl⟩) hP hD hS hA [0, 1] [2, 3, 4, 5, 6] [5, 6, 0, 1, 2, 3, 4] rfl rfl rfl (by decide) (fun _ => rfl) rfl (fun u_96 H locs hp_96 hP hD hS => ?_)
          rw [pe_1] at hP hD
          have hP : va_P G.1 vwCl [kO q0 4 [.int (nI th), .ref q1, .ref q2, .ref q3, .ref q4, .ref q5, .ref q6], kC G q1 8 (nR (peF (wMade w0 (vM w0 + 1)) w1)), kC G q2 120 (nR (knF (wKn w0 (vM w0) ((vC w0 0 + b) % 8)) w1)), kC G q3 120 (nR (plF w0 w1)), kC G q4 80 (nR ru), kC G q5 8 (nR (updN bf (((vC w0 0) + b) % 8) ((bf (((vC w0 0) + b) % 8)) - 1))), kC G q6 2 (nR (nuF ho un))] H := hP
          have hD : va_D A [kO q0 4 [.int (nI th), .ref q1, .ref q2, .ref q3, .ref q4, .ref q5, .ref q6], kC G q1 8 (nR (peF (wMade w0 (vM w0 + 1)) w1)), kC G q2 120 (nR (knF (wKn w0 (vM w0) ((vC w0 0 + b) % 8)) w1)), kC G q3 120 (nR (plF w0 w1)), kC G q4 80 (nR ru), kC G q5 8 (nR (updN bf (((vC w0 0) + b) % 8) ((bf (((vC w0 0) + b) % 8)) - 1))), kC G q6 2 (nR (nuF ho un))] := hD
          refine lv_iload_n hx hb dX4_knot_99 rfl (lv_at hl 4 rfl) ?_
          refine lv_if_le (tgt := 117) hx hb dX4_knot_100 (by decide) (fun c_100 => ?_) (fun c_100 => ?_)
          · have c_100 : b = 0 := (k_le0 (a := b) (by omega)).mp c_100
            refine lv_aload_n hx hb dX4_knot_117 rfl (lv_at hl 1 rfl) ?_
            refine va_get (D := G.1) (ci := 4) (v := .ref q4) (C := RX4) (T := TX4) (N := 7) hx hb hts hq_0 hown hK.1 hP 0 rfl rfl 4 (by decide) hq_1 (fun _ h9 => h9) rfl dX4_knot_118 ?_
            refine lv_aload_n hx hb dX4_knot_121 rfl (lv_at hl 1 rfl) ?_
            refine lv_iload_n hx hb dX4_knot_122 rfl (lv_at hl 2 rfl) ?_
            refine lv_iconst (v := nI 0) hx hb dX4_knot_123 (by decide) ?_
            refine k_calli (fun _ => [kO q0 4 [.int (nI th), .ref q1, .ref q2, .ref q3, .ref q4, .ref q5, .ref q6], kC G q1 8 (nR (peF (wMade w0 (vM w0 + 1)) w1)), kC G q2 120 (nR (knF (wKn w0 (vM w0) ((vC w0 0 + b) % 8)) w1)), kC G q3 120 (nR (plF w0 w1)), kC G q4 80 (nR ru), kC G q5 8 (nR (updN bf (((vC w0 0) + b) % 8) ((bf (((vC w0 0) + b) % 8)) - 1))), kC G q6 2 (nR (nuF ho un))]) [kC G q1 8 (nR (peF (wMade w0 (vM w0 + 1)) w1)), kC G q2 120 (nR (knF (wKn w0 (vM w0) ((vC w0 0 + b) % 8)) w1)), kC G q3 120 (nR (plF w0 w1)), kC G q4 80 (nR ru), kC G q5 8 (nR (updN bf (((vC w0 0) + b) % 8) ((bf (((vC w0 0) + b) % 8)) - 1))), kC G q6 2 (nR (nuF ho un))] (k_runV (As := [.int (nI 0), .int (nI 0)]) (rest := [.ref q4]) (wc := [kO q0 4 [.int (nI th), .ref q1, .ref q2, .ref q3, .ref q4, .ref q5, .ref q6]]) ⟨hx, hb, hml, hown, hts⟩ (m_runAt l G q0 q1 q2 q3 q4 q5 q6 th 0 0 ) (cwV 2 hts gX4_knot_X4_runAt rfl rfl rfl (by decide +kernel) ⟨Nat.le_of_ble_eq_true rfl, Nat.le_of_ble_eq_true rfl⟩) hK hZ hP hD hS hA [0] rfl rfl 0 4 rfl rfl rfl rfl hl.1 rfl (Nat.le_of_ble_eq_true rfl) dX4_knot_124 ⟨Nat.le_of_ble_eq_true rfl, Nat.le_of_ble_eq_true rfl⟩) hP hD hS hA [0] [1, 2, 3, 4, 5, 6] [6, 0, 1, 2, 3, 4, 5] rfl rfl rfl (by decide) (fun _ => rfl) rfl (fun r_124 u_124 H locs hp_124 hP hD hS => ?_)
            have hp_124 : r_124 = nI (2 * (0 + 0)) := hp_124
            subst hp_124
            refine lv_iconst (v := nI 1) hx hb dX4_knot_127 (by decide) ?_
            refine lv_iadd hx hb dX4_knot_128 ?_
            refine lv_topi (fun y_18 hy_18 => ?_)
            obtain rfl : y_18 = nI ((2 * (0 + 0)) + 1) := hy_18.trans (nI_add (2 * (0 + 0)) 1)
            refine lv_dup2_11 hx hb dX4_knot_129 rfl rfl ?_
            have hi_19 : ((2 * (0 + 0)) + 1) < 80 := by omega
            refine va_iald (D := G.1) hx hb hK.1 hP 4 0 rfl rfl (vp_in_nI hi_19 (by omega)) dX4_knot_130 ?_
            refine lv_topi (fun y_20 hy_20 => ?_)
            obtain rfl : y_20 = nI (ru ((2 * (0 + 0)) + 1)) := hy_20.trans (nR_at (by omega))
            refine lv_topi (fun y_21 hy_21 => ?_)
            obtain rfl : y_21 = nI (vN w0 0) := hy_21.trans (congrArg nI hr0.2)
            refine lv_iconst (v := nI 1) hx hb dX4_knot_131 (by decide) ?_
            refine lv_isub hx hb dX4_knot_132 ?_
            refine lv_topi (fun y_22 hy_22 => ?_)
            obtain rfl : y_22 = nI ((vN w0 0) - 1) := hy_22.trans (pk_sub (a := (vN w0 0)) (b := 1) (by omega))
            have hi_23 : ((2 * (0 + 0)) + 1) < 80 := by omega
            refine va_iast (D := G.1) hx hb hK.1 hP hD hS 4 0 rfl rfl (vp_in_nI hi_23 (by omega)) dX4_knot_133 (fun H locs hP hD hS => ?_)
            rw [nR_upd (f := ru) (k := ((2 * (0 + 0)) + 1)) (v := ((vN w0 0) - 1)) (by omega)] at hP hD
            have hP : va_P G.1 vwCl [kO q0 4 [.int (nI th), .ref q1, .ref q2, .ref q3, .ref q4, .ref q5, .ref q6], kC G q1 8 (nR (peF (wMade w0 (vM w0 + 1)) w1)), kC G q2 120 (nR (knF (wKn w0 (vM w0) ((vC w0 0 + b) % 8)) w1)), kC G q3 120 (nR (plF w0 w1)), kC G q4 80 (nR (updN ru ((2 * (0 + 0)) + 1) ((vN w0 0) - 1))), kC G q5 8 (nR (updN bf (((vC w0 0) + b) % 8) ((bf (((vC w0 0) + b) % 8)) - 1))), kC G q6 2 (nR (nuF ho un))] H := hP
            have hD : va_D A [kO q0 4 [.int (nI th), .ref q1, .ref q2, .ref q3, .ref q4, .ref q5, .ref q6], kC G q1 8 (nR (peF (wMade w0 (vM w0 + 1)) w1)), kC G q2 120 (nR (knF (wKn w0 (vM w0) ((vC w0 0 + b) % 8)) w1)), kC G q3 120 (nR (plF w0 w1)), kC G q4 80 (nR (updN ru ((2 * (0 + 0)) + 1) ((vN w0 0) - 1))), kC G q5 8 (nR (updN bf (((vC w0 0) + b) % 8) ((bf (((vC w0 0) + b) % 8)) - 1))), kC G q6 2 (nR (nuF ho un))] := hD
            refine lv_aload_n hx hb dX4_knot_134 rfl (lv_at hl 1 rfl) ?_
            refine va_get (D := G.1) (ci := 4) (v := .ref q4) (C := RX4) (T := TX4) (N := 7) hx hb hts hq_0 hown hK.1 hP 0 rfl rfl 4 (by decide) hq_1 (fun _ h9 => h9) rfl dX4_knot_135 ?_
            refine lv_aload_n hx hb dX4_knot_138 rfl (lv_at hl 1 rfl) ?_
            refine lv_iload_n hx hb dX4_knot_139 rfl (lv_at hl 2 rfl) ?_
            refine lv_iconst (v := nI 0) hx hb dX4_knot_140 (by decide) ?_
            refine k_calli (fun _ => [kO q0 4 [.int (nI th), .ref q1, .ref q2, .ref q3, .ref q4, .ref q5, .ref q6], kC G q1 8 (nR (peF (wMade w0 (vM w0 + 1)) w1)), kC G q2 120 (nR (knF (wKn w0 (vM w0) ((vC w0 0 + b) % 8)) w1)), kC G q3 120 (nR (plF w0 w1)), kC G q4 80 (nR (updN ru ((2 * (0 + 0)) + 1) ((vN w0 0) - 1))), kC G q5 8 (nR (updN bf (((vC w0 0) + b) % 8) ((bf (((vC w0 0) + b) % 8)) - 1))), kC G q6 2 (nR (nuF ho un))]) [kC G q1 8 (nR (peF (wMade w0 (vM w0 + 1)) w1)), kC G q2 120 (nR (knF (wKn w0 (vM w0) ((vC w0 0 + b) % 8)) w1)), kC G q3 120 (nR (plF w0 w1)), kC G q4 80 (nR (updN ru ((2 * (0 + 0)) + 1) ((vN w0 0) - 1))), kC G q5 8 (nR (updN bf (((vC w0 0) + b) % 8) ((bf (((vC w0 0) + b) % 8)) - 1))), kC G q6 2 (nR (nuF ho un))] (k_runV (As := [.int (nI 0), .int (nI 0)]) (rest := [.ref q4]) (wc := [kO q0 4 [.int (nI th), .ref q1, .ref q2, .ref q3, .ref q4, .ref q5, .ref q6]]) ⟨hx, hb, hml, hown, hts⟩ (m_runAt l G q0 q1 q2 q3 q4 q5 q6 th 0 0 ) (cwV 2 hts gX4_knot_X4_runAt rfl rfl rfl (by decide +kernel) ⟨Nat.le_of_ble_eq_true rfl, Nat.le_of_ble_eq_true rfl⟩) hK hZ hP hD hS hA [0] rfl rfl 0 4 rfl rfl rfl rfl hl.1 rfl (Nat.le_of_ble_eq_true rfl) dX4_knot_141 ⟨Nat.le_of_ble_eq_true rfl, Nat.le_of_ble_eq_true rfl⟩) hP hD hS hA [0] [1, 2, 3, 4, 5, 6] [6, 0, 1, 2, 3, 4, 5] rfl rfl rfl (by decide) (fun _ => rfl) rfl (fun r_141 u_141 H locs hp_141 hP hD hS => ?_)
            have hp_141 : r_141 = nI (2 * (0 + 0)) := hp_141
            subst hp_141
            refine lv_iconst (v := nI 1) hx hb dX4_knot_144 (by decide) ?_
            refine lv_iadd hx hb dX4_knot_145 ?_
            refine lv_topi (fun y_24 hy_24 => ?_)
            obtain rfl : y_24 = nI ((2 * (0 + 0)) + 1) := hy_24.trans (nI_add (2 * (0 + 0)) 1)
            have hi_25 : ((2 * (0 + 0)) + 1) < 80 := by omega
            refine va_iald (D := G.1) hx hb hK.1 hP 4 0 rfl rfl (vp_in_nI hi_25 (by omega)) dX4_knot_146 ?_
            refine lv_topi (fun y_26 hy_26 => ?_)
            obtain rfl : y_26 = nI ((updN ru ((2 * (0 + 0)) + 1) ((vN w0 0) - 1)) ((2 * (0 + 0)) + 1)) := hy_26.trans (nR_at (by omega))
            refine lv_topi (fun y_27 hy_27 => ?_)
            obtain rfl : y_27 = nI (vN w0 0 - 1) := hy_27.trans (congrArg nI updN_self)
            refine lv_if_ne (tgt := 155) hx hb dX4_knot_147 (by decide) (fun c_147 => ?_) (fun c_147 => ?_)
            · have c_147 : ¬ ((vN w0 0 - 1) = 0) := fun h9 => c_147 ((k_eq0 (a := (vN w0 0 - 1)) (by omega)).mpr h9)
              refine lv_iconst (v := nI 1) hx hb dX4_knot_155 (by decide) ?_
              have hpe : peF (wMade w0 (vM w0 + 1)) w1 = peF (knW w0 bf) w1 := peF_a rfl rfl (shT_n (by omega)) ((if_pos (by omega)).symm)
              have hkn : knF (wKn w0 (vM w0) ((vC w0 0 + b) % 8)) w1 = knF (knW w0 bf) w1 := knF_a (by show updN _ _ _ = updN _ _ _; rw [hby])
              rw [hpe, hkn, takeB_t (by omega) hby] at hP hD
              have hP : va_P G.1 vwCl [kO q0 4 [.int (nI th), .ref q1, .ref q2, .ref q3, .ref q4, .ref q5, .ref q6], kC G q1 8 (nR (peF (knW w0 bf) w1)), kC G q2 120 (nR (knF (knW w0 bf) w1)), kC G q3 120 (nR (plF (knW w0 bf) w1)), kC G q4 80 (nR (updN ru ((2 * (0 + 0)) + 1) ((vN w0 0) - 1))), kC G q5 8 (nR (takeB bf (vC w0 0))), kC G q6 2 (nR (nuF ho un))] H := hP
              have hD : va_D A [kO q0 4 [.int (nI th), .ref q1, .ref q2, .ref q3, .ref q4, .ref q5, .ref q6], kC G q1 8 (nR (peF (knW w0 bf) w1)), kC G q2 120 (nR (knF (knW w0 bf) w1)), kC G q3 120 (nR (plF (knW w0 bf) w1)), kC G q4 80 (nR (updN ru ((2 * (0 + 0)) + 1) ((vN w0 0) - 1))), kC G q5 8 (nR (takeB bf (vC w0 0))), kC G q6 2 (nR (nuF ho un))] := hD
              exact k_zret (ws := [kO q0 4 [.int (nI th), .ref q1, .ref q2, .ref q3, .ref q4, .ref q5, .ref q6], kC G q1 8 (nR (peF w0 w1)), kC G q2 120 (nR (knF w0 w1)), kC G q3 120 (nR (plF w0 w1)), kC G q4 80 (nR ru), kC G q5 8 (nR bf), kC G q6 2 (nR (nuF ho un))]) ((knW w0 bf, takeB bf (vC w0 0), updN ru ((2 * (0 + 0)) + 1) ((vN w0 0) - 1))) hx hb hr rfl hlocks hP hD hS hAe hQ (Nat.le_of_ble_eq_true rfl) (Nat.le_of_ble_eq_true rfl) dX4_knot_156 (rfl) (Or.inl ⟨rfl, by omega, rfl, rfl, ruOk_a0 hru (by omega)⟩)
            · have c_147 : (vN w0 0 - 1) = 0 := (k_eq0 (a := (vN w0 0 - 1)) (by omega)).mp c_147
              refine lv_aload_n hx hb dX4_knot_150 rfl (lv_at hl 1 rfl) ?_
              refine lv_iload_n hx hb dX4_knot_151 rfl (lv_at hl 2 rfl) ?_
              refine k_callv (fun _ => [kO q0 4 [.int (nI th), .ref q1, .ref q2, .ref q3, .ref q4, .ref q5, .ref q6], kC G q1 8 (nR (peF (wTold (wMade w0 (vM w0 + 1)) (vT (wMade w0 (vM w0 + 1)) - 1)) w1)), kC G q2 120 (nR (knF (wKn w0 (vM w0) ((vC w0 0 + b) % 8)) w1)), kC G q3 120 (nR (plF w0 w1)), kC G q4 80 (nR (cpyN (updN ru ((2 * (0 + 0)) + 1) ((vN w0 0) - 1)) (2 * (0 + 1)) (2 * (0 + 0)) 38)), kC G q5 8 (nR (updN bf (((vC w0 0) + b) % 8) ((bf (((vC w0 0) + b) % 8)) - 1))), kC G q6 2 (nR (nuF ho un))]) [kC G q2 120 (nR (knF (wKn w0 (vM w0) ((vC w0 0 + b) % 8)) w1)), kC G q3 120 (nR (plF w0 w1)), kC G q5 8 (nR (updN bf (((vC w0 0) + b) % 8) ((bf (((vC w0 0) + b) % 8)) - 1))), kC G q6 2 (nR (nuF ho un))] (k_runV (As := [.int (nI 0)]) (rest := []) (wc := [kO q0 4 [.int (nI th), .ref q1, .ref q2, .ref q3, .ref q4, .ref q5, .ref q6], kC G q1 8 (nR (peF (wMade w0 (vM w0 + 1)) w1)), kC G q4 80 (nR (updN ru ((2 * (0 + 0)) + 1) ((vN w0 0) - 1)))]) ⟨hx, hb, hml, hown, hts⟩ (m_dropRun0 l G q0 q1 q2 q3 q4 q5 q6 th (wMade w0 (vM w0 + 1)) w1 (updN ru ((2 * (0 + 0)) + 1) ((vN w0 0) - 1)) (by show 0 < vT w0; omega) (by show vT w0 ≤ 20; omega)) (cwV 1 hts gX4_knot_X4_dropRun rfl rfl rfl (by decide +kernel) ⟨Nat.le_of_ble_eq_true rfl, Nat.le_of_ble_eq_true rfl⟩) hK hZ hP hD hS hA [0, 1, 4] rfl rfl 0 4 rfl rfl rfl rfl hl.1 rfl (Nat.le_of_ble_eq_true rfl) dX4_knot_152 ⟨Nat.le_of_ble_eq_true rfl, Nat.le_of_ble_eq_true rfl⟩) hP hD hS hA [0, 1, 4] [2, 3, 5, 6] [4, 5, 0, 1, 6, 2, 3] rfl rfl rfl (by decide) (fun _ => rfl) rfl (fun u_152 H locs hp_152 hP hD hS => ?_)
              refine lv_iconst (v := nI 1) hx hb dX4_knot_155 (by decide) ?_
              have hpe : peF (wTold (wMade w0 (vM w0 + 1)) (vT (wMade w0 (vM w0 + 1)) - 1)) w1 = peF (knW w0 bf) w1 := peF_a rfl rfl (shT_1 (by omega)) ((if_pos (by omega)).symm)
              have hkn : knF (wKn w0 (vM w0) ((vC w0 0 + b) % 8)) w1 = knF (knW w0 bf) w1 := knF_a (by show updN _ _ _ = updN _ _ _; rw [hby])
              rw [hpe, hkn, takeB_t (by omega) hby] at hP hD
              have hP : va_P G.1 vwCl [kO q0 4 [.int (nI th), .ref q1, .ref q2, .ref q3, .ref q4, .ref q5, .ref q6], kC G q1 8 (nR (peF (knW w0 bf) w1)), kC G q2 120 (nR (knF (knW w0 bf) w1)), kC G q3 120 (nR (plF (knW w0 bf) w1)), kC G q4 80 (nR (cpyN (updN ru ((2 * (0 + 0)) + 1) ((vN w0 0) - 1)) (2 * (0 + 1)) (2 * (0 + 0)) 38)), kC G q5 8 (nR (takeB bf (vC w0 0))), kC G q6 2 (nR (nuF ho un))] H := hP
              have hD : va_D A [kO q0 4 [.int (nI th), .ref q1, .ref q2, .ref q3, .ref q4, .ref q5, .ref q6], kC G q1 8 (nR (peF (knW w0 bf) w1)), kC G q2 120 (nR (knF (knW w0 bf) w1)), kC G q3 120 (nR (plF (knW w0 bf) w1)), kC G q4 80 (nR (cpyN (updN ru ((2 * (0 + 0)) + 1) ((vN w0 0) - 1)) (2 * (0 + 1)) (2 * (0 + 0)) 38)), kC G q5 8 (nR (takeB bf (vC w0 0))), kC G q6 2 (nR (nuF ho un))] := hD
              exact k_zret (ws := [kO q0 4 [.int (nI th), .ref q1, .ref q2, .ref q3, .ref q4, .ref q5, .ref q6], kC G q1 8 (nR (peF w0 w1)), kC G q2 120 (nR (knF w0 w1)), kC G q3 120 (nR (plF w0 w1)), kC G q4 80 (nR ru), kC G q5 8 (nR bf), kC G q6 2 (nR (nuF ho un))]) ((knW w0 bf, takeB bf (vC w0 0), cpyN (updN ru ((2 * (0 + 0)) + 1) ((vN w0 0) - 1)) (2 * (0 + 1)) (2 * (0 + 0)) 38)) hx hb hr rfl hlocks hP hD hS hAe hQ (Nat.le_of_ble_eq_true rfl) (Nat.le_of_ble_eq_true rfl) dX4_knot_156 (rfl) (Or.inl ⟨rfl, by omega, rfl, rfl, ruOk_b0 hru t0b (by omega)⟩)
          · have c_100 : ¬ (b = 0) := fun h9 => c_100 ((k_le0 (a := b) (by omega)).mpr h9)
            refine lv_aload_n hx hb dX4_knot_103 rfl (lv_at hl 1 rfl) ?_
            refine lv_iload_n hx hb dX4_knot_104 rfl (lv_at hl 2 rfl) ?_
            refine lv_iconst (v := nI 3) hx hb dX4_knot_105 (by decide) ?_
            refine lv_aload_n hx hb dX4_knot_106 rfl (lv_at hl 1 rfl) ?_
            refine lv_iload_n hx hb dX4_knot_107 rfl (lv_at hl 2 rfl) ?_
            refine lv_iconst (v := nI 3) hx hb dX4_knot_108 (by decide) ?_
            refine k_calli (fun _ => [kO q0 4 [.int (nI th), .ref q1, .ref q2, .ref q3, .ref q4, .ref q5, .ref q6], kC G q1 8 (nR (peF (wMade w0 (vM w0 + 1)) w1)), kC G q2 120 (nR (knF (wKn w0 (vM w0) ((vC w0 0 + b) % 8)) w1)), kC G q3 120 (nR (plF w0 w1)), kC G q4 80 (nR ru), kC G q5 8 (nR (updN bf (((vC w0 0) + b) % 8) ((bf (((vC w0 0) + b) % 8)) - 1))), kC G q6 2 (nR (nuF ho un))]) [kC G q2 120 (nR (knF (wKn w0 (vM w0) ((vC w0 0 + b) % 8)) w1)), kC G q3 120 (nR (plF w0 w1)), kC G q4 80 (nR ru), kC G q5 8 (nR (updN bf (((vC w0 0) + b) % 8) ((bf (((vC w0 0) + b) % 8)) - 1))), kC G q6 2 (nR (nuF ho un))] (k_runV (As := [.int (nI 0), .int (nI 3)]) (rest := [.int (nI 3), .int (nI 0), .ref q0]) (wc := [kO q0 4 [.int (nI th), .ref q1, .ref q2, .ref q3, .ref q4, .ref q5, .ref q6], kC G q1 8 (nR (peF (wMade w0 (vM w0 + 1)) w1))]) ⟨hx, hb, hml, hown, hts⟩ (m_pe l G q0 q1 q2 q3 q4 q5 q6 th (peF (wMade w0 (vM w0 + 1)) w1) 0 3 (by decide) (by decide)) (cwV 2 hts gX4_knot_X4_pe rfl rfl rfl (by decide +kernel) ⟨Nat.le_of_ble_eq_true rfl, Nat.le_of_ble_eq_true rfl⟩) hK hZ hP hD hS hA [0, 1] rfl rfl 0 4 rfl rfl rfl rfl hl.1 rfl (Nat.le_of_ble_eq_true rfl) dX4_knot_109 ⟨Nat.le_of_ble_eq_true rfl, Nat.le_of_ble_eq_true rfl⟩) hP hD hS hA [0, 1] [2, 3, 4, 5, 6] [5, 6, 0, 1, 2, 3, 4] rfl rfl rfl (by decide) (fun _ => rfl) rfl (fun r_109 u_109 H locs hp_109 hP hD hS => ?_)
            have hp_109 : r_109 = nI (vO (wMade w0 (vM w0 + 1))) := hp_109
            subst hp_109
            refine lv_iconst (v := nI 1) hx hb dX4_knot_112 (by decide) ?_
            refine lv_iadd hx hb dX4_knot_113 ?_
            refine lv_topi (fun y_28 hy_28 => ?_)
            obtain rfl : y_28 = nI ((vO (wMade w0 (vM w0 + 1))) + 1) := hy_28.trans (nI_add (vO (wMade w0 (vM w0 + 1))) 1)
            refine k_callv (fun _ => [kO q0 4 [.int (nI th), .ref q1, .ref q2, .ref q3, .ref q4, .ref q5, .ref q6], kC G q1 8 (nR (updN (peF (wMade w0 (vM w0 + 1)) w1) (4 * 0 + 3) ((vO (wMade w0 (vM w0 + 1))) + 1))), kC G q2 120 (nR (knF (wKn w0 (vM w0) ((vC w0 0 + b) % 8)) w1)), kC G q3 120 (nR (plF w0 w1)), kC G q4 80 (nR ru), kC G q5 8 (nR (updN bf (((vC w0 0) + b) % 8) ((bf (((vC w0 0) + b) % 8)) - 1))), kC G q6 2 (nR (nuF ho un))]) [kC G q2 120 (nR (knF (wKn w0 (vM w0) ((vC w0 0 + b) % 8)) w1)), kC G q3 120 (nR (plF w0 w1)), kC G q4 80 (nR ru), kC G q5 8 (nR (updN bf (((vC w0 0) + b) % 8) ((bf (((vC w0 0) + b) % 8)) - 1))), kC G q6 2 (nR (nuF ho un))] (k_runV (As := [.int (nI 0), .int (nI 3), .int (nI ((vO (wMade w0 (vM w0 + 1))) + 1))]) (rest := []) (wc := [kO q0 4 [.int (nI th), .ref q1, .ref q2, .ref q3, .ref q4, .ref q5, .ref q6], kC G q1 8 (nR (peF (wMade w0 (vM w0 + 1)) w1))]) ⟨hx, hb, hml, hown, hts⟩ (m_put l G q0 q1 q2 q3 q4 q5 q6 th (peF (wMade w0 (vM w0 + 1)) w1) 0 3 ((vO (wMade w0 (vM w0 + 1))) + 1) (by decide) (by decide)) (cwV 3 hts gX4_knot_X4_put rfl rfl rfl (by decide +kernel) ⟨Nat.le_of_ble_eq_true rfl, Nat.le_of_ble_eq_true rfl⟩) hK hZ hP hD hS hA [0, 1] rfl rfl 0 4 rfl rfl rfl rfl hl.1 rfl (Nat.le_of_ble_eq_true rfl) dX4_knot_114 ⟨Nat.le_of_ble_eq_true rfl, Nat.le_of_ble_eq_true rfl⟩) hP hD hS hA [0, 1] [2, 3, 4, 5, 6] [5, 6, 0, 1, 2, 3, 4] rfl rfl rfl (by decide) (fun _ => rfl) rfl (fun u_114 H locs hp_114 hP hD hS => ?_)
            rw [pe_3] at hP hD
            have hP : va_P G.1 vwCl [kO q0 4 [.int (nI th), .ref q1, .ref q2, .ref q3, .ref q4, .ref q5, .ref q6], kC G q1 8 (nR (peF (wOth (wMade w0 (vM w0 + 1)) (vO w0 + 1)) w1)), kC G q2 120 (nR (knF (wKn w0 (vM w0) ((vC w0 0 + b) % 8)) w1)), kC G q3 120 (nR (plF w0 w1)), kC G q4 80 (nR ru), kC G q5 8 (nR (updN bf (((vC w0 0) + b) % 8) ((bf (((vC w0 0) + b) % 8)) - 1))), kC G q6 2 (nR (nuF ho un))] H := hP
            have hD : va_D A [kO q0 4 [.int (nI th), .ref q1, .ref q2, .ref q3, .ref q4, .ref q5, .ref q6], kC G q1 8 (nR (peF (wOth (wMade w0 (vM w0 + 1)) (vO w0 + 1)) w1)), kC G q2 120 (nR (knF (wKn w0 (vM w0) ((vC w0 0 + b) % 8)) w1)), kC G q3 120 (nR (plF w0 w1)), kC G q4 80 (nR ru), kC G q5 8 (nR (updN bf (((vC w0 0) + b) % 8) ((bf (((vC w0 0) + b) % 8)) - 1))), kC G q6 2 (nR (nuF ho un))] := hD
            refine lv_aload_n hx hb dX4_knot_117 rfl (lv_at hl 1 rfl) ?_
            refine va_get (D := G.1) (ci := 4) (v := .ref q4) (C := RX4) (T := TX4) (N := 7) hx hb hts hq_0 hown hK.1 hP 0 rfl rfl 4 (by decide) hq_1 (fun _ h9 => h9) rfl dX4_knot_118 ?_
            refine lv_aload_n hx hb dX4_knot_121 rfl (lv_at hl 1 rfl) ?_
            refine lv_iload_n hx hb dX4_knot_122 rfl (lv_at hl 2 rfl) ?_
            refine lv_iconst (v := nI 0) hx hb dX4_knot_123 (by decide) ?_
            refine k_calli (fun _ => [kO q0 4 [.int (nI th), .ref q1, .ref q2, .ref q3, .ref q4, .ref q5, .ref q6], kC G q1 8 (nR (peF (wOth (wMade w0 (vM w0 + 1)) (vO w0 + 1)) w1)), kC G q2 120 (nR (knF (wKn w0 (vM w0) ((vC w0 0 + b) % 8)) w1)), kC G q3 120 (nR (plF w0 w1)), kC G q4 80 (nR ru), kC G q5 8 (nR (updN bf (((vC w0 0) + b) % 8) ((bf (((vC w0 0) + b) % 8)) - 1))), kC G q6 2 (nR (nuF ho un))]) [kC G q1 8 (nR (peF (wOth (wMade w0 (vM w0 + 1)) (vO w0 + 1)) w1)), kC G q2 120 (nR (knF (wKn w0 (vM w0) ((vC w0 0 + b) % 8)) w1)), kC G q3 120 (nR (plF w0 w1)), kC G q4 80 (nR ru), kC G q5 8 (nR (updN bf (((vC w0 0) + b) % 8) ((bf (((vC w0 0) + b) % 8)) - 1))), kC G q6 2 (nR (nuF ho un))] (k_runV (As := [.int (nI 0), .int (nI 0)]) (rest := [.ref q4]) (wc := [kO q0 4 [.int (nI th), .ref q1, .ref q2, .ref q3, .ref q4, .ref q5, .ref q6]]) ⟨hx, hb, hml, hown, hts⟩ (m_runAt l G q0 q1 q2 q3 q4 q5 q6 th 0 0 ) (cwV 2 hts gX4_knot_X4_runAt rfl rfl rfl (by decide +kernel) ⟨Nat.le_of_ble_eq_true rfl, Nat.le_of_ble_eq_true rfl⟩) hK hZ hP hD hS hA [0] rfl rfl 0 4 rfl rfl rfl rfl hl.1 rfl (Nat.le_of_ble_eq_true rfl) dX4_knot_124 ⟨Nat.le_of_ble_eq_true rfl, Nat.le_of_ble_eq_true rfl⟩) hP hD hS hA [0] [1, 2, 3, 4, 5, 6] [6, 0, 1, 2, 3, 4, 5] rfl rfl rfl (by decide) (fun _ => rfl) rfl (fun r_124 u_124 H locs hp_124 hP hD hS => ?_)
            have hp_124 : r_124 = nI (2 * (0 + 0)) := hp_124
            subst hp_124
            refine lv_iconst (v := nI 1) hx hb dX4_knot_127 (by decide) ?_
            refine lv_iadd hx hb dX4_knot_128 ?_
            refine lv_topi (fun y_29 hy_29 => ?_)
            obtain rfl : y_29 = nI ((2 * (0 + 0)) + 1) := hy_29.trans (nI_add (2 * (0 + 0)) 1)
            refine lv_dup2_11 hx hb dX4_knot_129 rfl rfl ?_
            have hi_30 : ((2 * (0 + 0)) + 1) < 80 := by omega
            refine va_iald (D := G.1) hx hb hK.1 hP 4 0 rfl rfl (vp_in_nI hi_30 (by omega)) dX4_knot_130 ?_
            refine lv_topi (fun y_31 hy_31 => ?_)
            obtain rfl : y_31 = nI (ru ((2 * (0 + 0)) + 1)) := hy_31.trans (nR_at (by omega))
            refine lv_topi (fun y_32 hy_32 => ?_)
            obtain rfl : y_32 = nI (vN w0 0) := hy_32.trans (congrArg nI hr0.2)
            refine lv_iconst (v := nI 1) hx hb dX4_knot_131 (by decide) ?_
            refine lv_isub hx hb dX4_knot_132 ?_
            refine lv_topi (fun y_33 hy_33 => ?_)
            obtain rfl : y_33 = nI ((vN w0 0) - 1) := hy_33.trans (pk_sub (a := (vN w0 0)) (b := 1) (by omega))
            have hi_34 : ((2 * (0 + 0)) + 1) < 80 := by omega
            refine va_iast (D := G.1) hx hb hK.1 hP hD hS 4 0 rfl rfl (vp_in_nI hi_34 (by omega)) dX4_knot_133 (fun H locs hP hD hS => ?_)
            rw [nR_upd (f := ru) (k := ((2 * (0 + 0)) + 1)) (v := ((vN w0 0) - 1)) (by omega)] at hP hD
            have hP : va_P G.1 vwCl [kO q0 4 [.int (nI th), .ref q1, .ref q2, .ref q3, .ref q4, .ref q5, .ref q6], kC G q1 8 (nR (peF (wOth (wMade w0 (vM w0 + 1)) (vO w0 + 1)) w1)), kC G q2 120 (nR (knF (wKn w0 (vM w0) ((vC w0 0 + b) % 8)) w1)), kC G q3 120 (nR (plF w0 w1)), kC G q4 80 (nR (updN ru ((2 * (0 + 0)) + 1) ((vN w0 0) - 1))), kC G q5 8 (nR (updN bf (((vC w0 0) + b) % 8) ((bf (((vC w0 0) + b) % 8)) - 1))), kC G q6 2 (nR (nuF ho un))] H := hP
            have hD : va_D A [kO q0 4 [.int (nI th), .ref q1, .ref q2, .ref q3, .ref q4, .ref q5, .ref q6], kC G q1 8 (nR (peF (wOth (wMade w0 (vM w0 + 1)) (vO w0 + 1)) w1)), kC G q2 120 (nR (knF (wKn w0 (vM w0) ((vC w0 0 + b) % 8)) w1)), kC G q3 120 (nR (plF w0 w1)), kC G q4 80 (nR (updN ru ((2 * (0 + 0)) + 1) ((vN w0 0) - 1))), kC G q5 8 (nR (updN bf (((vC w0 0) + b) % 8) ((bf (((vC w0 0) + b) % 8)) - 1))), kC G q6 2 (nR (nuF ho un))] := hD
            refine lv_aload_n hx hb dX4_knot_134 rfl (lv_at hl 1 rfl) ?_
            refine va_get (D := G.1) (ci := 4) (v := .ref q4) (C := RX4) (T := TX4) (N := 7) hx hb hts hq_0 hown hK.1 hP 0 rfl rfl 4 (by decide) hq_1 (fun _ h9 => h9) rfl dX4_knot_135 ?_
            refine lv_aload_n hx hb dX4_knot_138 rfl (lv_at hl 1 rfl) ?_
            refine lv_iload_n hx hb dX4_knot_139 rfl (lv_at hl 2 rfl) ?_
            refine lv_iconst (v := nI 0) hx hb dX4_knot_140 (by decide) ?_
            refine k_calli (fun _ => [kO q0 4 [.int (nI th), .ref q1, .ref q2, .ref q3, .ref q4, .ref q5, .ref q6], kC G q1 8 (nR (peF (wOth (wMade w0 (vM w0 + 1)) (vO w0 + 1)) w1)), kC G q2 120 (nR (knF (wKn w0 (vM w0) ((vC w0 0 + b) % 8)) w1)), kC G q3 120 (nR (plF w0 w1)), kC G q4 80 (nR (updN ru ((2 * (0 + 0)) + 1) ((vN w0 0) - 1))), kC G q5 8 (nR (updN bf (((vC w0 0) + b) % 8) ((bf (((vC w0 0) + b) % 8)) - 1))), kC G q6 2 (nR (nuF ho un))]) [kC G q1 8 (nR (peF (wOth (wMade w0 (vM w0 + 1)) (vO w0 + 1)) w1)), kC G q2 120 (nR (knF (wKn w0 (vM w0) ((vC w0 0 + b) % 8)) w1)), kC G q3 120 (nR (plF w0 w1)), kC G q4 80 (nR (updN ru ((2 * (0 + 0)) + 1) ((vN w0 0) - 1))), kC G q5 8 (nR (updN bf (((vC w0 0) + b) % 8) ((bf (((vC w0 0) + b) % 8)) - 1))), kC G q6 2 (nR (nuF ho un))] (k_runV (As := [.int (nI 0), .int (nI 0)]) (rest := [.ref q4]) (wc := [kO q0 4 [.int (nI th), .ref q1, .ref q2, .ref q3, .ref q4, .ref q5, .ref q6]]) ⟨hx, hb, hml, hown, hts⟩ (m_runAt l G q0 q1 q2 q3 q4 q5 q6 th 0 0 ) (cwV 2 hts gX4_knot_X4_runAt rfl rfl rfl (by decide +kernel) ⟨Nat.le_of_ble_eq_true rfl, Nat.le_of_ble_eq_true rfl⟩) hK hZ hP hD hS hA [0] rfl rfl 0 4 rfl rfl rfl rfl hl.1 rfl (Nat.le_of_ble_eq_true rfl) dX4_knot_141 ⟨Nat.le_of_ble_eq_true rfl, Nat.le_of_ble_eq_true rfl⟩) hP hD hS hA [0] [1, 2, 3, 4, 5, 6] [6, 0, 1, 2, 3, 4, 5] rfl rfl rfl (by decide) (fun _ => rfl) rfl (fun r_141 u_141 H locs hp_141 hP hD hS => ?_)
            have hp_141 : r_141 = nI (2 * (0 + 0)) := hp_141
            subst hp_141
            refine lv_iconst (v := nI 1) hx hb dX4_knot_144 (by decide) ?_
            refine lv_iadd hx hb dX4_knot_145 ?_
            refine lv_topi (fun y_35 hy_35 => ?_)
            obtain rfl : y_35 = nI ((2 * (0 + 0)) + 1) := hy_35.trans (nI_add (2 * (0 + 0)) 1)
            have hi_36 : ((2 * (0 + 0)) + 1) < 80 := by omega
            refine va_iald (D := G.1) hx hb hK.1 hP 4 0 rfl rfl (vp_in_nI hi_36 (by omega)) dX4_knot_146 ?_
            refine lv_topi (fun y_37 hy_37 => ?_)
            obtain rfl : y_37 = nI ((updN ru ((2 * (0 + 0)) + 1) ((vN w0 0) - 1)) ((2 * (0 + 0)) + 1)) := hy_37.trans (nR_at (by omega))
            refine lv_topi (fun y_38 hy_38 => ?_)
            obtain rfl : y_38 = nI (vN w0 0 - 1) := hy_38.trans (congrArg nI updN_self)
            refine lv_if_ne (tgt := 155) hx hb dX4_knot_147 (by decide) (fun c_147 => ?_) (fun c_147 => ?_)
            · have c_147 : ¬ ((vN w0 0 - 1) = 0) := fun h9 => c_147 ((k_eq0 (a := (vN w0 0 - 1)) (by omega)).mpr h9)
              refine lv_iconst (v := nI 1) hx hb dX4_knot_155 (by decide) ?_
              have hpe : peF (wOth (wMade w0 (vM w0 + 1)) (vO w0 + 1)) w1 = peF (knW w0 bf) w1 := peF_a rfl rfl (shT_n (by omega)) ((if_neg (by omega)).symm)
              have hkn : knF (wKn w0 (vM w0) ((vC w0 0 + b) % 8)) w1 = knF (knW w0 bf) w1 := knF_a (by show updN _ _ _ = updN _ _ _; rw [hby])
              rw [hpe, hkn, takeB_t (by omega) hby] at hP hD
              have hP : va_P G.1 vwCl [kO q0 4 [.int (nI th), .ref q1, .ref q2, .ref q3, .ref q4, .ref q5, .ref q6], kC G q1 8 (nR (peF (knW w0 bf) w1)), kC G q2 120 (nR (knF (knW w0 bf) w1)), kC G q3 120 (nR (plF (knW w0 bf) w1)), kC G q4 80 (nR (updN ru ((2 * (0 + 0)) + 1) ((vN w0 0) - 1))), kC G q5 8 (nR (takeB bf (vC w0 0))), kC G q6 2 (nR (nuF ho un))] H := hP
              have hD : va_D A [kO q0 4 [.int (nI th), .ref q1, .ref q2, .ref q3, .ref q4, .ref q5, .ref q6], kC G q1 8 (nR (peF (knW w0 bf) w1)), kC G q2 120 (nR (knF (knW w0 bf) w1)), kC G q3 120 (nR (plF (knW w0 bf) w1)), kC G q4 80 (nR (updN ru ((2 * (0 + 0)) + 1) ((vN w0 0) - 1))), kC G q5 8 (nR (takeB bf (vC w0 0))), kC G q6 2 (nR (nuF ho un))] := hD
              exact k_zret (ws := [kO q0 4 [.int (nI th), .ref q1, .ref q2, .ref q3, .ref q4, .ref q5, .ref q6], kC G q1 8 (nR (peF w0 w1)), kC G q2 120 (nR (knF w0 w1)), kC G q3 120 (nR (plF w0 w1)), kC G q4 80 (nR ru), kC G q5 8 (nR bf), kC G q6 2 (nR (nuF ho un))]) ((knW w0 bf, takeB bf (vC w0 0), updN ru ((2 * (0 + 0)) + 1) ((vN w0 0) - 1))) hx hb hr rfl hlocks hP hD hS hAe hQ (Nat.le_of_ble_eq_true rfl) (Nat.le_of_ble_eq_true rfl) dX4_knot_156 (rfl) (Or.inl ⟨rfl, by omega, rfl, rfl, ruOk_a0 hru (by omega)⟩)
            · have c_147 : (vN w0 0 - 1) = 0 := (k_eq0 (a := (vN w0 0 - 1)) (by omega)).mp c_147
              refine lv_aload_n hx hb dX4_knot_150 rfl (lv_at hl 1 rfl) ?_
              refine lv_iload_n hx hb dX4_knot_151 rfl (lv_at hl 2 rfl) ?_
              refine k_callv (fun _ => [kO q0 4 [.int (nI th), .ref q1, .ref q2, .ref q3, .ref q4, .ref q5, .ref q6], kC G q1 8 (nR (peF (wTold (wOth (wMade w0 (vM w0 + 1)) (vO w0 + 1)) (vT (wOth (wMade w0 (vM w0 + 1)) (vO w0 + 1)) - 1)) w1)), kC G q2 120 (nR (knF (wKn w0 (vM w0) ((vC w0 0 + b) % 8)) w1)), kC G q3 120 (nR (plF w0 w1)), kC G q4 80 (nR (cpyN (updN ru ((2 * (0 + 0)) + 1) ((vN w0 0) - 1)) (2 * (0 + 1)) (2 * (0 + 0)) 38)), kC G q5 8 (nR (updN bf (((vC w0 0) + b) % 8) ((bf (((vC w0 0) + b) % 8)) - 1))), kC G q6 2 (nR (nuF ho un))]) [kC G q2 120 (nR (knF (wKn w0 (vM w0) ((vC w0 0 + b) % 8)) w1)), kC G q3 120 (nR (plF w0 w1)), kC G q5 8 (nR (updN bf (((vC w0 0) + b) % 8) ((bf (((vC w0 0) + b) % 8)) - 1))), kC G q6 2 (nR (nuF ho un))] (k_runV (As := [.int (nI 0)]) (rest := []) (wc := [kO q0 4 [.int (nI th), .ref q1, .ref q2, .ref q3, .ref q4, .ref q5, .ref q6], kC G q1 8 (nR (peF (wOth (wMade w0 (vM w0 + 1)) (vO w0 + 1)) w1)), kC G q4 80 (nR (updN ru ((2 * (0 + 0)) + 1) ((vN w0 0) - 1)))]) ⟨hx, hb, hml, hown, hts⟩ (m_dropRun0 l G q0 q1 q2 q3 q4 q5 q6 th (wOth (wMade w0 (vM w0 + 1)) (vO w0 + 1)) w1 (updN ru ((2 * (0 + 0)) + 1) ((vN w0 0) - 1)) (by show 0 < vT w0; omega) (by show vT w0 ≤ 20; omega)) (cwV 1 hts gX4_knot_X4_dropRun rfl rfl rfl (by decide +kernel) ⟨Nat.le_of_ble_eq_true rfl, Nat.le_of_ble_eq_true rfl⟩) hK hZ hP hD hS hA [0, 1, 4] rfl rfl 0 4 rfl rfl rfl rfl hl.1 rfl (Nat.le_of_ble_eq_true rfl) dX4_knot_152 ⟨Nat.le_of_ble_eq_true rfl, Nat.le_of_ble_eq_true rfl⟩) hP hD hS hA [0, 1, 4] [2, 3, 5, 6] [4, 5, 0, 1, 6, 2, 3] rfl rfl rfl (by decide) (fun _ => rfl) rfl (fun u_152 H locs hp_152 hP hD hS => ?_)
              refine lv_iconst (v := nI 1) hx hb dX4_knot_155 (by decide) ?_
              have hpe : peF (wTold (wOth (wMade w0 (vM w0 + 1)) (vO w0 + 1)) (vT (wOth (wMade w0 (vM w0 + 1)) (vO w0 + 1)) - 1)) w1 = peF (knW w0 bf) w1 := peF_a rfl rfl (shT_1 (by omega)) ((if_neg (by omega)).symm)
              have hkn : knF (wKn w0 (vM w0) ((vC w0 0 + b) % 8)) w1 = knF (knW w0 bf) w1 := knF_a (by show updN _ _ _ = updN _ _ _; rw [hby])
              rw [hpe, hkn, takeB_t (by omega) hby] at hP hD
              have hP : va_P G.1 vwCl [kO q0 4 [.int (nI th), .ref q1, .ref q2, .ref q3, .ref q4, .ref q5, .ref q6], kC G q1 8 (nR (peF (knW w0 bf) w1)), kC G q2 120 (nR (knF (knW w0 bf) w1)), kC G q3 120 (nR (plF (knW w0 bf) w1)), kC G q4 80 (nR (cpyN (updN ru ((2 * (0 + 0)) + 1) ((vN w0 0) - 1)) (2 * (0 + 1)) (2 * (0 + 0)) 38)), kC G q5 8 (nR (takeB bf (vC w0 0))), kC G q6 2 (nR (nuF ho un))] H := hP
              have hD : va_D A [kO q0 4 [.int (nI th), .ref q1, .ref q2, .ref q3, .ref q4, .ref q5, .ref q6], kC G q1 8 (nR (peF (knW w0 bf) w1)), kC G q2 120 (nR (knF (knW w0 bf) w1)), kC G q3 120 (nR (plF (knW w0 bf) w1)), kC G q4 80 (nR (cpyN (updN ru ((2 * (0 + 0)) + 1) ((vN w0 0) - 1)) (2 * (0 + 1)) (2 * (0 + 0)) 38)), kC G q5 8 (nR (takeB bf (vC w0 0))), kC G q6 2 (nR (nuF ho un))] := hD
              exact k_zret (ws := [kO q0 4 [.int (nI th), .ref q1, .ref q2, .ref q3, .ref q4, .ref q5, .ref q6], kC G q1 8 (nR (peF w0 w1)), kC G q2 120 (nR (knF w0 w1)), kC G q3 120 (nR (plF w0 w1)), kC G q4 80 (nR ru), kC G q5 8 (nR bf), kC G q6 2 (nR (nuF ho un))]) ((knW w0 bf, takeB bf (vC w0 0), cpyN (updN ru ((2 * (0 + 0)) + 1) ((vN w0 0) - 1)) (2 * (0 + 1)) (2 * (0 + 0)) 38)) hx hb hr rfl hlocks hP hD hS hAe hQ (Nat.le_of_ble_eq_true rfl) (Nat.le_of_ble_eq_true rfl) dX4_knot_156 (rfl) (Or.inl ⟨rfl, by omega, rfl, rfl, ruOk_b0 hru t0b (by omega)⟩)
        · have c_31 : (bf (((vC w0 0) + b) % 8)) = 0 := (k_eq0 (a := (bf (((vC w0 0) + b) % 8))) (by omega)).mp c_31
          refine lv_iinc (v := nI (b + 1)) (lv' := [(3, .int (nI (b + 1))), (0, .ref q0), (1, .int (nI 0)), (2, .int (nI (vC w0 0)))]) hx hb dX4_knot_34 hl (k := 3) rfl (nI_add b 1) (by decide) rfl (fun ls hl => ?_)
          refine lv_goto (tgt := 14) hx hb dX4_knot_37 (by decide) ?_
          exact ih_14 (b + 1) (by omega) (tk_miss (by omega) hv c_31) (by omega) _ _ _ hP hD hS (lv_sub hl [1, 2, 3, 0] rfl)
  exact loop_14 9 0 (by omega) rfl (by omega) H locs ls hP hD hS (lv_sub hl [2, 3, 1, 0] rfl)
set_option maxHeartbeats 4000000 in
set_option maxRecDepth 100000 in
theorem m_knot1 (l : Launch) (G : kG) (q0 : Nat) (q1 : Nat) (q2 : Nat) (q3 : Nat) (q4 : Nat) (q5 : Nat) (q6 : Nat) (w0 : Wv) (w1 : Wv) (bf : Nat → Nat) (ho : Nat) (un : Nat) (ru : Nat → Nat) (th : Nat) (h0 : wOk w0) (h1 : wOk w1) (hB : bOk bf) (hru : ruOk w0 w1 ru) (ht1 : 0 < vT w1) (hm60 : vM w1 < 60) : kM l G yX4_knot wsX4_knot ({ frames := 2, cells := 0, slots := 0, locals := 44 } : Room) [.ref q0, .int (nI 1)] [kO q0 4 [.int (nI th), .ref q1, .ref q2, .ref q3, .ref q4, .ref q5, .ref q6], kC G q1 8 (nR (peF w0 w1)), kC G q2 120 (nR (knF w0 w1)), kC G q3 120 (nR (plF w0 w1)), kC G q4 80 (nR ru), kC G q5 8 (nR bf), kC G q6 2 (nR (nuF ho un))] (kQi G [kO q0 4 [.int (nI th), .ref q1, .ref q2, .ref q3, .ref q4, .ref q5, .ref q6], kC G q1 8 (nR (peF w0 w1)), kC G q2 120 (nR (knF w0 w1)), kC G q3 120 (nR (plF w0 w1)), kC G q4 80 (nR ru), kC G q5 8 (nR bf), kC G q6 2 (nR (nuF ho un))] (fun (r : Int32) (u : Wv × (Nat → Nat) × (Nat → Nat)) => (r = nI 1 ∧ takeBy bf (vC w1 0) < 8 ∧ u.1 = knW w1 bf ∧ u.2.1 = takeB bf (vC w1 0) ∧ ruOk w0 u.1 u.2.2) ∨ (r = nI 0 ∧ ¬ takeBy bf (vC w1 0) < 8 ∧ u = (w1, bf, ru))) (fun (u : Wv × (Nat → Nat) × (Nat → Nat)) => [kO q0 4 [.int (nI th), .ref q1, .ref q2, .ref q3, .ref q4, .ref q5, .ref q6], kC G q1 8 (nR (peF w0 u.1)), kC G q2 120 (nR (knF w0 u.1)), kC G q3 120 (nR (plF w0 u.1)), kC G q4 80 (nR u.2.2), kC G q5 8 (nR u.2.1), kC G q6 2 (nR (nuF ho un))])) := by
  refine k_ofW (cc := cX4_knot) (maxL := 5) (rt := (some .boolean)) (by decide) rfl (Nat.le_of_ble_eq_true rfl) ?_
  intro p e s m args below meth c A ls Qs H locs hQ hAe hx hb hr hml hts hown hlocks hin hK hZ hP hD hS hA hl
  have hown : s.vm.findClass RX4 = some m.cls := hown
  have hl : lv_has ls 5 [(0, .ref q0), (1, .int (nI 1))] := hl
  have m0b : vM w0 ≤ 60 := h0.2.2.2.1
  have m1b : vM w1 ≤ 60 := h1.2.2.2.1
  have t0b : vT w0 ≤ 20 := h0.2.2.1
  have t1b : vT w1 ≤ 20 := h1.2.2.1
  have pb0 : ∀ i, i < 60 → vP w0 i < 8 := h0.2.2.2.2.1
  have pb1 : ∀ i, i < 60 → vP w1 i < 8 := h1.2.2.2.2.1
  have kb0 : ∀ i, i < 60 → vK w0 i < 8 := h0.2.2.2.2.2.1
  have kb1 : ∀ i, i < 60 → vK w1 i < 8 := h1.2.2.2.2.2.1
  have rk0 := hru.1
  have rk1 := hru.2
  have hc0 : vC w1 0 < 8 := h1.2.2.2.2.2.2.1 0 ht1
  have hn0 := h1.2.2.2.2.2.2.2 0 ht1
  have hr0 := rk1 0 ht1
  have hq_0 : ∀ w ∈ wsX40, w ∈ wsX4_knot := by decide +kernel
  have hq_1 : (Cond.fieldLink RX4 19 "KnotRugsModel" "runs" "[I").before args s = true := hts _ (by decide +kernel)
  have hq_2 : (Cond.fieldLink RX4 22 "KnotRugsModel" "baskets" "[I").before args s = true := hts _ (by decide +kernel)
  have hq_3 : (Cond.fieldLink RX4 13 "KnotRugsModel" "knots" "[I").before args s = true := hts _ (by decide +kernel)
  refine lv_aload_n hx hb dX4_knot_0 rfl (lv_at hl 0 rfl) ?_
  refine va_get (D := G.1) (ci := 4) (v := .ref q4) (C := RX4) (T := TX4) (N := 7) hx hb hts hq_0 hown hK.1 hP 0 rfl rfl 4 (by decide) hq_1 (fun _ h9 => h9) rfl dX4_knot_1 ?_
  refine lv_aload_n hx hb dX4_knot_4 rfl (lv_at hl 0 rfl) ?_
  refine lv_iload_n hx hb dX4_knot_5 rfl (lv_at hl 1 rfl) ?_
  refine lv_iconst (v := nI 0) hx hb dX4_knot_6 (by decide) ?_
  refine k_calli (fun _ => [kO q0 4 [.int (nI th), .ref q1, .ref q2, .ref q3, .ref q4, .ref q5, .ref q6], kC G q1 8 (nR (peF w0 w1)), kC G q2 120 (nR (knF w0 w1)), kC G q3 120 (nR (plF w0 w1)), kC G q4 80 (nR ru), kC G q5 8 (nR bf), kC G q6 2 (nR (nuF ho un))]) [kC G q1 8 (nR (peF w0 w1)), kC G q2 120 (nR (knF w0 w1)), kC G q3 120 (nR (plF w0 w1)), kC G q4 80 (nR ru), kC G q5 8 (nR bf), kC G q6 2 (nR (nuF ho un))] (k_runV (As := [.int (nI 1), .int (nI 0)]) (rest := [.ref q4]) (wc := [kO q0 4 [.int (nI th), .ref q1, .ref q2, .ref q3, .ref q4, .ref q5, .ref q6]]) ⟨hx, hb, hml, hown, hts⟩ (m_runAt l G q0 q1 q2 q3 q4 q5 q6 th 1 0 ) (cwV 2 hts gX4_knot_X4_runAt rfl rfl rfl (by decide +kernel) ⟨Nat.le_of_ble_eq_true rfl, Nat.le_of_ble_eq_true rfl⟩) hK hZ hP hD hS hA [0] rfl rfl 0 4 rfl rfl rfl rfl hl.1 rfl (Nat.le_of_ble_eq_true rfl) dX4_knot_7 ⟨Nat.le_of_ble_eq_true rfl, Nat.le_of_ble_eq_true rfl⟩) hP hD hS hA [0] [1, 2, 3, 4, 5, 6] [6, 0, 1, 2, 3, 4, 5] rfl rfl rfl (by decide) (fun _ => rfl) rfl (fun r_7 u_7 H locs hp_7 hP hD hS => ?_)
  have hp_7 : r_7 = nI (2 * (20 + 0)) := hp_7
  subst hp_7
  have hi_1 : (2 * (20 + 0)) < 80 := by omega
  refine va_iald (D := G.1) hx hb hK.1 hP 4 0 rfl rfl (vp_in_nI hi_1 (by omega)) dX4_knot_10 ?_
  refine lv_topi (fun y_2 hy_2 => ?_)
  obtain rfl : y_2 = nI (ru (2 * (20 + 0))) := hy_2.trans (nR_at (by omega))
  refine lv_topi (fun y_3 hy_3 => ?_)
  obtain rfl : y_3 = nI (vC w1 0) := hy_3.trans (congrArg nI hr0.1)
  refine lv_istore_n (lv' := [(2, .int (nI (vC w1 0))), (0, .ref q0), (1, .int (nI 1))]) hx hb dX4_knot_11 rfl hl (by decide) rfl (fun ls hl => ?_)
  refine lv_iconst (v := nI 0) hx hb dX4_knot_12 (by decide) ?_
  refine lv_istore_n (lv' := [(3, .int (nI 0)), (2, .int (nI (vC w1 0))), (0, .ref q0), (1, .int (nI 1))]) hx hb dX4_knot_13 rfl hl (by decide) rfl (fun ls hl => ?_)
  have loop_14 : ∀ (fu_14 : Nat) (b : Nat), b ≤ 8 → tkB bf (vC w1 0) (8 - b) b = takeBy bf (vC w1 0) → 8 < b + fu_14 → ∀ (H : Heap) (locs : List Loc) (ls : Array Slot), va_P G.1 vwCl [kO q0 4 [.int (nI th), .ref q1, .ref q2, .ref q3, .ref q4, .ref q5, .ref q6], kC G q1 8 (nR (peF w0 w1)), kC G q2 120 (nR (knF w0 w1)), kC G q3 120 (nR (plF w0 w1)), kC G q4 80 (nR ru), kC G q5 8 (nR bf), kC G q6 2 (nR (nuF ho un))] H → va_D A [kO q0 4 [.int (nI th), .ref q1, .ref q2, .ref q3, .ref q4, .ref q5, .ref q6], kC G q1 8 (nR (peF w0 w1)), kC G q2 120 (nR (knF w0 w1)), kC G q3 120 (nR (plF w0 w1)), kC G q4 80 (nR ru), kC G q5 8 (nR bf), kC G q6 2 (nR (nuF ho un))] → va_S A s.heap H locs → lv_has ls 5 [(0, .ref q0), (1, .int (nI 1)), (2, .int (nI (vC w1 0))), (3, .int (nI b))] → W p l e ({ frames := 2, cells := 0, slots := 0, locals := 44 } : Room) s m args below meth c H locs 0 0 Qs (F0 m 14 ls []) := by
    intro fu_14
    induction fu_14 with
    | zero =>
      intro b hb8 hv hf
      exact absurd hf (by omega)
    | succ fu_14 ih_14 =>
      intro b hb8 hv hf H locs ls hP hD hS hl
      refine lv_iload_n hx hb dX4_knot_14 rfl (lv_at hl 3 rfl) ?_
      refine lv_bipush (v := nI 8) hx hb dX4_knot_15 (by decide) ?_
      refine lv_icmp_ge (tgt := 40) hx hb dX4_knot_17 (by decide) (fun c_17 => ?_) (fun c_17 => ?_)
      · have c_17 : 8 ≤ b := (nI_leI (a := 8) (b := b) (by omega) (by omega)).mp c_17
        refine lv_iload_n hx hb dX4_knot_40 rfl (lv_at hl 3 rfl) ?_
        refine lv_bipush (v := nI 8) hx hb dX4_knot_41 (by decide) ?_
        refine lv_icmp_ne (tgt := 48) hx hb dX4_knot_43 (by decide) (fun c_43 => absurd ((nI_eq (a := b) (b := 8) (by omega) (by omega)).mpr (by omega)) c_43) (fun c_43 => ?_)
        have c_43 : b = 8 := (nI_eq (a := b) (b := 8) (by omega) (by omega)).mp c_43
        refine lv_iconst (v := nI 0) hx hb dX4_knot_46 (by decide) ?_
        exact k_zret (ws := [kO q0 4 [.int (nI th), .ref q1, .ref q2, .ref q3, .ref q4, .ref q5, .ref q6], kC G q1 8 (nR (peF w0 w1)), kC G q2 120 (nR (knF w0 w1)), kC G q3 120 (nR (plF w0 w1)), kC G q4 80 (nR ru), kC G q5 8 (nR bf), kC G q6 2 (nR (nuF ho un))]) ((w1, bf, ru)) hx hb hr rfl hlocks hP hD hS hAe hQ (Nat.le_of_ble_eq_true rfl) (Nat.le_of_ble_eq_true rfl) dX4_knot_47 (rfl) (Or.inr ⟨rfl, by have := tk_end (by omega) hv; omega, rfl⟩)
      · have c_17 : ¬ (8 ≤ b) := fun h9 => c_17 ((nI_leI (a := 8) (b := b) (by omega) (by omega)).mpr h9)
        refine lv_aload_n hx hb dX4_knot_20 rfl (lv_at hl 0 rfl) ?_
        refine va_get (D := G.1) (ci := 4) (v := .ref q5) (C := RX4) (T := TX4) (N := 7) hx hb hts hq_0 hown hK.1 hP 0 rfl rfl 5 (by decide) hq_2 (fun _ h9 => h9) rfl dX4_knot_21 ?_
        refine lv_iload_n hx hb dX4_knot_24 rfl (lv_at hl 2 rfl) ?_
        refine lv_iload_n hx hb dX4_knot_25 rfl (lv_at hl 3 rfl) ?_
        refine lv_iadd hx hb dX4_knot_26 ?_
        refine lv_topi (fun y_4 hy_4 => ?_)
        obtain rfl : y_4 = nI ((vC w1 0) + b) := hy_4.trans (nI_add (vC w1 0) b)
        refine lv_bipush (v := nI 8) hx hb dX4_knot_27 (by decide) ?_
        refine lv_irem hx hb dX4_knot_29 (by first | decide | (intro h; exact absurd ((nI_eq (by omega) (by omega)).mp h) (by omega))) ?_
        refine lv_topi (fun y_5 hy_5 => ?_)
        obtain rfl : y_5 = nI (((vC w1 0) + b) % 8) := hy_5.trans (pk_rem (a := ((vC w1 0) + b)) (d := 8) (by omega) (by omega) (by omega))
        have hcb : (vC w1 0 + b) % 8 < 8 := by omega
        have hbc : bf ((vC w1 0 + b) % 8) ≤ 200 := hB _ hcb
        have hi_6 : (((vC w1 0) + b) % 8) < 8 := by omega
        refine va_iald (D := G.1) hx hb hK.1 hP 5 0 rfl rfl (vp_in_nI hi_6 (by omega)) dX4_knot_30 ?_
        refine lv_topi (fun y_7 hy_7 => ?_)
        obtain rfl : y_7 = nI (bf (((vC w1 0) + b) % 8)) := hy_7.trans (nR_at (by omega))
        refine lv_if_ne (tgt := 40) hx hb dX4_knot_31 (by decide) (fun c_31 => ?_) (fun c_31 => ?_)
        · have c_31 : ¬ ((bf (((vC w1 0) + b) % 8)) = 0) := fun h9 => c_31 ((k_eq0 (a := (bf (((vC w1 0) + b) % 8))) (by omega)).mpr h9)
          have hby : takeBy bf (vC w1 0) = b := tk_hit (by omega) hv c_31
          refine lv_iload_n hx hb dX4_knot_40 rfl (lv_at hl 3 rfl) ?_
          refine lv_bipush (v := nI 8) hx hb dX4_knot_41 (by decide) ?_
          refine lv_icmp_ne (tgt := 48) hx hb dX4_knot_43 (by decide) (fun c_43 => ?_) (fun c_43 => absurd ((nI_eq (a := b) (b := 8) (by omega) (by omega)).mp c_43) (by omega))
          have c_43 : ¬ (b = 8) := fun h9 => c_43 ((nI_eq (a := b) (b := 8) (by omega) (by omega)).mpr h9)
          refine lv_iload_n hx hb dX4_knot_48 rfl (lv_at hl 2 rfl) ?_
          refine lv_iload_n hx hb dX4_knot_49 rfl (lv_at hl 3 rfl) ?_
          refine lv_iadd hx hb dX4_knot_50 ?_
          refine lv_topi (fun y_8 hy_8 => ?_)
          obtain rfl : y_8 = nI ((vC w1 0) + b) := hy_8.trans (nI_add (vC w1 0) b)
          refine lv_bipush (v := nI 8) hx hb dX4_knot_51 (by decide) ?_
          refine lv_irem hx hb dX4_knot_53 (by first | decide | (intro h; exact absurd ((nI_eq (by omega) (by omega)).mp h) (by omega))) ?_
          refine lv_topi (fun y_9 hy_9 => ?_)
          obtain rfl : y_9 = nI (((vC w1 0) + b) % 8) := hy_9.trans (pk_rem (a := ((vC w1 0) + b)) (d := 8) (by omega) (by omega) (by omega))
          refine lv_istore (lv' := [(4, .int (nI (((vC w1 0) + b) % 8))), (0, .ref q0), (1, .int (nI 1)), (2, .int (nI (vC w1 0))), (3, .int (nI b))]) hx hb dX4_knot_54 hl (by decide) rfl (fun ls hl => ?_)
          refine lv_aload_n hx hb dX4_knot_56 rfl (lv_at hl 1 rfl) ?_
          refine va_get (D := G.1) (ci := 4) (v := .ref q5) (C := RX4) (T := TX4) (N := 7) hx hb hts hq_0 hown hK.1 hP 0 rfl rfl 5 (by decide) hq_2 (fun _ h9 => h9) rfl dX4_knot_57 ?_
          refine lv_iload hx hb dX4_knot_60 (lv_at hl 0 rfl) ?_
          refine lv_dup2_11 hx hb dX4_knot_62 rfl rfl ?_
          have hbc : bf ((vC w1 0 + b) % 8) ≤ 200 := hB _ (by omega)
          have hi_10 : (((vC w1 0) + b) % 8) < 8 := by omega
          refine va_iald (D := G.1) hx hb hK.1 hP 5 0 rfl rfl (vp_in_nI hi_10 (by omega)) dX4_knot_63 ?_
          refine lv_topi (fun y_11 hy_11 => ?_)
          obtain rfl : y_11 = nI (bf (((vC w1 0) + b) % 8)) := hy_11.trans (nR_at (by omega))
          refine lv_iconst (v := nI 1) hx hb dX4_knot_64 (by decide) ?_
          refine lv_isub hx hb dX4_knot_65 ?_
          refine lv_topi (fun y_12 hy_12 => ?_)
          obtain rfl : y_12 = nI ((bf (((vC w1 0) + b) % 8)) - 1) := hy_12.trans (pk_sub (a := (bf (((vC w1 0) + b) % 8))) (b := 1) (by omega))
          have hi_13 : (((vC w1 0) + b) % 8) < 8 := by omega
          refine va_iast (D := G.1) hx hb hK.1 hP hD hS 5 0 rfl rfl (vp_in_nI hi_13 (by omega)) dX4_knot_66 (fun H locs hP hD hS => ?_)
          rw [nR_upd (f := bf) (k := (((vC w1 0) + b) % 8)) (v := ((bf (((vC w1 0) + b) % 8)) - 1)) (by omega)] at hP hD
          have hP : va_P G.1 vwCl [kO q0 4 [.int (nI th), .ref q1, .ref q2, .ref q3, .ref q4, .ref q5, .ref q6], kC G q1 8 (nR (peF w0 w1)), kC G q2 120 (nR (knF w0 w1)), kC G q3 120 (nR (plF w0 w1)), kC G q4 80 (nR ru), kC G q5 8 (nR (updN bf (((vC w1 0) + b) % 8) ((bf (((vC w1 0) + b) % 8)) - 1))), kC G q6 2 (nR (nuF ho un))] H := hP
          have hD : va_D A [kO q0 4 [.int (nI th), .ref q1, .ref q2, .ref q3, .ref q4, .ref q5, .ref q6], kC G q1 8 (nR (peF w0 w1)), kC G q2 120 (nR (knF w0 w1)), kC G q3 120 (nR (plF w0 w1)), kC G q4 80 (nR ru), kC G q5 8 (nR (updN bf (((vC w1 0) + b) % 8) ((bf (((vC w1 0) + b) % 8)) - 1))), kC G q6 2 (nR (nuF ho un))] := hD
          refine lv_aload_n hx hb dX4_knot_67 rfl (lv_at hl 1 rfl) ?_
          refine va_get (D := G.1) (ci := 4) (v := .ref q2) (C := RX4) (T := TX4) (N := 7) hx hb hts hq_0 hown hK.1 hP 0 rfl rfl 2 (by decide) hq_3 (fun _ h9 => h9) rfl dX4_knot_68 ?_
          refine lv_bipush (v := nI 60) hx hb dX4_knot_71 (by decide) ?_
          refine lv_iload_n hx hb dX4_knot_73 rfl (lv_at hl 2 rfl) ?_
          refine lv_imul hx hb dX4_knot_74 ?_
          refine lv_topi (fun y_14 hy_14 => ?_)
          obtain rfl : y_14 = nI 60 := hy_14.trans (by decide)
          refine lv_aload_n hx hb dX4_knot_75 rfl (lv_at hl 1 rfl) ?_
          refine lv_iload_n hx hb dX4_knot_76 rfl (lv_at hl 2 rfl) ?_
          refine lv_iconst (v := nI 1) hx hb dX4_knot_77 (by decide) ?_
          refine k_calli (fun _ => [kO q0 4 [.int (nI th), .ref q1, .ref q2, .ref q3, .ref q4, .ref q5, .ref q6], kC G q1 8 (nR (peF w0 w1)), kC G q2 120 (nR (knF w0 w1)), kC G q3 120 (nR (plF w0 w1)), kC G q4 80 (nR ru), kC G q5 8 (nR (updN bf (((vC w1 0) + b) % 8) ((bf (((vC w1 0) + b) % 8)) - 1))), kC G q6 2 (nR (nuF ho un))]) [kC G q2 120 (nR (knF w0 w1)), kC G q3 120 (nR (plF w0 w1)), kC G q4 80 (nR ru), kC G q5 8 (nR (updN bf (((vC w1 0) + b) % 8) ((bf (((vC w1 0) + b) % 8)) - 1))), kC G q6 2 (nR (nuF ho un))] (k_runV (As := [.int (nI 1), .int (nI 1)]) (rest := [.int (nI 60), .ref q2]) (wc := [kO q0 4 [.int (nI th), .ref q1, .ref q2, .ref q3, .ref q4, .ref q5, .ref q6], kC G q1 8 (nR (peF w0 w1))]) ⟨hx, hb, hml, hown, hts⟩ (m_pe l G q0 q1 q2 q3 q4 q5 q6 th (peF w0 w1) 1 1 (by decide) (by decide)) (cwV 2 hts gX4_knot_X4_pe rfl rfl rfl (by decide +kernel) ⟨Nat.le_of_ble_eq_true rfl, Nat.le_of_ble_eq_true rfl⟩) hK hZ hP hD hS hA [0, 1] rfl rfl 0 4 rfl rfl rfl rfl hl.1 rfl (Nat.le_of_ble_eq_true rfl) dX4_knot_78 ⟨Nat.le_of_ble_eq_true rfl, Nat.le_of_ble_eq_true rfl⟩) hP hD hS hA [0, 1] [2, 3, 4, 5, 6] [5, 6, 0, 1, 2, 3, 4] rfl rfl rfl (by decide) (fun _ => rfl) rfl (fun r_78 u_78 H locs hp_78 hP hD hS => ?_)
          have hp_78 : r_78 = nI (vM w1) := hp_78
          subst hp_78
          refine lv_iadd hx hb dX4_knot_81 ?_
          refine lv_topi (fun y_15 hy_15 => ?_)
          obtain rfl : y_15 = nI (60 + (vM w1)) := hy_15.trans (nI_add 60 (vM w1))
          refine lv_iload hx hb dX4_knot_82 (lv_at hl 0 rfl) ?_
          have hi_16 : (60 + (vM w1)) < 120 := by omega
          refine va_iast (D := G.1) hx hb hK.1 hP hD hS 2 0 rfl rfl (vp_in_nI hi_16 (by omega)) dX4_knot_84 (fun H locs hP hD hS => ?_)
          rw [nR_upd (f := (knF w0 w1)) (k := (60 + (vM w1))) (v := (((vC w1 0) + b) % 8)) (by omega)] at hP hD
          have hP : va_P G.1 vwCl [kO q0 4 [.int (nI th), .ref q1, .ref q2, .ref q3, .ref q4, .ref q5, .ref q6], kC G q1 8 (nR (peF w0 w1)), kC G q2 120 (nR (updN (knF w0 w1) (60 + (vM w1)) (((vC w1 0) + b) % 8))), kC G q3 120 (nR (plF w0 w1)), kC G q4 80 (nR ru), kC G q5 8 (nR (updN bf (((vC w1 0) + b) % 8) ((bf (((vC w1 0) + b) % 8)) - 1))), kC G q6 2 (nR (nuF ho un))] H := hP
          have hD : va_D A [kO q0 4 [.int (nI th), .ref q1, .ref q2, .ref q3, .ref q4, .ref q5, .ref q6], kC G q1 8 (nR (peF w0 w1)), kC G q2 120 (nR (updN (knF w0 w1) (60 + (vM w1)) (((vC w1 0) + b) % 8))), kC G q3 120 (nR (plF w0 w1)), kC G q4 80 (nR ru), kC G q5 8 (nR (updN bf (((vC w1 0) + b) % 8) ((bf (((vC w1 0) + b) % 8)) - 1))), kC G q6 2 (nR (nuF ho un))] := hD
          rw [kn_1] at hP hD
          have hP : va_P G.1 vwCl [kO q0 4 [.int (nI th), .ref q1, .ref q2, .ref q3, .ref q4, .ref q5, .ref q6], kC G q1 8 (nR (peF w0 w1)), kC G q2 120 (nR (knF w0 (wKn w1 (vM w1) ((vC w1 0 + b) % 8)))), kC G q3 120 (nR (plF w0 w1)), kC G q4 80 (nR ru), kC G q5 8 (nR (updN bf (((vC w1 0) + b) % 8) ((bf (((vC w1 0) + b) % 8)) - 1))), kC G q6 2 (nR (nuF ho un))] H := hP
          have hD : va_D A [kO q0 4 [.int (nI th), .ref q1, .ref q2, .ref q3, .ref q4, .ref q5, .ref q6], kC G q1 8 (nR (peF w0 w1)), kC G q2 120 (nR (knF w0 (wKn w1 (vM w1) ((vC w1 0 + b) % 8)))), kC G q3 120 (nR (plF w0 w1)), kC G q4 80 (nR ru), kC G q5 8 (nR (updN bf (((vC w1 0) + b) % 8) ((bf (((vC w1 0) + b) % 8)) - 1))), kC G q6 2 (nR (nuF ho un))] := hD
          refine lv_aload_n hx hb dX4_knot_85 rfl (lv_at hl 1 rfl) ?_
          refine lv_iload_n hx hb dX4_knot_86 rfl (lv_at hl 2 rfl) ?_
          refine lv_iconst (v := nI 1) hx hb dX4_knot_87 (by decide) ?_
          refine lv_aload_n hx hb dX4_knot_88 rfl (lv_at hl 1 rfl) ?_
          refine lv_iload_n hx hb dX4_knot_89 rfl (lv_at hl 2 rfl) ?_
          refine lv_iconst (v := nI 1) hx hb dX4_knot_90 (by decide) ?_
          refine k_calli (fun _ => [kO q0 4 [.int (nI th), .ref q1, .ref q2, .ref q3, .ref q4, .ref q5, .ref q6], kC G q1 8 (nR (peF w0 w1)), kC G q2 120 (nR (knF w0 (wKn w1 (vM w1) ((vC w1 0 + b) % 8)))), kC G q3 120 (nR (plF w0 w1)), kC G q4 80 (nR ru), kC G q5 8 (nR (updN bf (((vC w1 0) + b) % 8) ((bf (((vC w1 0) + b) % 8)) - 1))), kC G q6 2 (nR (nuF ho un))]) [kC G q2 120 (nR (knF w0 (wKn w1 (vM w1) ((vC w1 0 + b) % 8)))), kC G q3 120 (nR (plF w0 w1)), kC G q4 80 (nR ru), kC G q5 8 (nR (updN bf (((vC w1 0) + b) % 8) ((bf (((vC w1 0) + b) % 8)) - 1))), kC G q6 2 (nR (nuF ho un))] (k_runV (As := [.int (nI 1), .int (nI 1)]) (rest := [.int (nI 1), .int (nI 1), .ref q0]) (wc := [kO q0 4 [.int (nI th), .ref q1, .ref q2, .ref q3, .ref q4, .ref q5, .ref q6], kC G q1 8 (nR (peF w0 w1))]) ⟨hx, hb, hml, hown, hts⟩ (m_pe l G q0 q1 q2 q3 q4 q5 q6 th (peF w0 w1) 1 1 (by decide) (by decide)) (cwV 2 hts gX4_knot_X4_pe rfl rfl rfl (by decide +kernel) ⟨Nat.le_of_ble_eq_true rfl, Nat.le_of_ble_eq_true rfl⟩) hK hZ hP hD hS hA [0, 1] rfl rfl 0 4 rfl rfl rfl rfl hl.1 rfl (Nat.le_of_ble_eq_true rfl) dX4_knot_91 ⟨Nat.le_of_ble_eq_true rfl, Nat.le_of_ble_eq_true rfl⟩) hP hD hS hA [0, 1] [2, 3, 4, 5, 6] [5, 6, 0, 1, 2, 3, 4] rfl rfl rfl (by decide) (fun _ => rfl) rfl (fun r_91 u_91 H locs hp_91 hP hD hS => ?_)
          have hp_91 : r_91 = nI (vM w1) := hp_91
          subst hp_91
          refine lv_iconst (v := nI 1) hx hb dX4_knot_94 (by decide) ?_
          refine lv_iadd hx hb dX4_knot_95 ?_
          refine lv_topi (fun y_17 hy_17 => ?_)
          obtain rfl : y_17 = nI ((vM w1) + 1) := hy_17.trans (nI_add (vM w1) 1)
          refine k_callv (fun _ => [kO q0 4 [.int (nI th), .ref q1, .ref q2, .ref q3, .ref q4, .ref q5, .ref q6], kC G q1 8 (nR (updN (peF w0 w1) (4 * 1 + 1) ((vM w1) + 1))), kC G q2 120 (nR (knF w0 (wKn w1 (vM w1) ((vC w1 0 + b) % 8)))), kC G q3 120 (nR (plF w0 w1)), kC G q4 80 (nR ru), kC G q5 8 (nR (updN bf (((vC w1 0) + b) % 8) ((bf (((vC w1 0) + b) % 8)) - 1))), kC G q6 2 (nR (nuF ho un))]) [kC G q2 120 (nR (knF w0 (wKn w1 (vM w1) ((vC w1 0 + b) % 8)))), kC G q3 120 (nR (plF w0 w1)), kC G q4 80 (nR ru), kC G q5 8 (nR (updN bf (((vC w1 0) + b) % 8) ((bf (((vC w1 0) + b) % 8)) - 1))), kC G q6 2 (nR (nuF ho un))] (k_runV (As := [.int (nI 1), .int (nI 1), .int (nI ((vM w1) + 1))]) (rest := []) (wc := [kO q0 4 [.int (nI th), .ref q1, .ref q2, .ref q3, .ref q4, .ref q5, .ref q6], kC G q1 8 (nR (peF w0 w1))]) ⟨hx, hb, hml, hown, hts⟩ (m_put l G q0 q1 q2 q3 q4 q5 q6 th (peF w0 w1) 1 1 ((vM w1) + 1) (by decide) (by decide)) (cwV 3 hts gX4_knot_X4_put rfl rfl rfl (by decide +kernel) ⟨Nat.le_of_ble_eq_true rfl, Nat.le_of_ble_eq_true rfl⟩) hK hZ hP hD hS hA [0, 1] rfl rfl 0 4 rfl rfl rfl rfl hl.1 rfl (Nat.le_of_ble_eq_true rfl) dX4_knot_96 ⟨Nat.le_of_ble_eq_true rfl, Nat.le_of_ble_eq_true rfl⟩) hP hD hS hA [0, 1] [2, 3, 4, 5, 6] [5, 6, 0, 1, 2, 3, 4] rfl rfl rfl (by decide) (fun _ => rfl) rfl (fun u_96 H locs hp_96 hP hD hS => ?_)
          rw [pe_5] at hP hD
          have hP : va_P G.1 vwCl [kO q0 4 [.int (nI th), .ref q1, .ref q2, .ref q3, .ref q4, .ref q5, .ref q6], kC G q1 8 (nR (peF w0 (wMade w1 (vM w1 + 1)))), kC G q2 120 (nR (knF w0 (wKn w1 (vM w1) ((vC w1 0 + b) % 8)))), kC G q3 120 (nR (plF w0 w1)), kC G q4 80 (nR ru), kC G q5 8 (nR (updN bf (((vC w1 0) + b) % 8) ((bf (((vC w1 0) + b) % 8)) - 1))), kC G q6 2 (nR (nuF ho un))] H := hP
          have hD : va_D A [kO q0 4 [.int (nI th), .ref q1, .ref q2, .ref q3, .ref q4, .ref q5, .ref q6], kC G q1 8 (nR (peF w0 (wMade w1 (vM w1 + 1)))), kC G q2 120 (nR (knF w0 (wKn w1 (vM w1) ((vC w1 0 + b) % 8)))), kC G q3 120 (nR (plF w0 w1)), kC G q4 80 (nR ru), kC G q5 8 (nR (updN bf (((vC w1 0) + b) % 8) ((bf (((vC w1 0) + b) % 8)) - 1))), kC G q6 2 (nR (nuF ho un))] := hD
          refine lv_iload_n hx hb dX4_knot_99 rfl (lv_at hl 4 rfl) ?_
          refine lv_if_le (tgt := 117) hx hb dX4_knot_100 (by decide) (fun c_100 => ?_) (fun c_100 => ?_)
          · have c_100 : b = 0 := (k_le0 (a := b) (by omega)).mp c_100
            refine lv_aload_n hx hb dX4_knot_117 rfl (lv_at hl 1 rfl) ?_
            refine va_get (D := G.1) (ci := 4) (v := .ref q4) (C := RX4) (T := TX4) (N := 7) hx hb hts hq_0 hown hK.1 hP 0 rfl rfl 4 (by decide) hq_1 (fun _ h9 => h9) rfl dX4_knot_118 ?_
            refine lv_aload_n hx hb dX4_knot_121 rfl (lv_at hl 1 rfl) ?_
            refine lv_iload_n hx hb dX4_knot_122 rfl (lv_at hl 2 rfl) ?_
            refine lv_iconst (v := nI 0) hx hb dX4_knot_123 (by decide) ?_
            refine k_calli (fun _ => [kO q0 4 [.int (nI th), .ref q1, .ref q2, .ref q3, .ref q4, .ref q5, .ref q6], kC G q1 8 (nR (peF w0 (wMade w1 (vM w1 + 1)))), kC G q2 120 (nR (knF w0 (wKn w1 (vM w1) ((vC w1 0 + b) % 8)))), kC G q3 120 (nR (plF w0 w1)), kC G q4 80 (nR ru), kC G q5 8 (nR (updN bf (((vC w1 0) + b) % 8) ((bf (((vC w1 0) + b) % 8)) - 1))), kC G q6 2 (nR (nuF ho un))]) [kC G q1 8 (nR (peF w0 (wMade w1 (vM w1 + 1)))), kC G q2 120 (nR (knF w0 (wKn w1 (vM w1) ((vC w1 0 + b) % 8)))), kC G q3 120 (nR (plF w0 w1)), kC G q4 80 (nR ru), kC G q5 8 (nR (updN bf (((vC w1 0) + b) % 8) ((bf (((vC w1 0) + b) % 8)) - 1))), kC G q6 2 (nR (nuF ho un))] (k_runV (As := [.int (nI 1), .int (nI 0)]) (rest := [.ref q4]) (wc := [kO q0 4 [.int (nI th), .ref q1, .ref q2, .ref q3, .ref q4, .ref q5, .ref q6]]) ⟨hx, hb, hml, hown, hts⟩ (m_runAt l G q0 q1 q2 q3 q4 q5 q6 th 1 0 ) (cwV 2 hts gX4_knot_X4_runAt rfl rfl rfl (by decide +kernel) ⟨Nat.le_of_ble_eq_true rfl, Nat.le_of_ble_eq_true rfl⟩) hK hZ hP hD hS hA [0] rfl rfl 0 4 rfl rfl rfl rfl hl.1 rfl (Nat.le_of_ble_eq_true rfl) dX4_knot_124 ⟨Nat.le_of_ble_eq_true rfl, Nat.le_of_ble_eq_true rfl⟩) hP hD hS hA [0] [1, 2, 3, 4, 5, 6] [6, 0, 1, 2, 3, 4, 5] rfl rfl rfl (by decide) (fun _ => rfl) rfl (fun r_124 u_124 H locs hp_124 hP hD hS => ?_)
            have hp_124 : r_124 = nI (2 * (20 + 0)) := hp_124
            subst hp_124
            refine lv_iconst (v := nI 1) hx hb dX4_knot_127 (by decide) ?_
            refine lv_iadd hx hb dX4_knot_128 ?_
            refine lv_topi (fun y_18 hy_18 => ?_)
            obtain rfl : y_18 = nI ((2 * (20 + 0)) + 1) := hy_18.trans (nI_add (2 * (20 + 0)) 1)
            refine lv_dup2_11 hx hb dX4_knot_129 rfl rfl ?_
            have hi_19 : ((2 * (20 + 0)) + 1) < 80 := by omega
            refine va_iald (D := G.1) hx hb hK.1 hP 4 0 rfl rfl (vp_in_nI hi_19 (by omega)) dX4_knot_130 ?_
            refine lv_topi (fun y_20 hy_20 => ?_)
            obtain rfl : y_20 = nI (ru ((2 * (20 + 0)) + 1)) := hy_20.trans (nR_at (by omega))
            refine lv_topi (fun y_21 hy_21 => ?_)
            obtain rfl : y_21 = nI (vN w1 0) := hy_21.trans (congrArg nI hr0.2)
            refine lv_iconst (v := nI 1) hx hb dX4_knot_131 (by decide) ?_
            refine lv_isub hx hb dX4_knot_132 ?_
            refine lv_topi (fun y_22 hy_22 => ?_)
            obtain rfl : y_22 = nI ((vN w1 0) - 1) := hy_22.trans (pk_sub (a := (vN w1 0)) (b := 1) (by omega))
            have hi_23 : ((2 * (20 + 0)) + 1) < 80 := by omega
            refine va_iast (D := G.1) hx hb hK.1 hP hD hS 4 0 rfl rfl (vp_in_nI hi_23 (by omega)) dX4_knot_133 (fun H locs hP hD hS => ?_)
            rw [nR_upd (f := ru) (k := ((2 * (20 + 0)) + 1)) (v := ((vN w1 0) - 1)) (by omega)] at hP hD
            have hP : va_P G.1 vwCl [kO q0 4 [.int (nI th), .ref q1, .ref q2, .ref q3, .ref q4, .ref q5, .ref q6], kC G q1 8 (nR (peF w0 (wMade w1 (vM w1 + 1)))), kC G q2 120 (nR (knF w0 (wKn w1 (vM w1) ((vC w1 0 + b) % 8)))), kC G q3 120 (nR (plF w0 w1)), kC G q4 80 (nR (updN ru ((2 * (20 + 0)) + 1) ((vN w1 0) - 1))), kC G q5 8 (nR (updN bf (((vC w1 0) + b) % 8) ((bf (((vC w1 0) + b) % 8)) - 1))), kC G q6 2 (nR (nuF ho un))] H := hP
            have hD : va_D A [kO q0 4 [.int (nI th), .ref q1, .ref q2, .ref q3, .ref q4, .ref q5, .ref q6], kC G q1 8 (nR (peF w0 (wMade w1 (vM w1 + 1)))), kC G q2 120 (nR (knF w0 (wKn w1 (vM w1) ((vC w1 0 + b) % 8)))), kC G q3 120 (nR (plF w0 w1)), kC G q4 80 (nR (updN ru ((2 * (20 + 0)) + 1) ((vN w1 0) - 1))), kC G q5 8 (nR (updN bf (((vC w1 0) + b) % 8) ((bf (((vC w1 0) + b) % 8)) - 1))), kC G q6 2 (nR (nuF ho un))] := hD
            refine lv_aload_n hx hb dX4_knot_134 rfl (lv_at hl 1 rfl) ?_
            refine va_get (D := G.1) (ci := 4) (v := .ref q4) (C := RX4) (T := TX4) (N := 7) hx hb hts hq_0 hown hK.1 hP 0 rfl rfl 4 (by decide) hq_1 (fun _ h9 => h9) rfl dX4_knot_135 ?_
            refine lv_aload_n hx hb dX4_knot_138 rfl (lv_at hl 1 rfl) ?_
            refine lv_iload_n hx hb dX4_knot_139 rfl (lv_at hl 2 rfl) ?_
            refine lv_iconst (v := nI 0) hx hb dX4_knot_140 (by decide) ?_
            refine k_calli (fun _ => [kO q0 4 [.int (nI th), .ref q1, .ref q2, .ref q3, .ref q4, .ref q5, .ref q6], kC G q1 8 (nR (peF w0 (wMade w1 (vM w1 + 1)))), kC G q2 120 (nR (knF w0 (wKn w1 (vM w1) ((vC w1 0 + b) % 8)))), kC G q3 120 (nR (plF w0 w1)), kC G q4 80 (nR (updN ru ((2 * (20 + 0)) + 1) ((vN w1 0) - 1))), kC G q5 8 (nR (updN bf (((vC w1 0) + b) % 8) ((bf (((vC w1 0) + b) % 8)) - 1))), kC G q6 2 (nR (nuF ho un))]) [kC G q1 8 (nR (peF w0 (wMade w1 (vM w1 + 1)))), kC G q2 120 (nR (knF w0 (wKn w1 (vM w1) ((vC w1 0 + b) % 8)))), kC G q3 120 (nR (plF w0 w1)), kC G q4 80 (nR (updN ru ((2 * (20 + 0)) + 1) ((vN w1 0) - 1))), kC G q5 8 (nR (updN bf (((vC w1 0) + b) % 8) ((bf (((vC w1 0) + b) % 8)) - 1))), kC G q6 2 (nR (nuF ho un))] (k_runV (As := [.int (nI 1), .int (nI 0)]) (rest := [.ref q4]) (wc := [kO q0 4 [.int (nI th), .ref q1, .ref q2, .ref q3, .ref q4, .ref q5, .ref q6]]) ⟨hx, hb, hml, hown, hts⟩ (m_runAt l G q0 q1 q2 q3 q4 q5 q6 th 1 0 ) (cwV 2 hts gX4_knot_X4_runAt rfl rfl rfl (by decide +kernel) ⟨Nat.le_of_ble_eq_true rfl, Nat.le_of_ble_eq_true rfl⟩) hK hZ hP hD hS hA [0] rfl rfl 0 4 rfl rfl rfl rfl hl.1 rfl (Nat.le_of_ble_eq_true rfl) dX4_knot_141 ⟨Nat.le_of_ble_eq_true rfl, Nat.le_of_ble_eq_true rfl⟩) hP hD hS hA [0] [1, 2, 3, 4, 5, 6] [6, 0, 1, 2, 3, 4, 5] rfl rfl rfl (by decide) (fun _ => rfl) rfl (fun r_141 u_141 H locs hp_141 hP hD hS => ?_)
            have hp_141 : r_141 = nI (2 * (20 + 0)) := hp_141
            subst hp_141
            refine lv_iconst (v := nI 1) hx hb dX4_knot_144 (by decide) ?_
            refine lv_iadd hx hb dX4_knot_145 ?_
            refine lv_topi (fun y_24 hy_24 => ?_)
            obtain rfl : y_24 = nI ((2 * (20 + 0)) + 1) := hy_24.trans (nI_add (2 * (20 + 0)) 1)
            have hi_25 : ((2 * (20 + 0)) + 1) < 80 := by omega
            refine va_iald (D := G.1) hx hb hK.1 hP 4 0 rfl rfl (vp_in_nI hi_25 (by omega)) dX4_knot_146 ?_
            refine lv_topi (fun y_26 hy_26 => ?_)
            obtain rfl : y_26 = nI ((updN ru ((2 * (20 + 0)) + 1) ((vN w1 0) - 1)) ((2 * (20 + 0)) + 1)) := hy_26.trans (nR_at (by omega))
            refine lv_topi (fun y_27 hy_27 => ?_)
            obtain rfl : y_27 = nI (vN w1 0 - 1) := hy_27.trans (congrArg nI updN_self)
            refine lv_if_ne (tgt := 155) hx hb dX4_knot_147 (by decide) (fun c_147 => ?_) (fun c_147 => ?_)
            · have c_147 : ¬ ((vN w1 0 - 1) = 0) := fun h9 => c_147 ((k_eq0 (a := (vN w1 0 - 1)) (by omega)).mpr h9)
              refine lv_iconst (v := nI 1) hx hb dX4_knot_155 (by decide) ?_
              have hpe : peF w0 (wMade w1 (vM w1 + 1)) = peF w0 (knW w1 bf) := peF_b rfl rfl (shT_n (by omega)) ((if_pos (by omega)).symm)
              have hkn : knF w0 (wKn w1 (vM w1) ((vC w1 0 + b) % 8)) = knF w0 (knW w1 bf) := knF_b (by show updN _ _ _ = updN _ _ _; rw [hby])
              rw [hpe, hkn, takeB_t (by omega) hby] at hP hD
              have hP : va_P G.1 vwCl [kO q0 4 [.int (nI th), .ref q1, .ref q2, .ref q3, .ref q4, .ref q5, .ref q6], kC G q1 8 (nR (peF w0 (knW w1 bf))), kC G q2 120 (nR (knF w0 (knW w1 bf))), kC G q3 120 (nR (plF w0 (knW w1 bf))), kC G q4 80 (nR (updN ru ((2 * (20 + 0)) + 1) ((vN w1 0) - 1))), kC G q5 8 (nR (takeB bf (vC w1 0))), kC G q6 2 (nR (nuF ho un))] H := hP
              have hD : va_D A [kO q0 4 [.int (nI th), .ref q1, .ref q2, .ref q3, .ref q4, .ref q5, .ref q6], kC G q1 8 (nR (peF w0 (knW w1 bf))), kC G q2 120 (nR (knF w0 (knW w1 bf))), kC G q3 120 (nR (plF w0 (knW w1 bf))), kC G q4 80 (nR (updN ru ((2 * (20 + 0)) + 1) ((vN w1 0) - 1))), kC G q5 8 (nR (takeB bf (vC w1 0))), kC G q6 2 (nR (nuF ho un))] := hD
              exact k_zret (ws := [kO q0 4 [.int (nI th), .ref q1, .ref q2, .ref q3, .ref q4, .ref q5, .ref q6], kC G q1 8 (nR (peF w0 w1)), kC G q2 120 (nR (knF w0 w1)), kC G q3 120 (nR (plF w0 w1)), kC G q4 80 (nR ru), kC G q5 8 (nR bf), kC G q6 2 (nR (nuF ho un))]) ((knW w1 bf, takeB bf (vC w1 0), updN ru ((2 * (20 + 0)) + 1) ((vN w1 0) - 1))) hx hb hr rfl hlocks hP hD hS hAe hQ (Nat.le_of_ble_eq_true rfl) (Nat.le_of_ble_eq_true rfl) dX4_knot_156 (rfl) (Or.inl ⟨rfl, by omega, rfl, rfl, ruOk_a1 hru t0b (by omega)⟩)
            · have c_147 : (vN w1 0 - 1) = 0 := (k_eq0 (a := (vN w1 0 - 1)) (by omega)).mp c_147
              refine lv_aload_n hx hb dX4_knot_150 rfl (lv_at hl 1 rfl) ?_
              refine lv_iload_n hx hb dX4_knot_151 rfl (lv_at hl 2 rfl) ?_
              refine k_callv (fun _ => [kO q0 4 [.int (nI th), .ref q1, .ref q2, .ref q3, .ref q4, .ref q5, .ref q6], kC G q1 8 (nR (peF w0 (wTold (wMade w1 (vM w1 + 1)) (vT (wMade w1 (vM w1 + 1)) - 1)))), kC G q2 120 (nR (knF w0 (wKn w1 (vM w1) ((vC w1 0 + b) % 8)))), kC G q3 120 (nR (plF w0 w1)), kC G q4 80 (nR (cpyN (updN ru ((2 * (20 + 0)) + 1) ((vN w1 0) - 1)) (2 * (20 + 1)) (2 * (20 + 0)) 38)), kC G q5 8 (nR (updN bf (((vC w1 0) + b) % 8) ((bf (((vC w1 0) + b) % 8)) - 1))), kC G q6 2 (nR (nuF ho un))]) [kC G q2 120 (nR (knF w0 (wKn w1 (vM w1) ((vC w1 0 + b) % 8)))), kC G q3 120 (nR (plF w0 w1)), kC G q5 8 (nR (updN bf (((vC w1 0) + b) % 8) ((bf (((vC w1 0) + b) % 8)) - 1))), kC G q6 2 (nR (nuF ho un))] (k_runV (As := [.int (nI 1)]) (rest := []) (wc := [kO q0 4 [.int (nI th), .ref q1, .ref q2, .ref q3, .ref q4, .ref q5, .ref q6], kC G q1 8 (nR (peF w0 (wMade w1 (vM w1 + 1)))), kC G q4 80 (nR (updN ru ((2 * (20 + 0)) + 1) ((vN w1 0) - 1)))]) ⟨hx, hb, hml, hown, hts⟩ (m_dropRun1 l G q0 q1 q2 q3 q4 q5 q6 th w0 (wMade w1 (vM w1 + 1)) (updN ru ((2 * (20 + 0)) + 1) ((vN w1 0) - 1)) (by show 0 < vT w1; omega) (by show vT w1 ≤ 20; omega)) (cwV 1 hts gX4_knot_X4_dropRun rfl rfl rfl (by decide +kernel) ⟨Nat.le_of_ble_eq_true rfl, Nat.le_of_ble_eq_true rfl⟩) hK hZ hP hD hS hA [0, 1, 4] rfl rfl 0 4 rfl rfl rfl rfl hl.1 rfl (Nat.le_of_ble_eq_true rfl) dX4_knot_152 ⟨Nat.le_of_ble_eq_true rfl, Nat.le_of_ble_eq_true rfl⟩) hP hD hS hA [0, 1, 4] [2, 3, 5, 6] [4, 5, 0, 1, 6, 2, 3] rfl rfl rfl (by decide) (fun _ => rfl) rfl (fun u_152 H locs hp_152 hP hD hS => ?_)
              refine lv_iconst (v := nI 1) hx hb dX4_knot_155 (by decide) ?_
              have hpe : peF w0 (wTold (wMade w1 (vM w1 + 1)) (vT (wMade w1 (vM w1 + 1)) - 1)) = peF w0 (knW w1 bf) := peF_b rfl rfl (shT_1 (by omega)) ((if_pos (by omega)).symm)
              have hkn : knF w0 (wKn w1 (vM w1) ((vC w1 0 + b) % 8)) = knF w0 (knW w1 bf) := knF_b (by show updN _ _ _ = updN _ _ _; rw [hby])
              rw [hpe, hkn, takeB_t (by omega) hby] at hP hD
              have hP : va_P G.1 vwCl [kO q0 4 [.int (nI th), .ref q1, .ref q2, .ref q3, .ref q4, .ref q5, .ref q6], kC G q1 8 (nR (peF w0 (knW w1 bf))), kC G q2 120 (nR (knF w0 (knW w1 bf))), kC G q3 120 (nR (plF w0 (knW w1 bf))), kC G q4 80 (nR (cpyN (updN ru ((2 * (20 + 0)) + 1) ((vN w1 0) - 1)) (2 * (20 + 1)) (2 * (20 + 0)) 38)), kC G q5 8 (nR (takeB bf (vC w1 0))), kC G q6 2 (nR (nuF ho un))] H := hP
              have hD : va_D A [kO q0 4 [.int (nI th), .ref q1, .ref q2, .ref q3, .ref q4, .ref q5, .ref q6], kC G q1 8 (nR (peF w0 (knW w1 bf))), kC G q2 120 (nR (knF w0 (knW w1 bf))), kC G q3 120 (nR (plF w0 (knW w1 bf))), kC G q4 80 (nR (cpyN (updN ru ((2 * (20 + 0)) + 1) ((vN w1 0) - 1)) (2 * (20 + 1)) (2 * (20 + 0)) 38)), kC G q5 8 (nR (takeB bf (vC w1 0))), kC G q6 2 (nR (nuF ho un))] := hD
              exact k_zret (ws := [kO q0 4 [.int (nI th), .ref q1, .ref q2, .ref q3, .ref q4, .ref q5, .ref q6], kC G q1 8 (nR (peF w0 w1)), kC G q2 120 (nR (knF w0 w1)), kC G q3 120 (nR (plF w0 w1)), kC G q4 80 (nR ru), kC G q5 8 (nR bf), kC G q6 2 (nR (nuF ho un))]) ((knW w1 bf, takeB bf (vC w1 0), cpyN (updN ru ((2 * (20 + 0)) + 1) ((vN w1 0) - 1)) (2 * (20 + 1)) (2 * (20 + 0)) 38)) hx hb hr rfl hlocks hP hD hS hAe hQ (Nat.le_of_ble_eq_true rfl) (Nat.le_of_ble_eq_true rfl) dX4_knot_156 (rfl) (Or.inl ⟨rfl, by omega, rfl, rfl, ruOk_b1 hru t0b t1b (by omega)⟩)
          · have c_100 : ¬ (b = 0) := fun h9 => c_100 ((k_le0 (a := b) (by omega)).mpr h9)
            refine lv_aload_n hx hb dX4_knot_103 rfl (lv_at hl 1 rfl) ?_
            refine lv_iload_n hx hb dX4_knot_104 rfl (lv_at hl 2 rfl) ?_
            refine lv_iconst (v := nI 3) hx hb dX4_knot_105 (by decide) ?_
            refine lv_aload_n hx hb dX4_knot_106 rfl (lv_at hl 1 rfl) ?_
            refine lv_iload_n hx hb dX4_knot_107 rfl (lv_at hl 2 rfl) ?_
            refine lv_iconst (v := nI 3) hx hb dX4_knot_108 (by decide) ?_
            refine k_calli (fun _ => [kO q0 4 [.int (nI th), .ref q1, .ref q2, .ref q3, .ref q4, .ref q5, .ref q6], kC G q1 8 (nR (peF w0 (wMade w1 (vM w1 + 1)))), kC G q2 120 (nR (knF w0 (wKn w1 (vM w1) ((vC w1 0 + b) % 8)))), kC G q3 120 (nR (plF w0 w1)), kC G q4 80 (nR ru), kC G q5 8 (nR (updN bf (((vC w1 0) + b) % 8) ((bf (((vC w1 0) + b) % 8)) - 1))), kC G q6 2 (nR (nuF ho un))]) [kC G q2 120 (nR (knF w0 (wKn w1 (vM w1) ((vC w1 0 + b) % 8)))), kC G q3 120 (nR (plF w0 w1)), kC G q4 80 (nR ru), kC G q5 8 (nR (updN bf (((vC w1 0) + b) % 8) ((bf (((vC w1 0) + b) % 8)) - 1))), kC G q6 2 (nR (nuF ho un))] (k_runV (As := [.int (nI 1), .int (nI 3)]) (rest := [.int (nI 3), .int (nI 1), .ref q0]) (wc := [kO q0 4 [.int (nI th), .ref q1, .ref q2, .ref q3, .ref q4, .ref q5, .ref q6], kC G q1 8 (nR (peF w0 (wMade w1 (vM w1 + 1))))]) ⟨hx, hb, hml, hown, hts⟩ (m_pe l G q0 q1 q2 q3 q4 q5 q6 th (peF w0 (wMade w1 (vM w1 + 1))) 1 3 (by decide) (by decide)) (cwV 2 hts gX4_knot_X4_pe rfl rfl rfl (by decide +kernel) ⟨Nat.le_of_ble_eq_true rfl, Nat.le_of_ble_eq_true rfl⟩) hK hZ hP hD hS hA [0, 1] rfl rfl 0 4 rfl rfl rfl rfl hl.1 rfl (Nat.le_of_ble_eq_true rfl) dX4_knot_109 ⟨Nat.le_of_ble_eq_true rfl, Nat.le_of_ble_eq_true rfl⟩) hP hD hS hA [0, 1] [2, 3, 4, 5, 6] [5, 6, 0, 1, 2, 3, 4] rfl rfl rfl (by decide) (fun _ => rfl) rfl (fun r_109 u_109 H locs hp_109 hP hD hS => ?_)
            have hp_109 : r_109 = nI (vO (wMade w1 (vM w1 + 1))) := hp_109
            subst hp_109
            refine lv_iconst (v := nI 1) hx hb dX4_knot_112 (by decide) ?_
            refine lv_iadd hx hb dX4_knot_113 ?_
            refine lv_topi (fun y_28 hy_28 => ?_)
            obtain rfl : y_28 = nI ((vO (wMade w1 (vM w1 + 1))) + 1) := hy_28.trans (nI_add (vO (wMade w1 (vM w1 + 1))) 1)
            refine k_callv (fun _ => [kO q0 4 [.int (nI th), .ref q1, .ref q2, .ref q3, .ref q4, .ref q5, .ref q6], kC G q1 8 (nR (updN (peF w0 (wMade w1 (vM w1 + 1))) (4 * 1 + 3) ((vO (wMade w1 (vM w1 + 1))) + 1))), kC G q2 120 (nR (knF w0 (wKn w1 (vM w1) ((vC w1 0 + b) % 8)))), kC G q3 120 (nR (plF w0 w1)), kC G q4 80 (nR ru), kC G q5 8 (nR (updN bf (((vC w1 0) + b) % 8) ((bf (((vC w1 0) + b) % 8)) - 1))), kC G q6 2 (nR (nuF ho un))]) [kC G q2 120 (nR (knF w0 (wKn w1 (vM w1) ((vC w1 0 + b) % 8)))), kC G q3 120 (nR (plF w0 w1)), kC G q4 80 (nR ru), kC G q5 8 (nR (updN bf (((vC w1 0) + b) % 8) ((bf (((vC w1 0) + b) % 8)) - 1))), kC G q6 2 (nR (nuF ho un))] (k_runV (As := [.int (nI 1), .int (nI 3), .int (nI ((vO (wMade w1 (vM w1 + 1))) + 1))]) (rest := []) (wc := [kO q0 4 [.int (nI th), .ref q1, .ref q2, .ref q3, .ref q4, .ref q5, .ref q6], kC G q1 8 (nR (peF w0 (wMade w1 (vM w1 + 1))))]) ⟨hx, hb, hml, hown, hts⟩ (m_put l G q0 q1 q2 q3 q4 q5 q6 th (peF w0 (wMade w1 (vM w1 + 1))) 1 3 ((vO (wMade w1 (vM w1 + 1))) + 1) (by decide) (by decide)) (cwV 3 hts gX4_knot_X4_put rfl rfl rfl (by decide +kernel) ⟨Nat.le_of_ble_eq_true rfl, Nat.le_of_ble_eq_true rfl⟩) hK hZ hP hD hS hA [0, 1] rfl rfl 0 4 rfl rfl rfl rfl hl.1 rfl (Nat.le_of_ble_eq_true rfl) dX4_knot_114 ⟨Nat.le_of_ble_eq_true rfl, Nat.le_of_ble_eq_true rfl⟩) hP hD hS hA [0, 1] [2, 3, 4, 5, 6] [5, 6, 0, 1, 2, 3, 4] rfl rfl rfl (by decide) (fun _ => rfl) rfl (fun u_114 H locs hp_114 hP hD hS => ?_)
            rw [pe_7] at hP hD
            have hP : va_P G.1 vwCl [kO q0 4 [.int (nI th), .ref q1, .ref q2, .ref q3, .ref q4, .ref q5, .ref q6], kC G q1 8 (nR (peF w0 (wOth (wMade w1 (vM w1 + 1)) (vO w1 + 1)))), kC G q2 120 (nR (knF w0 (wKn w1 (vM w1) ((vC w1 0 + b) % 8)))), kC G q3 120 (nR (plF w0 w1)), kC G q4 80 (nR ru), kC G q5 8 (nR (updN bf (((vC w1 0) + b) % 8) ((bf (((vC w1 0) + b) % 8)) - 1))), kC G q6 2 (nR (nuF ho un))] H := hP
            have hD : va_D A [kO q0 4 [.int (nI th), .ref q1, .ref q2, .ref q3, .ref q4, .ref q5, .ref q6], kC G q1 8 (nR (peF w0 (wOth (wMade w1 (vM w1 + 1)) (vO w1 + 1)))), kC G q2 120 (nR (knF w0 (wKn w1 (vM w1) ((vC w1 0 + b) % 8)))), kC G q3 120 (nR (plF w0 w1)), kC G q4 80 (nR ru), kC G q5 8 (nR (updN bf (((vC w1 0) + b) % 8) ((bf (((vC w1 0) + b) % 8)) - 1))), kC G q6 2 (nR (nuF ho un))] := hD
            refine lv_aload_n hx hb dX4_knot_117 rfl (lv_at hl 1 rfl) ?_
            refine va_get (D := G.1) (ci := 4) (v := .ref q4) (C := RX4) (T := TX4) (N := 7) hx hb hts hq_0 hown hK.1 hP 0 rfl rfl 4 (by decide) hq_1 (fun _ h9 => h9) rfl dX4_knot_118 ?_
            refine lv_aload_n hx hb dX4_knot_121 rfl (lv_at hl 1 rfl) ?_
            refine lv_iload_n hx hb dX4_knot_122 rfl (lv_at hl 2 rfl) ?_
            refine lv_iconst (v := nI 0) hx hb dX4_knot_123 (by decide) ?_
            refine k_calli (fun _ => [kO q0 4 [.int (nI th), .ref q1, .ref q2, .ref q3, .ref q4, .ref q5, .ref q6], kC G q1 8 (nR (peF w0 (wOth (wMade w1 (vM w1 + 1)) (vO w1 + 1)))), kC G q2 120 (nR (knF w0 (wKn w1 (vM w1) ((vC w1 0 + b) % 8)))), kC G q3 120 (nR (plF w0 w1)), kC G q4 80 (nR ru), kC G q5 8 (nR (updN bf (((vC w1 0) + b) % 8) ((bf (((vC w1 0) + b) % 8)) - 1))), kC G q6 2 (nR (nuF ho un))]) [kC G q1 8 (nR (peF w0 (wOth (wMade w1 (vM w1 + 1)) (vO w1 + 1)))), kC G q2 120 (nR (knF w0 (wKn w1 (vM w1) ((vC w1 0 + b) % 8)))), kC G q3 120 (nR (plF w0 w1)), kC G q4 80 (nR ru), kC G q5 8 (nR (updN bf (((vC w1 0) + b) % 8) ((bf (((vC w1 0) + b) % 8)) - 1))), kC G q6 2 (nR (nuF ho un))] (k_runV (As := [.int (nI 1), .int (nI 0)]) (rest := [.ref q4]) (wc := [kO q0 4 [.int (nI th), .ref q1, .ref q2, .ref q3, .ref q4, .ref q5, .ref q6]]) ⟨hx, hb, hml, hown, hts⟩ (m_runAt l G q0 q1 q2 q3 q4 q5 q6 th 1 0 ) (cwV 2 hts gX4_knot_X4_runAt rfl rfl rfl (by decide +kernel) ⟨Nat.le_of_ble_eq_true rfl, Nat.le_of_ble_eq_true rfl⟩) hK hZ hP hD hS hA [0] rfl rfl 0 4 rfl rfl rfl rfl hl.1 rfl (Nat.le_of_ble_eq_true rfl) dX4_knot_124 ⟨Nat.le_of_ble_eq_true rfl, Nat.le_of_ble_eq_true rfl⟩) hP hD hS hA [0] [1, 2, 3, 4, 5, 6] [6, 0, 1, 2, 3, 4, 5] rfl rfl rfl (by decide) (fun _ => rfl) rfl (fun r_124 u_124 H locs hp_124 hP hD hS => ?_)
            have hp_124 : r_124 = nI (2 * (20 + 0)) := hp_124
            subst hp_124
            refine lv_iconst (v := nI 1) hx hb dX4_knot_127 (by decide) ?_
            refine lv_iadd hx hb dX4_knot_128 ?_
            refine lv_topi (fun y_29 hy_29 => ?_)
            obtain rfl : y_29 = nI ((2 * (20 + 0)) + 1) := hy_29.trans (nI_add (2 * (20 + 0)) 1)
            refine lv_dup2_11 hx hb dX4_knot_129 rfl rfl ?_
            have hi_30 : ((2 * (20 + 0)) + 1) < 80 := by omega
            refine va_iald (D := G.1) hx hb hK.1 hP 4 0 rfl rfl (vp_in_nI hi_30 (by omega)) dX4_knot_130 ?_
            refine lv_topi (fun y_31 hy_31 => ?_)
            obtain rfl : y_31 = nI (ru ((2 * (20 + 0)) + 1)) := hy_31.trans (nR_at (by omega))
            refine lv_topi (fun y_32 hy_32 => ?_)
            obtain rfl : y_32 = nI (vN w1 0) := hy_32.trans (congrArg nI hr0.2)
            refine lv_iconst (v := nI 1) hx hb dX4_knot_131 (by decide) ?_
            refine lv_isub hx hb dX4_knot_132 ?_
            refine lv_topi (fun y_33 hy_33 => ?_)
            obtain rfl : y_33 = nI ((vN w1 0) - 1) := hy_33.trans (pk_sub (a := (vN w1 0)) (b := 1) (by omega))
            have hi_34 : ((2 * (20 + 0)) + 1) < 80 := by omega
            refine va_iast (D := G.1) hx hb hK.1 hP hD hS 4 0 rfl rfl (vp_in_nI hi_34 (by omega)) dX4_knot_133 (fun H locs hP hD hS => ?_)
            rw [nR_upd (f := ru) (k := ((2 * (20 + 0)) + 1)) (v := ((vN w1 0) - 1)) (by omega)] at hP hD
            have hP : va_P G.1 vwCl [kO q0 4 [.int (nI th), .ref q1, .ref q2, .ref q3, .ref q4, .ref q5, .ref q6], kC G q1 8 (nR (peF w0 (wOth (wMade w1 (vM w1 + 1)) (vO w1 + 1)))), kC G q2 120 (nR (knF w0 (wKn w1 (vM w1) ((vC w1 0 + b) % 8)))), kC G q3 120 (nR (plF w0 w1)), kC G q4 80 (nR (updN ru ((2 * (20 + 0)) + 1) ((vN w1 0) - 1))), kC G q5 8 (nR (updN bf (((vC w1 0) + b) % 8) ((bf (((vC w1 0) + b) % 8)) - 1))), kC G q6 2 (nR (nuF ho un))] H := hP
            have hD : va_D A [kO q0 4 [.int (nI th), .ref q1, .ref q2, .ref q3, .ref q4, .ref q5, .ref q6], kC G q1 8 (nR (peF w0 (wOth (wMade w1 (vM w1 + 1)) (vO w1 + 1)))), kC G q2 120 (nR (knF w0 (wKn w1 (vM w1) ((vC w1 0 + b) % 8)))), kC G q3 120 (nR (plF w0 w1)), kC G q4 80 (nR (updN ru ((2 * (20 + 0)) + 1) ((vN w1 0) - 1))), kC G q5 8 (nR (updN bf (((vC w1 0) + b) % 8) ((bf (((vC w1 0) + b) % 8)) - 1))), kC G q6 2 (nR (nuF ho un))] := hD
            refine lv_aload_n hx hb dX4_knot_134 rfl (lv_at hl 1 rfl) ?_
            refine va_get (D := G.1) (ci := 4) (v := .ref q4) (C := RX4) (T := TX4) (N := 7) hx hb hts hq_0 hown hK.1 hP 0 rfl rfl 4 (by decide) hq_1 (fun _ h9 => h9) rfl dX4_knot_135 ?_
            refine lv_aload_n hx hb dX4_knot_138 rfl (lv_at hl 1 rfl) ?_
            refine lv_iload_n hx hb dX4_knot_139 rfl (lv_at hl 2 rfl) ?_
            refine lv_iconst (v := nI 0) hx hb dX4_knot_140 (by decide) ?_
            refine k_calli (fun _ => [kO q0 4 [.int (nI th), .ref q1, .ref q2, .ref q3, .ref q4, .ref q5, .ref q6], kC G q1 8 (nR (peF w0 (wOth (wMade w1 (vM w1 + 1)) (vO w1 + 1)))), kC G q2 120 (nR (knF w0 (wKn w1 (vM w1) ((vC w1 0 + b) % 8)))), kC G q3 120 (nR (plF w0 w1)), kC G q4 80 (nR (updN ru ((2 * (20 + 0)) + 1) ((vN w1 0) - 1))), kC G q5 8 (nR (updN bf (((vC w1 0) + b) % 8) ((bf (((vC w1 0) + b) % 8)) - 1))), kC G q6 2 (nR (nuF ho un))]) [kC G q1 8 (nR (peF w0 (wOth (wMade w1 (vM w1 + 1)) (vO w1 + 1)))), kC G q2 120 (nR (knF w0 (wKn w1 (vM w1) ((vC w1 0 + b) % 8)))), kC G q3 120 (nR (plF w0 w1)), kC G q4 80 (nR (updN ru ((2 * (20 + 0)) + 1) ((vN w1 0) - 1))), kC G q5 8 (nR (updN bf (((vC w1 0) + b) % 8) ((bf (((vC w1 0) + b) % 8)) - 1))), kC G q6 2 (nR (nuF ho un))] (k_runV (As := [.int (nI 1), .int (nI 0)]) (rest := [.ref q4]) (wc := [kO q0 4 [.int (nI th), .ref q1, .ref q2, .ref q3, .ref q4, .ref q5, .ref q6]]) ⟨hx, hb, hml, hown, hts⟩ (m_runAt l G q0 q1 q2 q3 q4 q5 q6 th 1 0 ) (cwV 2 hts gX4_knot_X4_runAt rfl rfl rfl (by decide +kernel) ⟨Nat.le_of_ble_eq_true rfl, Nat.le_of_ble_eq_true rfl⟩) hK hZ hP hD hS hA [0] rfl rfl 0 4 rfl rfl rfl rfl hl.1 rfl (Nat.le_of_ble_eq_true rfl) dX4_knot_141 ⟨Nat.le_of_ble_eq_true rfl, Nat.le_of_ble_eq_true rfl⟩) hP hD hS hA [0] [1, 2, 3, 4, 5, 6] [6, 0, 1, 2, 3, 4, 5] rfl rfl rfl (by decide) (fun _ => rfl) rfl (fun r_141 u_141 H locs hp_141 hP hD hS => ?_)
            have hp_141 : r_141 = nI (2 * (20 + 0)) := hp_141
            subst hp_141
            refine lv_iconst (v := nI 1) hx hb dX4_knot_144 (by decide) ?_
            refine lv_iadd hx hb dX4_knot_145 ?_
            refine lv_topi (fun y_35 hy_35 => ?_)
            obtain rfl : y_35 = nI ((2 * (20 + 0)) + 1) := hy_35.trans (nI_add (2 * (20 + 0)) 1)
            have hi_36 : ((2 * (20 + 0)) + 1) < 80 := by omega
            refine va_iald (D := G.1) hx hb hK.1 hP 4 0 rfl rfl (vp_in_nI hi_36 (by omega)) dX4_knot_146 ?_
            refine lv_topi (fun y_37 hy_37 => ?_)
            obtain rfl : y_37 = nI ((updN ru ((2 * (20 + 0)) + 1) ((vN w1 0) - 1)) ((2 * (20 + 0)) + 1)) := hy_37.trans (nR_at (by omega))
            refine lv_topi (fun y_38 hy_38 => ?_)
            obtain rfl : y_38 = nI (vN w1 0 - 1) := hy_38.trans (congrArg nI updN_self)
            refine lv_if_ne (tgt := 155) hx hb dX4_knot_147 (by decide) (fun c_147 => ?_) (fun c_147 => ?_)
            · have c_147 : ¬ ((vN w1 0 - 1) = 0) := fun h9 => c_147 ((k_eq0 (a := (vN w1 0 - 1)) (by omega)).mpr h9)
              refine lv_iconst (v := nI 1) hx hb dX4_knot_155 (by decide) ?_
              have hpe : peF w0 (wOth (wMade w1 (vM w1 + 1)) (vO w1 + 1)) = peF w0 (knW w1 bf) := peF_b rfl rfl (shT_n (by omega)) ((if_neg (by omega)).symm)
              have hkn : knF w0 (wKn w1 (vM w1) ((vC w1 0 + b) % 8)) = knF w0 (knW w1 bf) := knF_b (by show updN _ _ _ = updN _ _ _; rw [hby])
              rw [hpe, hkn, takeB_t (by omega) hby] at hP hD
              have hP : va_P G.1 vwCl [kO q0 4 [.int (nI th), .ref q1, .ref q2, .ref q3, .ref q4, .ref q5, .ref q6], kC G q1 8 (nR (peF w0 (knW w1 bf))), kC G q2 120 (nR (knF w0 (knW w1 bf))), kC G q3 120 (nR (plF w0 (knW w1 bf))), kC G q4 80 (nR (updN ru ((2 * (20 + 0)) + 1) ((vN w1 0) - 1))), kC G q5 8 (nR (takeB bf (vC w1 0))), kC G q6 2 (nR (nuF ho un))] H := hP
              have hD : va_D A [kO q0 4 [.int (nI th), .ref q1, .ref q2, .ref q3, .ref q4, .ref q5, .ref q6], kC G q1 8 (nR (peF w0 (knW w1 bf))), kC G q2 120 (nR (knF w0 (knW w1 bf))), kC G q3 120 (nR (plF w0 (knW w1 bf))), kC G q4 80 (nR (updN ru ((2 * (20 + 0)) + 1) ((vN w1 0) - 1))), kC G q5 8 (nR (takeB bf (vC w1 0))), kC G q6 2 (nR (nuF ho un))] := hD
              exact k_zret (ws := [kO q0 4 [.int (nI th), .ref q1, .ref q2, .ref q3, .ref q4, .ref q5, .ref q6], kC G q1 8 (nR (peF w0 w1)), kC G q2 120 (nR (knF w0 w1)), kC G q3 120 (nR (plF w0 w1)), kC G q4 80 (nR ru), kC G q5 8 (nR bf), kC G q6 2 (nR (nuF ho un))]) ((knW w1 bf, takeB bf (vC w1 0), updN ru ((2 * (20 + 0)) + 1) ((vN w1 0) - 1))) hx hb hr rfl hlocks hP hD hS hAe hQ (Nat.le_of_ble_eq_true rfl) (Nat.le_of_ble_eq_true rfl) dX4_knot_156 (rfl) (Or.inl ⟨rfl, by omega, rfl, rfl, ruOk_a1 hru t0b (by omega)⟩)
            · have c_147 : (vN w1 0 - 1) = 0 := (k_eq0 (a := (vN w1 0 - 1)) (by omega)).mp c_147
              refine lv_aload_n hx hb dX4_knot_150 rfl (lv_at hl 1 rfl) ?_
              refine lv_iload_n hx hb dX4_knot_151 rfl (lv_at hl 2 rfl) ?_
              refine k_callv (fun _ => [kO q0 4 [.int (nI th), .ref q1, .ref q2, .ref q3, .ref q4, .ref q5, .ref q6], kC G q1 8 (nR (peF w0 (wTold (wOth (wMade w1 (vM w1 + 1)) (vO w1 + 1)) (vT (wOth (wMade w1 (vM w1 + 1)) (vO w1 + 1)) - 1)))), kC G q2 120 (nR (knF w0 (wKn w1 (vM w1) ((vC w1 0 + b) % 8)))), kC G q3 120 (nR (plF w0 w1)), kC G q4 80 (nR (cpyN (updN ru ((2 * (20 + 0)) + 1) ((vN w1 0) - 1)) (2 * (20 + 1)) (2 * (20 + 0)) 38)), kC G q5 8 (nR (updN bf (((vC w1 0) + b) % 8) ((bf (((vC w1 0) + b) % 8)) - 1))), kC G q6 2 (nR (nuF ho un))]) [kC G q2 120 (nR (knF w0 (wKn w1 (vM w1) ((vC w1 0 + b) % 8)))), kC G q3 120 (nR (plF w0 w1)), kC G q5 8 (nR (updN bf (((vC w1 0) + b) % 8) ((bf (((vC w1 0) + b) % 8)) - 1))), kC G q6 2 (nR (nuF ho un))] (k_runV (As := [.int (nI 1)]) (rest := []) (wc := [kO q0 4 [.int (nI th), .ref q1, .ref q2, .ref q3, .ref q4, .ref q5, .ref q6], kC G q1 8 (nR (peF w0 (wOth (wMade w1 (vM w1 + 1)) (vO w1 + 1)))), kC G q4 80 (nR (updN ru ((2 * (20 + 0)) + 1) ((vN w1 0) - 1)))]) ⟨hx, hb, hml, hown, hts⟩ (m_dropRun1 l G q0 q1 q2 q3 q4 q5 q6 th w0 (wOth (wMade w1 (vM w1 + 1)) (vO w1 + 1)) (updN ru ((2 * (20 + 0)) + 1) ((vN w1 0) - 1)) (by show 0 < vT w1; omega) (by show vT w1 ≤ 20; omega)) (cwV 1 hts gX4_knot_X4_dropRun rfl rfl rfl (by decide +kernel) ⟨Nat.le_of_ble_eq_true rfl, Nat.le_of_ble_eq_true rfl⟩) hK hZ hP hD hS hA [0, 1, 4] rfl rfl 0 4 rfl rfl rfl rfl hl.1 rfl (Nat.le_of_ble_eq_true rfl) dX4_knot_152 ⟨Nat.le_of_ble_eq_true rfl, Nat.le_of_ble_eq_true rfl⟩) hP hD hS hA [0, 1, 4] [2, 3, 5, 6] [4, 5, 0, 1, 6, 2, 3] rfl rfl rfl (by decide) (fun _ => rfl) rfl (fun u_152 H locs hp_152 hP hD hS => ?_)
              refine lv_iconst (v := nI 1) hx hb dX4_knot_155 (by decide) ?_
              have hpe : peF w0 (wTold (wOth (wMade w1 (vM w1 + 1)) (vO w1 + 1)) (vT (wOth (wMade w1 (vM w1 + 1)) (vO w1 + 1)) - 1)) = peF w0 (knW w1 bf) := peF_b rfl rfl (shT_1 (by omega)) ((if_neg (by omega)).symm)
              have hkn : knF w0 (wKn w1 (vM w1) ((vC w1 0 + b) % 8)) = knF w0 (knW w1 bf) := knF_b (by show updN _ _ _ = updN _ _ _; rw [hby])
              rw [hpe, hkn, takeB_t (by omega) hby] at hP hD
              have hP : va_P G.1 vwCl [kO q0 4 [.int (nI th), .ref q1, .ref q2, .ref q3, .ref q4, .ref q5, .ref q6], kC G q1 8 (nR (peF w0 (knW w1 bf))), kC G q2 120 (nR (knF w0 (knW w1 bf))), kC G q3 120 (nR (plF w0 (knW w1 bf))), kC G q4 80 (nR (cpyN (updN ru ((2 * (20 + 0)) + 1) ((vN w1 0) - 1)) (2 * (20 + 1)) (2 * (20 + 0)) 38)), kC G q5 8 (nR (takeB bf (vC w1 0))), kC G q6 2 (nR (nuF ho un))] H := hP
              have hD : va_D A [kO q0 4 [.int (nI th), .ref q1, .ref q2, .ref q3, .ref q4, .ref q5, .ref q6], kC G q1 8 (nR (peF w0 (knW w1 bf))), kC G q2 120 (nR (knF w0 (knW w1 bf))), kC G q3 120 (nR (plF w0 (knW w1 bf))), kC G q4 80 (nR (cpyN (updN ru ((2 * (20 + 0)) + 1) ((vN w1 0) - 1)) (2 * (20 + 1)) (2 * (20 + 0)) 38)), kC G q5 8 (nR (takeB bf (vC w1 0))), kC G q6 2 (nR (nuF ho un))] := hD
              exact k_zret (ws := [kO q0 4 [.int (nI th), .ref q1, .ref q2, .ref q3, .ref q4, .ref q5, .ref q6], kC G q1 8 (nR (peF w0 w1)), kC G q2 120 (nR (knF w0 w1)), kC G q3 120 (nR (plF w0 w1)), kC G q4 80 (nR ru), kC G q5 8 (nR bf), kC G q6 2 (nR (nuF ho un))]) ((knW w1 bf, takeB bf (vC w1 0), cpyN (updN ru ((2 * (20 + 0)) + 1) ((vN w1 0) - 1)) (2 * (20 + 1)) (2 * (20 + 0)) 38)) hx hb hr rfl hlocks hP hD hS hAe hQ (Nat.le_of_ble_eq_true rfl) (Nat.le_of_ble_eq_true rfl) dX4_knot_156 (rfl) (Or.inl ⟨rfl, by omega, rfl, rfl, ruOk_b1 hru t0b t1b (by omega)⟩)
        · have c_31 : (bf (((vC w1 0) + b) % 8)) = 0 := (k_eq0 (a := (bf (((vC w1 0) + b) % 8))) (by omega)).mp c_31
          refine lv_iinc (v := nI (b + 1)) (lv' := [(3, .int (nI (b + 1))), (0, .ref q0), (1, .int (nI 1)), (2, .int (nI (vC w1 0)))]) hx hb dX4_knot_34 hl (k := 3) rfl (nI_add b 1) (by decide) rfl (fun ls hl => ?_)
          refine lv_goto (tgt := 14) hx hb dX4_knot_37 (by decide) ?_
          exact ih_14 (b + 1) (by omega) (tk_miss (by omega) hv c_31) (by omega) _ _ _ hP hD hS (lv_sub hl [1, 2, 3, 0] rfl)
  exact loop_14 9 0 (by omega) rfl (by omega) H locs ls hP hD hS (lv_sub hl [2, 3, 1, 0] rfl)
