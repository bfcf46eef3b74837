set_option maxHeartbeats 4000000 in
set_option maxRecDepth 100000 in
theorem m_isIn (l : Launch) (G : kG) (x : Int32) (a : Int32) (b : Int32)  : kM l G yX4_isIn wsX4_isIn ({ frames := 0, cells := 0, slots := 0, locals := 0 } : Room) [.int x, .int a, .int b] [] (kQi G [] (fun (r : Int32) (_ : Unit) => (r = nI 1 ∧ (a ≤ x ∧ x ≤ b)) ∨ (r = nI 0 ∧ ¬ (a ≤ x ∧ x ≤ b))) (fun (_ : Unit) => [])) := by
  refine k_ofW (cc := cX4_isIn) (maxL := 3) (rt := (some .boolean)) (by decide) rfl (Nat.le_of_ble_eq_true rfl) ?_
  intro p e s m args below meth c A ls Qs H locs hQ hAe hx hb hr hml hts hown hlocks hin hK hZ hP hD hS hA hl
  have hown : s.vm.findClass RX4 = some m.cls := hown
  have hl : lv_has ls 3 [(0, .int x), (1, .int a), (2, .int b)] := hl
  refine lv_iload_n hx hb dX4_isIn_0 rfl (lv_at hl 0 rfl) ?_
  refine lv_iload_n hx hb dX4_isIn_1 rfl (lv_at hl 1 rfl) ?_
  refine lv_icmp_lt (tgt := 14) hx hb dX4_isIn_2 (by decide) (fun c_2 => ?_) (fun c_2 => ?_)
  · refine lv_iconst (v := nI 0) hx hb dX4_isIn_14 (by decide) ?_
    exact k_zret (ws := []) (()) hx hb hr rfl hlocks hP hD hS hAe hQ (Nat.le_of_ble_eq_true rfl) (Nat.le_of_ble_eq_true rfl) dX4_isIn_15 (rfl) (Or.inr ⟨rfl, fun q => Int32.not_lt.mpr q.1 c_2⟩)
  · refine lv_iload_n hx hb dX4_isIn_5 rfl (lv_at hl 0 rfl) ?_
    refine lv_iload_n hx hb dX4_isIn_6 rfl (lv_at hl 2 rfl) ?_
    refine lv_icmp_gt (tgt := 14) hx hb dX4_isIn_7 (by decide) (fun c_7 => ?_) (fun c_7 => ?_)
    · refine lv_iconst (v := nI 0) hx hb dX4_isIn_14 (by decide) ?_
      exact k_zret (ws := []) (()) hx hb hr rfl hlocks hP hD hS hAe hQ (Nat.le_of_ble_eq_true rfl) (Nat.le_of_ble_eq_true rfl) dX4_isIn_15 (rfl) (Or.inr ⟨rfl, fun q => Int32.not_lt.mpr q.2 c_7⟩)
    · refine lv_iconst (v := nI 1) hx hb dX4_isIn_10 (by decide) ?_
      refine lv_goto (tgt := 15) hx hb dX4_isIn_11 (by decide) ?_
      exact k_zret (ws := []) (()) hx hb hr rfl hlocks hP hD hS hAe hQ (Nat.le_of_ble_eq_true rfl) (Nat.le_of_ble_eq_true rfl) dX4_isIn_15 (rfl) (Or.inl ⟨rfl, Int32.not_lt.mp c_2, Int32.not_lt.mp c_7⟩)
set_option maxHeartbeats 4000000 in
set_option maxRecDepth 100000 in
theorem m_isWeaver (l : Launch) (G : kG) (x : Int32)  : kM l G yX4_isWeaver wsX4_isWeaver ({ frames := 1, cells := 0, slots := 0, locals := 22 } : Room) [.int x] [] (kQi G [] (fun (r : Int32) (_ : Unit) => (r = nI 1 ∧ (inR x 2)) ∨ (r = nI 0 ∧ ¬ (inR x 2))) (fun (_ : Unit) => [])) := by
  refine k_ofW (cc := cX4_isWeaver) (maxL := 1) (rt := (some .boolean)) (by decide) rfl (Nat.le_of_ble_eq_true rfl) ?_
  intro p e s m args below meth c A ls Qs H locs hQ hAe hx hb hr hml hts hown hlocks hin hK hZ hP hD hS hA hl
  have hown : s.vm.findClass RX4 = some m.cls := hown
  have hl : lv_has ls 1 [(0, .int x)] := hl
  refine lv_iload_n hx hb dX4_isWeaver_0 rfl (lv_at hl 0 rfl) ?_
  refine lv_iconst (v := nI 0) hx hb dX4_isWeaver_1 (by decide) ?_
  refine lv_iconst (v := nI 1) hx hb dX4_isWeaver_2 (by decide) ?_
  refine k_calli (fun u_3 => []) [] (k_runS (As := [.int x, .int (nI 0), .int (nI 1)]) (rest := []) (wc := []) ⟨hx, hb, hml, hown, hts⟩ (m_isIn l G x (nI 0) (nI 1) ) (va_cwS 3 hts gX4_isWeaver_X4_isIn rfl rfl rfl (by decide +kernel) ⟨Nat.le_of_ble_eq_true rfl, Nat.le_of_ble_eq_true rfl⟩) hK hZ hP hD hS hA [] rfl rfl rfl hl.1 rfl (Nat.le_of_ble_eq_true rfl) dX4_isWeaver_3 ⟨Nat.le_of_ble_eq_true rfl, Nat.le_of_ble_eq_true rfl⟩) hP hD hS hA [] [] [] rfl rfl rfl (by decide) (fun _ => rfl) rfl (fun r_3 u_3 H locs hp_3 hP hD hS => ?_)
  rw [isIn_R (by decide)] at hp_3
  rcases hp_3 with ⟨rfl, hp_3⟩ | ⟨rfl, hp_3⟩
  · exact k_zret (ws := []) (()) hx hb hr rfl hlocks hP hD hS hAe hQ (Nat.le_of_ble_eq_true rfl) (Nat.le_of_ble_eq_true rfl) dX4_isWeaver_6 (rfl) (Or.inl ⟨rfl, hp_3⟩)
  · exact k_zret (ws := []) (()) hx hb hr rfl hlocks hP hD hS hAe hQ (Nat.le_of_ble_eq_true rfl) (Nat.le_of_ble_eq_true rfl) dX4_isWeaver_6 (rfl) (Or.inr ⟨rfl, hp_3⟩)
set_option maxHeartbeats 4000000 in
set_option maxRecDepth 100000 in
theorem m_isColour (l : Launch) (G : kG) (x : Int32)  : kM l G yX4_isColour wsX4_isColour ({ frames := 1, cells := 0, slots := 0, locals := 22 } : Room) [.int x] [] (kQi G [] (fun (r : Int32) (_ : Unit) => (r = nI 1 ∧ (inR x 8)) ∨ (r = nI 0 ∧ ¬ (inR x 8))) (fun (_ : Unit) => [])) := by
  refine k_ofW (cc := cX4_isColour) (maxL := 1) (rt := (some .boolean)) (by decide) rfl (Nat.le_of_ble_eq_true rfl) ?_
  intro p e s m args below meth c A ls Qs H locs hQ hAe hx hb hr hml hts hown hlocks hin hK hZ hP hD hS hA hl
  have hown : s.vm.findClass RX4 = some m.cls := hown
  have hl : lv_has ls 1 [(0, .int x)] := hl
  refine lv_iload_n hx hb dX4_isColour_0 rfl (lv_at hl 0 rfl) ?_
  refine lv_iconst (v := nI 0) hx hb dX4_isColour_1 (by decide) ?_
  refine lv_bipush (v := nI 7) hx hb dX4_isColour_2 (by decide) ?_
  refine k_calli (fun u_4 => []) [] (k_runS (As := [.int x, .int (nI 0), .int (nI 7)]) (rest := []) (wc := []) ⟨hx, hb, hml, hown, hts⟩ (m_isIn l G x (nI 0) (nI 7) ) (va_cwS 3 hts gX4_isColour_X4_isIn rfl rfl rfl (by decide +kernel) ⟨Nat.le_of_ble_eq_true rfl, Nat.le_of_ble_eq_true rfl⟩) hK hZ hP hD hS hA [] rfl rfl rfl hl.1 rfl (Nat.le_of_ble_eq_true rfl) dX4_isColour_4 ⟨Nat.le_of_ble_eq_true rfl, Nat.le_of_ble_eq_true rfl⟩) hP hD hS hA [] [] [] rfl rfl rfl (by decide) (fun _ => rfl) rfl (fun r_4 u_4 H locs hp_4 hP hD hS => ?_)
  rw [isIn_R (by decide)] at hp_4
  rcases hp_4 with ⟨rfl, hp_4⟩ | ⟨rfl, hp_4⟩
  · exact k_zret (ws := []) (()) hx hb hr rfl hlocks hP hD hS hAe hQ (Nat.le_of_ble_eq_true rfl) (Nat.le_of_ble_eq_true rfl) dX4_isColour_7 (rfl) (Or.inl ⟨rfl, hp_4⟩)
  · exact k_zret (ws := []) (()) hx hb hr rfl hlocks hP hD hS hAe hQ (Nat.le_of_ble_eq_true rfl) (Nat.le_of_ble_eq_true rfl) dX4_isColour_7 (rfl) (Or.inr ⟨rfl, hp_4⟩)
set_option maxHeartbeats 4000000 in
set_option maxRecDepth 100000 in
theorem m_isCell (l : Launch) (G : kG) (x : Int32) (y : Int32)  : kM l G yX4_isCell wsX4_isCell ({ frames := 1, cells := 0, slots := 0, locals := 22 } : Room) [.int x, .int y] [] (kQi G [] (fun (r : Int32) (_ : Unit) => (r = nI 1 ∧ (inR x 12 ∧ inR y 10)) ∨ (r = nI 0 ∧ ¬ (inR x 12 ∧ inR y 10))) (fun (_ : Unit) => [])) := by
  refine k_ofW (cc := cX4_isCell) (maxL := 2) (rt := (some .boolean)) (by decide) rfl (Nat.le_of_ble_eq_true rfl) ?_
  intro p e s m args below meth c A ls Qs H locs hQ hAe hx hb hr hml hts hown hlocks hin hK hZ hP hD hS hA hl
  have hown : s.vm.findClass RX4 = some m.cls := hown
  have hl : lv_has ls 2 [(0, .int x), (1, .int y)] := hl
  refine lv_iload_n hx hb dX4_isCell_0 rfl (lv_at hl 0 rfl) ?_
  refine lv_iconst (v := nI 0) hx hb dX4_isCell_1 (by decide) ?_
  refine lv_bipush (v := nI 11) hx hb dX4_isCell_2 (by decide) ?_
  refine k_calli (fun u_4 => []) [] (k_runS (As := [.int x, .int (nI 0), .int (nI 11)]) (rest := []) (wc := []) ⟨hx, hb, hml, hown, hts⟩ (m_isIn l G x (nI 0) (nI 11) ) (va_cwS 3 hts gX4_isCell_X4_isIn rfl rfl rfl (by decide +kernel) ⟨Nat.le_of_ble_eq_true rfl, Nat.le_of_ble_eq_true rfl⟩) hK hZ hP hD hS hA [] rfl rfl rfl hl.1 rfl (Nat.le_of_ble_eq_true rfl) dX4_isCell_4 ⟨Nat.le_of_ble_eq_true rfl, Nat.le_of_ble_eq_true rfl⟩) hP hD hS hA [] [] [] rfl rfl rfl (by decide) (fun _ => rfl) rfl (fun r_4 u_4 H locs hp_4 hP hD hS => ?_)
  rw [isIn_R (by decide)] at hp_4
  rcases hp_4 with ⟨rfl, hp_4⟩ | ⟨rfl, hp_4⟩
  · refine lv_if_eq (tgt := 24) hx hb dX4_isCell_7 (by decide) (fun c_7 => absurd c_7 (by decide)) (fun c_7 => ?_)
    refine lv_iload_n hx hb dX4_isCell_10 rfl (lv_at hl 1 rfl) ?_
    refine lv_iconst (v := nI 0) hx hb dX4_isCell_11 (by decide) ?_
    refine lv_bipush (v := nI 9) hx hb dX4_isCell_12 (by decide) ?_
    refine k_calli (fun u_14 => []) [] (k_runS (As := [.int y, .int (nI 0), .int (nI 9)]) (rest := []) (wc := []) ⟨hx, hb, hml, hown, hts⟩ (m_isIn l G y (nI 0) (nI 9) ) (va_cwS 3 hts gX4_isCell_X4_isIn rfl rfl rfl (by decide +kernel) ⟨Nat.le_of_ble_eq_true rfl, Nat.le_of_ble_eq_true rfl⟩) hK hZ hP hD hS hA [] rfl rfl rfl hl.1 rfl (Nat.le_of_ble_eq_true rfl) dX4_isCell_14 ⟨Nat.le_of_ble_eq_true rfl, Nat.le_of_ble_eq_true rfl⟩) hP hD hS hA [] [] [] rfl rfl rfl (by decide) (fun _ => rfl) rfl (fun r_14 u_14 H locs hp_14 hP hD hS => ?_)
    rw [isIn_R (by decide)] at hp_14
    rcases hp_14 with ⟨rfl, hp_14⟩ | ⟨rfl, hp_14⟩
    · refine lv_if_eq (tgt := 24) hx hb dX4_isCell_17 (by decide) (fun c_17 => absurd c_17 (by decide)) (fun c_17 => ?_)
      refine lv_iconst (v := nI 1) hx hb dX4_isCell_20 (by decide) ?_
      refine lv_goto (tgt := 25) hx hb dX4_isCell_21 (by decide) ?_
      exact k_zret (ws := []) (()) hx hb hr rfl hlocks hP hD hS hAe hQ (Nat.le_of_ble_eq_true rfl) (Nat.le_of_ble_eq_true rfl) dX4_isCell_25 (rfl) (Or.inl ⟨rfl, hp_4, hp_14⟩)
    · refine lv_if_eq (tgt := 24) hx hb dX4_isCell_17 (by decide) (fun c_17 => ?_) (fun c_17 => absurd c_17 (by decide))
      refine lv_iconst (v := nI 0) hx hb dX4_isCell_24 (by decide) ?_
      exact k_zret (ws := []) (()) hx hb hr rfl hlocks hP hD hS hAe hQ (Nat.le_of_ble_eq_true rfl) (Nat.le_of_ble_eq_true rfl) dX4_isCell_25 (rfl) (by first | exact Or.inr ⟨rfl, fun q => hp_14 q.2⟩ | exact Or.inr ⟨rfl, fun q => hp_4 q.1⟩)
  · refine lv_if_eq (tgt := 24) hx hb dX4_isCell_7 (by decide) (fun c_7 => ?_) (fun c_7 => absurd c_7 (by decide))
    refine lv_iconst (v := nI 0) hx hb dX4_isCell_24 (by decide) ?_
    exact k_zret (ws := []) (()) hx hb hr rfl hlocks hP hD hS hAe hQ (Nat.le_of_ble_eq_true rfl) (Nat.le_of_ble_eq_true rfl) dX4_isCell_25 (rfl) (by first | exact Or.inr ⟨rfl, fun q => hp_14 q.2⟩ | exact Or.inr ⟨rfl, fun q => hp_4 q.1⟩)
set_option maxHeartbeats 4000000 in
set_option maxRecDepth 100000 in
theorem m_thrown (l : Launch) (G : kG) (q0 : Nat) (q1 : Nat) (q2 : Nat) (q3 : Nat) (q4 : Nat) (q5 : Nat) (q6 : Nat) (th : Nat)  : kM l G yX4_thrown wsX4_thrown ({ frames := 0, cells := 0, slots := 0, locals := 0 } : Room) [.ref q0] [kO q0 4 [.int (nI th), .ref q1, .ref q2, .ref q3, .ref q4, .ref q5, .ref q6]] (kQi G [kO q0 4 [.int (nI th), .ref q1, .ref q2, .ref q3, .ref q4, .ref q5, .ref q6]] (fun (r : Int32) (_ : Unit) => r = nI th) (fun (_ : Unit) => [kO q0 4 [.int (nI th), .ref q1, .ref q2, .ref q3, .ref q4, .ref q5, .ref q6]])) := by
  refine k_ofW (cc := cX4_thrown) (maxL := 1) (rt := (some .int)) (by decide) rfl (Nat.le_of_ble_eq_true rfl) ?_
  intro p e s m args below meth c A ls Qs H locs hQ hAe hx hb hr hml hts hown hlocks hin hK hZ hP hD hS hA hl
  have hown : s.vm.findClass RX4 = some m.cls := hown
  have hl : lv_has ls 1 [(0, .ref q0)] := hl
  have hq_0 : ∀ w ∈ wsX40, w ∈ wsX4_thrown := by decide +kernel
  have hq_1 : (Cond.fieldLink RX4 28 "KnotRugsModel" "thrown" "I").before args s = true := hts _ (by decide +kernel)
  refine lv_aload_n hx hb dX4_thrown_0 rfl (lv_at hl 0 rfl) ?_
  refine va_get (D := G.1) (ci := 4) (v := .int (nI th)) (C := RX4) (T := TX4) (N := 7) hx hb hts hq_0 hown hK.1 hP 0 rfl rfl 0 (by decide) hq_1 (fun _ h9 => h9) rfl dX4_thrown_1 ?_
  exact k_iret (ws := [kO q0 4 [.int (nI th), .ref q1, .ref q2, .ref q3, .ref q4, .ref q5, .ref q6]]) (()) hx hb hr hlocks hP hD hS hAe hQ (Nat.le_of_ble_eq_true rfl) (Nat.le_of_ble_eq_true rfl) dX4_thrown_4 (rfl) (rfl)
set_option maxHeartbeats 4000000 in
set_option maxRecDepth 100000 in
theorem m_fail (l : Launch) (G : kG) (q0 : Nat) (q1 : Nat) (q2 : Nat) (q3 : Nat) (q4 : Nat) (q5 : Nat) (q6 : Nat) (th : Nat) (k : Nat)  : kM l G yX4_fail wsX4_fail ({ frames := 0, cells := 0, slots := 0, locals := 0 } : Room) [.ref q0, .int (nI k)] [kO q0 4 [.int (nI th), .ref q1, .ref q2, .ref q3, .ref q4, .ref q5, .ref q6]] (kQi G [kO q0 4 [.int (nI th), .ref q1, .ref q2, .ref q3, .ref q4, .ref q5, .ref q6]] (fun (r : Int32) (_ : Unit) => r = nI 0) (fun (_ : Unit) => [kO q0 4 [.int (nI k), .ref q1, .ref q2, .ref q3, .ref q4, .ref q5, .ref q6]])) := by
  refine k_ofW (cc := cX4_fail) (maxL := 2) (rt := (some .int)) (by decide) rfl (Nat.le_of_ble_eq_true rfl) ?_
  intro p e s m args below meth c A ls Qs H locs hQ hAe hx hb hr hml hts hown hlocks hin hK hZ hP hD hS hA hl
  have hown : s.vm.findClass RX4 = some m.cls := hown
  have hl : lv_has ls 2 [(0, .ref q0), (1, .int (nI k))] := hl
  have hq_0 : ∀ w ∈ wsX40, w ∈ wsX4_fail := by decide +kernel
  have hq_1 : (Cond.fieldLink RX4 28 "KnotRugsModel" "thrown" "I").before args s = true := hts _ (by decide +kernel)
  refine lv_aload_n hx hb dX4_fail_0 rfl (lv_at hl 0 rfl) ?_
  refine lv_iload_n hx hb dX4_fail_1 rfl (lv_at hl 1 rfl) ?_
  refine va_put (D := G.1) (ci := 4) (v := .int (nI k)) (ty := .int) (C := RX4) (T := TX4) (N := 7) hx hb hts hq_0 tyX4 tyX4_ok nmX4 hown hK.1 hP hD hS 0 rfl rfl 0 (by decide) hq_1 (fun _ h9 => h9) rfl (by decide +kernel) rfl rfl (Nat.le_of_ble_eq_true rfl) dX4_fail_2 (fun H locs hP hD hS => ?_)
  have hP : va_P G.1 vwCl [kO q0 4 [.int (nI k), .ref q1, .ref q2, .ref q3, .ref q4, .ref q5, .ref q6]] H := hP
  have hD : va_D A [kO q0 4 [.int (nI k), .ref q1, .ref q2, .ref q3, .ref q4, .ref q5, .ref q6]] := hD
  refine lv_iconst (v := nI 0) hx hb dX4_fail_5 (by decide) ?_
  exact k_iret (ws := [kO q0 4 [.int (nI th), .ref q1, .ref q2, .ref q3, .ref q4, .ref q5, .ref q6]]) (()) hx hb hr hlocks hP hD hS hAe hQ (Nat.le_of_ble_eq_true rfl) (Nat.le_of_ble_eq_true rfl) dX4_fail_6 (rfl) (rfl)
set_option maxHeartbeats 4000000 in
set_option maxRecDepth 100000 in
theorem m_pe (l : Launch) (G : kG) (q0 : Nat) (q1 : Nat) (q2 : Nat) (q3 : Nat) (q4 : Nat) (q5 : Nat) (q6 : Nat) (th : Nat) (pe : Nat → Nat) (w : Nat) (k : Nat) (hw2 : w < 2) (hk4 : k < 4) : kM l G yX4_pe wsX4_pe ({ frames := 0, cells := 0, slots := 0, locals := 0 } : Room) [.ref q0, .int (nI w), .int (nI k)] [kO q0 4 [.int (nI th), .ref q1, .ref q2, .ref q3, .ref q4, .ref q5, .ref q6], kC G q1 8 (nR pe)] (kQi G [kO q0 4 [.int (nI th), .ref q1, .ref q2, .ref q3, .ref q4, .ref q5, .ref q6], kC G q1 8 (nR pe)] (fun (r : Int32) (_ : Unit) => r = nI (pe (4 * w + k))) (fun (_ : Unit) => [kO q0 4 [.int (nI th), .ref q1, .ref q2, .ref q3, .ref q4, .ref q5, .ref q6], kC G q1 8 (nR pe)])) := by
  refine k_ofW (cc := cX4_pe) (maxL := 3) (rt := (some .int)) (by decide) rfl (Nat.le_of_ble_eq_true rfl) ?_
  intro p e s m args below meth c A ls Qs H locs hQ hAe hx hb hr hml hts hown hlocks hin hK hZ hP hD hS hA hl
  have hown : s.vm.findClass RX4 = some m.cls := hown
  have hl : lv_has ls 3 [(0, .ref q0), (1, .int (nI w)), (2, .int (nI k))] := hl
  have hq_0 : ∀ w ∈ wsX40, w ∈ wsX4_pe := by decide +kernel
  have hq_1 : (Cond.fieldLink RX4 7 "KnotRugsModel" "people" "[I").before args s = true := hts _ (by decide +kernel)
  refine lv_aload_n hx hb dX4_pe_0 rfl (lv_at hl 0 rfl) ?_
  refine va_get (D := G.1) (ci := 4) (v := .ref q1) (C := RX4) (T := TX4) (N := 7) hx hb hts hq_0 hown hK.1 hP 0 rfl rfl 1 (by decide) hq_1 (fun _ h9 => h9) rfl dX4_pe_1 ?_
  refine lv_iconst (v := nI 4) hx hb dX4_pe_4 (by decide) ?_
  refine lv_iload_n hx hb dX4_pe_5 rfl (lv_at hl 1 rfl) ?_
  refine lv_imul hx hb dX4_pe_6 ?_
  refine lv_topi (fun y_1 hy_1 => ?_)
  obtain rfl : y_1 = nI (4 * w) := hy_1.trans (pk_mul 4 w)
  refine lv_iload_n hx hb dX4_pe_7 rfl (lv_at hl 2 rfl) ?_
  refine lv_iadd hx hb dX4_pe_8 ?_
  refine lv_topi (fun y_2 hy_2 => ?_)
  obtain rfl : y_2 = nI ((4 * w) + k) := hy_2.trans (nI_add (4 * w) k)
  have hi_3 : ((4 * w) + k) < 8 := by omega
  refine va_iald (D := G.1) hx hb hK.1 hP 1 0 rfl rfl (vp_in_nI hi_3 (by omega)) dX4_pe_9 ?_
  refine lv_topi (fun y_4 hy_4 => ?_)
  obtain rfl : y_4 = nI (pe ((4 * w) + k)) := hy_4.trans (nR_at (by omega))
  exact k_iret (ws := [kO q0 4 [.int (nI th), .ref q1, .ref q2, .ref q3, .ref q4, .ref q5, .ref q6], kC G q1 8 (nR pe)]) (()) hx hb hr hlocks hP hD hS hAe hQ (Nat.le_of_ble_eq_true rfl) (Nat.le_of_ble_eq_true rfl) dX4_pe_10 (rfl) (rfl)
set_option maxHeartbeats 4000000 in
set_option maxRecDepth 100000 in
theorem m_put (l : Launch) (G : kG) (q0 : Nat) (q1 : Nat) (q2 : Nat) (q3 : Nat) (q4 : Nat) (q5 : Nat) (q6 : Nat) (th : Nat) (pe : Nat → Nat) (w : Nat) (k : Nat) (v : Nat) (hw2 : w < 2) (hk4 : k < 4) : kM l G yX4_put wsX4_put ({ frames := 0, cells := 0, slots := 0, locals := 0 } : Room) [.ref q0, .int (nI w), .int (nI k), .int (nI v)] [kO q0 4 [.int (nI th), .ref q1, .ref q2, .ref q3, .ref q4, .ref q5, .ref q6], kC G q1 8 (nR pe)] (kQv G [kO q0 4 [.int (nI th), .ref q1, .ref q2, .ref q3, .ref q4, .ref q5, .ref q6], kC G q1 8 (nR pe)] (fun (_ : Unit) => True) (fun (_ : Unit) => [kO q0 4 [.int (nI th), .ref q1, .ref q2, .ref q3, .ref q4, .ref q5, .ref q6], kC G q1 8 (nR (updN pe (4 * w + k) v))])) := by
  refine k_ofW (cc := cX4_put) (maxL := 4) (rt := none) (by decide) rfl (Nat.le_of_ble_eq_true rfl) ?_
  intro p e s m args below meth c A ls Qs H locs hQ hAe hx hb hr hml hts hown hlocks hin hK hZ hP hD hS hA hl
  have hown : s.vm.findClass RX4 = some m.cls := hown
  have hl : lv_has ls 4 [(0, .ref q0), (1, .int (nI w)), (2, .int (nI k)), (3, .int (nI v))] := hl
  have hq_0 : ∀ w ∈ wsX40, w ∈ wsX4_put := by decide +kernel
  have hq_1 : (Cond.fieldLink RX4 7 "KnotRugsModel" "people" "[I").before args s = true := hts _ (by decide +kernel)
  refine lv_aload_n hx hb dX4_put_0 rfl (lv_at hl 0 rfl) ?_
  refine va_get (D := G.1) (ci := 4) (v := .ref q1) (C := RX4) (T := TX4) (N := 7) hx hb hts hq_0 hown hK.1 hP 0 rfl rfl 1 (by decide) hq_1 (fun _ h9 => h9) rfl dX4_put_1 ?_
  refine lv_iconst (v := nI 4) hx hb dX4_put_4 (by decide) ?_
  refine lv_iload_n hx hb dX4_put_5 rfl (lv_at hl 1 rfl) ?_
  refine lv_imul hx hb dX4_put_6 ?_
  refine lv_topi (fun y_1 hy_1 => ?_)
  obtain rfl : y_1 = nI (4 * w) := hy_1.trans (pk_mul 4 w)
  refine lv_iload_n hx hb dX4_put_7 rfl (lv_at hl 2 rfl) ?_
  refine lv_iadd hx hb dX4_put_8 ?_
  refine lv_topi (fun y_2 hy_2 => ?_)
  obtain rfl : y_2 = nI ((4 * w) + k) := hy_2.trans (nI_add (4 * w) k)
  refine lv_iload_n hx hb dX4_put_9 rfl (lv_at hl 3 rfl) ?_
  have hi_3 : ((4 * w) + k) < 8 := by omega
  refine va_iast (D := G.1) hx hb hK.1 hP hD hS 1 0 rfl rfl (vp_in_nI hi_3 (by omega)) dX4_put_10 (fun H locs hP hD hS => ?_)
  rw [nR_upd (f := pe) (k := ((4 * w) + k)) (v := v) (by omega)] at hP hD
  have hP : va_P G.1 vwCl [kO q0 4 [.int (nI th), .ref q1, .ref q2, .ref q3, .ref q4, .ref q5, .ref q6], kC G q1 8 (nR (updN pe ((4 * w) + k) v))] H := hP
  have hD : va_D A [kO q0 4 [.int (nI th), .ref q1, .ref q2, .ref q3, .ref q4, .ref q5, .ref q6], kC G q1 8 (nR (updN pe ((4 * w) + k) v))] := hD
  exact k_vret (ws := [kO q0 4 [.int (nI th), .ref q1, .ref q2, .ref q3, .ref q4, .ref q5, .ref q6], kC G q1 8 (nR pe)]) (()) hx hb hr hlocks hP hD hS hAe hQ (Nat.le_of_ble_eq_true rfl) (Nat.le_of_ble_eq_true rfl) dX4_put_11 (rfl) (trivial)
set_option maxHeartbeats 4000000 in
set_option maxRecDepth 100000 in
theorem m_runAt (l : Launch) (G : kG) (q0 : Nat) (q1 : Nat) (q2 : Nat) (q3 : Nat) (q4 : Nat) (q5 : Nat) (q6 : Nat) (th : Nat) (w : Nat) (k : Nat)  : kM l G yX4_runAt wsX4_runAt ({ frames := 0, cells := 0, slots := 0, locals := 0 } : Room) [.ref q0, .int (nI w), .int (nI k)] [kO q0 4 [.int (nI th), .ref q1, .ref q2, .ref q3, .ref q4, .ref q5, .ref q6]] (kQi G [kO q0 4 [.int (nI th), .ref q1, .ref q2, .ref q3, .ref q4, .ref q5, .ref q6]] (fun (r : Int32) (_ : Unit) => r = nI (2 * (20 * w + k))) (fun (_ : Unit) => [kO q0 4 [.int (nI th), .ref q1, .ref q2, .ref q3, .ref q4, .ref q5, .ref q6]])) := by
  refine k_ofW (cc := cX4_runAt) (maxL := 3) (rt := (some .int)) (by decide) rfl (Nat.le_of_ble_eq_true rfl) ?_
  intro p e s m args below meth c A ls Qs H locs hQ hAe hx hb hr hml hts hown hlocks hin hK hZ hP hD hS hA hl
  have hown : s.vm.findClass RX4 = some m.cls := hown
  have hl : lv_has ls 3 [(0, .ref q0), (1, .int (nI w)), (2, .int (nI k))] := hl
  refine lv_iconst (v := nI 2) hx hb dX4_runAt_0 (by decide) ?_
  refine lv_bipush (v := nI 20) hx hb dX4_runAt_1 (by decide) ?_
  refine lv_iload_n hx hb dX4_runAt_3 rfl (lv_at hl 1 rfl) ?_
  refine lv_imul hx hb dX4_runAt_4 ?_
  refine lv_topi (fun y_1 hy_1 => ?_)
  obtain rfl : y_1 = nI (20 * w) := hy_1.trans (pk_mul 20 w)
  refine lv_iload_n hx hb dX4_runAt_5 rfl (lv_at hl 2 rfl) ?_
  refine lv_iadd hx hb dX4_runAt_6 ?_
  refine lv_topi (fun y_2 hy_2 => ?_)
  obtain rfl : y_2 = nI ((20 * w) + k) := hy_2.trans (nI_add (20 * w) k)
  refine lv_imul hx hb dX4_runAt_7 ?_
  refine lv_topi (fun y_3 hy_3 => ?_)
  obtain rfl : y_3 = nI (2 * ((20 * w) + k)) := hy_3.trans (pk_mul 2 ((20 * w) + k))
  exact k_iret (ws := [kO q0 4 [.int (nI th), .ref q1, .ref q2, .ref q3, .ref q4, .ref q5, .ref q6]]) (()) hx hb hr hlocks hP hD hS hAe hQ (Nat.le_of_ble_eq_true rfl) (Nat.le_of_ble_eq_true rfl) dX4_runAt_8 (rfl) (rfl)
set_option maxHeartbeats 4000000 in
set_option maxRecDepth 100000 in
theorem m_at (l : Launch) (G : kG) (x : Nat) (y : Nat) (hx12 : x < 12) (hy10 : y < 10) : kM l G yX4_at wsX4_at ({ frames := 0, cells := 0, slots := 0, locals := 0 } : Room) [.int (nI x), .int (nI y)] [] (kQi G [] (fun (r : Int32) (_ : Unit) => r = nI (atN x y)) (fun (_ : Unit) => [])) := by
  refine k_ofW (cc := cX4_at) (maxL := 2) (rt := (some .int)) (by decide) rfl (Nat.le_of_ble_eq_true rfl) ?_
  intro p e s m args below meth c A ls Qs H locs hQ hAe hx hb hr hml hts hown hlocks hin hK hZ hP hD hS hA hl
  have hown : s.vm.findClass RX4 = some m.cls := hown
  have hl : lv_has ls 2 [(0, .int (nI x)), (1, .int (nI y))] := hl
  refine lv_iload_n hx hb dX4_at_0 rfl (lv_at hl 0 rfl) ?_
  refine lv_bipush (v := nI 6) hx hb dX4_at_1 (by decide) ?_
  refine lv_icmp_ge (tgt := 15) hx hb dX4_at_3 (by decide) (fun c_3 => ?_) (fun c_3 => ?_)
  · have c_3 : 6 ≤ x := (nI_leI (a := 6) (b := x) (by omega) (by omega)).mp c_3
    refine lv_bipush (v := nI 60) hx hb dX4_at_15 (by decide) ?_
    refine lv_bipush (v := nI 6) hx hb dX4_at_17 (by decide) ?_
    refine lv_iload_n hx hb dX4_at_19 rfl (lv_at hl 1 rfl) ?_
    refine lv_imul hx hb dX4_at_20 ?_
    refine lv_topi (fun y_1 hy_1 => ?_)
    obtain rfl : y_1 = nI (6 * y) := hy_1.trans (pk_mul 6 y)
    refine lv_iadd hx hb dX4_at_21 ?_
    refine lv_topi (fun y_2 hy_2 => ?_)
    obtain rfl : y_2 = nI (60 + (6 * y)) := hy_2.trans (nI_add 60 (6 * y))
    refine lv_bipush (v := nI 12) hx hb dX4_at_22 (by decide) ?_
    refine lv_iadd hx hb dX4_at_24 ?_
    refine lv_topi (fun y_3 hy_3 => ?_)
    obtain rfl : y_3 = nI ((60 + (6 * y)) + 12) := hy_3.trans (nI_add (60 + (6 * y)) 12)
    refine lv_iconst (v := nI 1) hx hb dX4_at_25 (by decide) ?_
    refine lv_isub hx hb dX4_at_26 ?_
    refine lv_topi (fun y_4 hy_4 => ?_)
    obtain rfl : y_4 = nI (((60 + (6 * y)) + 12) - 1) := hy_4.trans (pk_sub (a := ((60 + (6 * y)) + 12)) (b := 1) (by omega))
    refine lv_iload_n hx hb dX4_at_27 rfl (lv_at hl 0 rfl) ?_
    refine lv_isub hx hb dX4_at_28 ?_
    refine lv_topi (fun y_5 hy_5 => ?_)
    obtain rfl : y_5 = nI ((((60 + (6 * y)) + 12) - 1) - x) := hy_5.trans (pk_sub (a := (((60 + (6 * y)) + 12) - 1)) (b := x) (by omega))
    exact k_iret (ws := []) (()) hx hb hr hlocks hP hD hS hAe hQ (Nat.le_of_ble_eq_true rfl) (Nat.le_of_ble_eq_true rfl) dX4_at_29 (rfl) (by unfold atN; first | (rw [if_pos (by omega)]; done) | (rw [if_neg (by omega)]; done))
  · have c_3 : ¬ (6 ≤ x) := fun h9 => c_3 ((nI_leI (a := 6) (b := x) (by omega) (by omega)).mpr h9)
    refine lv_bipush (v := nI 6) hx hb dX4_at_6 (by decide) ?_
    refine lv_iload_n hx hb dX4_at_8 rfl (lv_at hl 1 rfl) ?_
    refine lv_imul hx hb dX4_at_9 ?_
    refine lv_topi (fun y_6 hy_6 => ?_)
    obtain rfl : y_6 = nI (6 * y) := hy_6.trans (pk_mul 6 y)
    refine lv_iload_n hx hb dX4_at_10 rfl (lv_at hl 0 rfl) ?_
    refine lv_iadd hx hb dX4_at_11 ?_
    refine lv_topi (fun y_7 hy_7 => ?_)
    obtain rfl : y_7 = nI ((6 * y) + x) := hy_7.trans (nI_add (6 * y) x)
    refine lv_goto (tgt := 29) hx hb dX4_at_12 (by decide) ?_
    exact k_iret (ws := []) (()) hx hb hr hlocks hP hD hS hAe hQ (Nat.le_of_ble_eq_true rfl) (Nat.le_of_ble_eq_true rfl) dX4_at_29 (rfl) (by unfold atN; first | (rw [if_pos (by omega)]; done) | (rw [if_neg (by omega)]; done))
set_option maxHeartbeats 4000000 in
set_option maxRecDepth 100000 in
theorem m_xOf (l : Launch) (G : kG) (w : Nat) (k : Nat) (hw2 : w < 2) (hk : k < 60) : kM l G yX4_xOf wsX4_xOf ({ frames := 0, cells := 0, slots := 0, locals := 0 } : Room) [.int (nI w), .int (nI k)] [] (kQi G [] (fun (r : Int32) (_ : Unit) => r = nI (if w = 0 then k % 6 else 11 - k % 6)) (fun (_ : Unit) => [])) := by
  refine k_ofW (cc := cX4_xOf) (maxL := 2) (rt := (some .int)) (by decide) rfl (Nat.le_of_ble_eq_true rfl) ?_
  intro p e s m args below meth c A ls Qs H locs hQ hAe hx hb hr hml hts hown hlocks hin hK hZ hP hD hS hA hl
  have hown : s.vm.findClass RX4 = some m.cls := hown
  have hl : lv_has ls 2 [(0, .int (nI w)), (1, .int (nI k))] := hl
  refine lv_iload_n hx hb dX4_xOf_0 rfl (lv_at hl 0 rfl) ?_
  refine lv_if_ne (tgt := 11) hx hb dX4_xOf_1 (by decide) (fun c_1 => ?_) (fun c_1 => ?_)
  · have c_1 : ¬ (w = 0) := fun h9 => c_1 ((k_eq0 (a := w) (by omega)).mpr h9)
    refine lv_bipush (v := nI 11) hx hb dX4_xOf_11 (by decide) ?_
    refine lv_iload_n hx hb dX4_xOf_13 rfl (lv_at hl 1 rfl) ?_
    refine lv_bipush (v := nI 6) hx hb dX4_xOf_14 (by decide) ?_
    refine lv_irem hx hb dX4_xOf_16 (by first | decide | (intro h; exact absurd ((nI_eq (by omega) (by omega)).mp h) (by omega))) ?_
    refine lv_topi (fun y_1 hy_1 => ?_)
    obtain rfl : y_1 = nI (k % 6) := hy_1.trans (pk_rem (a := k) (d := 6) (by omega) (by omega) (by omega))
    refine lv_isub hx hb dX4_xOf_17 ?_
    refine lv_topi (fun y_2 hy_2 => ?_)
    obtain rfl : y_2 = nI (11 - (k % 6)) := hy_2.trans (pk_sub (a := 11) (b := (k % 6)) (by omega))
    exact k_iret (ws := []) (()) hx hb hr hlocks hP hD hS hAe hQ (Nat.le_of_ble_eq_true rfl) (Nat.le_of_ble_eq_true rfl) dX4_xOf_18 (rfl) (by first | (rw [if_pos (by omega)]; done) | (rw [if_neg (by omega)]; done))
  · have c_1 : w = 0 := (k_eq0 (a := w) (by omega)).mp c_1
    refine lv_iload_n hx hb dX4_xOf_4 rfl (lv_at hl 1 rfl) ?_
    refine lv_bipush (v := nI 6) hx hb dX4_xOf_5 (by decide) ?_
    refine lv_irem hx hb dX4_xOf_7 (by first | decide | (intro h; exact absurd ((nI_eq (by omega) (by omega)).mp h) (by omega))) ?_
    refine lv_topi (fun y_3 hy_3 => ?_)
    obtain rfl : y_3 = nI (k % 6) := hy_3.trans (pk_rem (a := k) (d := 6) (by omega) (by omega) (by omega))
    refine lv_goto (tgt := 18) hx hb dX4_xOf_8 (by decide) ?_
    exact k_iret (ws := []) (()) hx hb hr hlocks hP hD hS hAe hQ (Nat.le_of_ble_eq_true rfl) (Nat.le_of_ble_eq_true rfl) dX4_xOf_18 (rfl) (by first | (rw [if_pos (by omega)]; done) | (rw [if_neg (by omega)]; done))
set_option maxHeartbeats 4000000 in
set_option maxRecDepth 100000 in
theorem m_colour (l : Launch) (G : kG) (q0 : Nat) (q1 : Nat) (q2 : Nat) (q3 : Nat) (q4 : Nat) (q5 : Nat) (q6 : Nat) (w0 : Wv) (w1 : Wv) (bf : Nat → Nat) (ho : Nat) (un : Nat) (ru : Nat → Nat) (th : Nat) (x : Nat) (y : Nat) (hx12 : x < 12) (hy10 : y < 10) (h0 : wOk w0) (h1 : wOk w1) (hru : ruOk w0 w1 ru) : kM l G yX4_colour wsX4_colour ({ frames := 1, cells := 0, slots := 0, locals := 22 } : Room) [.ref q0, .int (nI x), .int (nI y)] [kO q0 4 [.int (nI th), .ref q1, .ref q2, .ref q3, .ref q4, .ref q5, .ref q6], kC G q1 8 (nR (peF w0 w1)), kC G q2 120 (nR (knF w0 w1)), kC G q3 120 (nR (plF w0 w1)), kC G q4 80 (nR ru), kC G q5 8 (nR bf), kC G q6 2 (nR (nuF ho un))] (kQi G [kO q0 4 [.int (nI th), .ref q1, .ref q2, .ref q3, .ref q4, .ref q5, .ref q6], kC G q1 8 (nR (peF w0 w1)), kC G q2 120 (nR (knF w0 w1)), kC G q3 120 (nR (plF w0 w1)), kC G q4 80 (nR ru), kC G q5 8 (nR bf), kC G q6 2 (nR (nuF ho un))] (fun (r : Int32) (_ : Unit) => r = ktN w0 w1 x y) (fun (_ : Unit) => [kO q0 4 [.int (nI th), .ref q1, .ref q2, .ref q3, .ref q4, .ref q5, .ref q6], kC G q1 8 (nR (peF w0 w1)), kC G q2 120 (nR (knF w0 w1)), kC G q3 120 (nR (plF w0 w1)), kC G q4 80 (nR ru), kC G q5 8 (nR bf), kC G q6 2 (nR (nuF ho un))])) := by
  refine k_ofW (cc := cX4_colour) (maxL := 4) (rt := (some .int)) (by decide) rfl (Nat.le_of_ble_eq_true rfl) ?_
  intro p e s m args below meth c A ls Qs H locs hQ hAe hx hb hr hml hts hown hlocks hin hK hZ hP hD hS hA hl
  have hown : s.vm.findClass RX4 = some m.cls := hown
  have hl : lv_has ls 4 [(0, .ref q0), (1, .int (nI x)), (2, .int (nI y))] := hl
  have m0b : vM w0 ≤ 60 := h0.2.2.2.1
  have m1b : vM w1 ≤ 60 := h1.2.2.2.1
  have t0b : vT w0 ≤ 20 := h0.2.2.1
  have t1b : vT w1 ≤ 20 := h1.2.2.1
  have pb0 : ∀ i, i < 60 → vP w0 i < 8 := h0.2.2.2.2.1
  have pb1 : ∀ i, i < 60 → vP w1 i < 8 := h1.2.2.2.2.1
  have kb0 : ∀ i, i < 60 → vK w0 i < 8 := h0.2.2.2.2.2.1
  have kb1 : ∀ i, i < 60 → vK w1 i < 8 := h1.2.2.2.2.2.1
  have rk0 := hru.1
  have rk1 := hru.2
  have hpl : plN x y < 60 := plN_lt hx12 hy10
  have hq_0 : ∀ w ∈ wsX40, w ∈ wsX4_colour := by decide +kernel
  have hq_1 : (Cond.fieldLink RX4 13 "KnotRugsModel" "knots" "[I").before args s = true := hts _ (by decide +kernel)
  rcases Nat.lt_or_ge x 6 with hx6 | hx6
  · skip
    refine lv_iload_n hx hb dX4_colour_0 rfl (lv_at hl 1 rfl) ?_
    refine lv_bipush (v := nI 6) hx hb dX4_colour_1 (by decide) ?_
    refine lv_idiv hx hb dX4_colour_3 (by first | decide | (intro h; exact absurd ((nI_eq (by omega) (by omega)).mp h) (by omega))) ?_
    refine lv_topi (fun y_1 hy_1 => ?_)
    obtain rfl : y_1 = nI 0 := hy_1.trans ((pk_div (a := x) (d := 6) (by omega) (by omega) (by omega)).trans (congrArg nI (by omega : x / 6 = 0)))
    refine lv_istore_n (lv' := [(3, .int (nI 0)), (0, .ref q0), (1, .int (nI x)), (2, .int (nI y))]) hx hb dX4_colour_4 rfl hl (by decide) rfl (fun ls hl => ?_)
    refine lv_iload_n hx hb dX4_colour_5 rfl (lv_at hl 2 rfl) ?_
    refine lv_iload_n hx hb dX4_colour_6 rfl (lv_at hl 3 rfl) ?_
    refine k_calli (fun _ => [kO q0 4 [.int (nI th), .ref q1, .ref q2, .ref q3, .ref q4, .ref q5, .ref q6], kC G q1 8 (nR (peF w0 w1)), kC G q2 120 (nR (knF w0 w1)), kC G q3 120 (nR (plF w0 w1)), kC G q4 80 (nR ru), kC G q5 8 (nR bf), kC G q6 2 (nR (nuF ho un))]) [kO q0 4 [.int (nI th), .ref q1, .ref q2, .ref q3, .ref q4, .ref q5, .ref q6], kC G q1 8 (nR (peF w0 w1)), kC G q2 120 (nR (knF w0 w1)), kC G q3 120 (nR (plF w0 w1)), kC G q4 80 (nR ru), kC G q5 8 (nR bf), kC G q6 2 (nR (nuF ho un))] (k_runS (As := [.int (nI x), .int (nI y)]) (rest := []) (wc := []) ⟨hx, hb, hml, hown, hts⟩ (m_at l G x y hx12 hy10) (va_cwS 2 hts gX4_colour_X4_at rfl rfl rfl (by decide +kernel) ⟨Nat.le_of_ble_eq_true rfl, Nat.le_of_ble_eq_true rfl⟩) hK hZ hP hD hS hA [] rfl rfl rfl hl.1 rfl (Nat.le_of_ble_eq_true rfl) dX4_colour_7 ⟨Nat.le_of_ble_eq_true rfl, Nat.le_of_ble_eq_true rfl⟩) hP hD hS hA [] [0, 1, 2, 3, 4, 5, 6] [0, 1, 2, 3, 4, 5, 6] rfl rfl rfl (by decide) (fun _ => rfl) rfl (fun r_7 u_7 H locs hp_7 hP hD hS => ?_)
    have hp_7 : r_7 = nI (plN x y) := hp_7.trans (congrArg nI (atN_0 (by omega)))
    subst hp_7
    refine lv_bipush (v := nI 60) hx hb dX4_colour_10 (by decide) ?_
    refine lv_iload_n hx hb dX4_colour_12 rfl (lv_at hl 0 rfl) ?_
    refine lv_imul hx hb dX4_colour_13 ?_
    refine lv_topi (fun y_2 hy_2 => ?_)
    obtain rfl : y_2 = nI 0 := hy_2.trans (by decide)
    refine lv_isub hx hb dX4_colour_14 ?_
    refine lv_topi (fun y_3 hy_3 => ?_)
    obtain rfl : y_3 = nI ((plN x y) - 0) := hy_3.trans (pk_sub (a := (plN x y)) (b := 0) (by omega))
    refine lv_aload_n hx hb dX4_colour_15 rfl (lv_at hl 1 rfl) ?_
    refine lv_iload_n hx hb dX4_colour_16 rfl (lv_at hl 0 rfl) ?_
    refine lv_iconst (v := nI 1) hx hb dX4_colour_17 (by decide) ?_
    refine k_calli (fun _ => [kO q0 4 [.int (nI th), .ref q1, .ref q2, .ref q3, .ref q4, .ref q5, .ref q6], kC G q1 8 (nR (peF w0 w1)), kC G q2 120 (nR (knF w0 w1)), kC G q3 120 (nR (plF w0 w1)), kC G q4 80 (nR ru), kC G q5 8 (nR bf), kC G q6 2 (nR (nuF ho un))]) [kC G q2 120 (nR (knF w0 w1)), kC G q3 120 (nR (plF w0 w1)), kC G q4 80 (nR ru), kC G q5 8 (nR bf), kC G q6 2 (nR (nuF ho un))] (k_runV (As := [.int (nI 0), .int (nI 1)]) (rest := [.int (nI ((plN x y) - 0))]) (wc := [kO q0 4 [.int (nI th), .ref q1, .ref q2, .ref q3, .ref q4, .ref q5, .ref q6], kC G q1 8 (nR (peF w0 w1))]) ⟨hx, hb, hml, hown, hts⟩ (m_pe l G q0 q1 q2 q3 q4 q5 q6 th (peF w0 w1) 0 1 (by decide) (by decide)) (cwV 2 hts gX4_colour_X4_pe rfl rfl rfl (by decide +kernel) ⟨Nat.le_of_ble_eq_true rfl, Nat.le_of_ble_eq_true rfl⟩) hK hZ hP hD hS hA [0, 1] rfl rfl 0 4 rfl rfl rfl rfl hl.1 rfl (Nat.le_of_ble_eq_true rfl) dX4_colour_18 ⟨Nat.le_of_ble_eq_true rfl, Nat.le_of_ble_eq_true rfl⟩) hP hD hS hA [0, 1] [2, 3, 4, 5, 6] [5, 6, 0, 1, 2, 3, 4] rfl rfl rfl (by decide) (fun _ => rfl) rfl (fun r_18 u_18 H locs hp_18 hP hD hS => ?_)
    have hp_18 : r_18 = nI (vM w0) := hp_18
    subst hp_18
    refine lv_icmp_ge (tgt := 37) hx hb dX4_colour_21 (by decide) (fun c_21 => ?_) (fun c_21 => ?_)
    · have c_21 : (vM w0) ≤ ((plN x y) - 0) := (nI_leI (a := (vM w0)) (b := ((plN x y) - 0)) (by omega) (by omega)).mp c_21
      refine lv_iconst (v := (-1)) hx hb dX4_colour_37 (by decide) ?_
      exact k_iret (ws := [kO q0 4 [.int (nI th), .ref q1, .ref q2, .ref q3, .ref q4, .ref q5, .ref q6], kC G q1 8 (nR (peF w0 w1)), kC G q2 120 (nR (knF w0 w1)), kC G q3 120 (nR (plF w0 w1)), kC G q4 80 (nR ru), kC G q5 8 (nR bf), kC G q6 2 (nR (nuF ho un))]) (()) hx hb hr hlocks hP hD hS hAe hQ (Nat.le_of_ble_eq_true rfl) (Nat.le_of_ble_eq_true rfl) dX4_colour_38 (rfl) (by unfold ktN rgW; rw [if_pos hx6]; exact kaN_f (by omega))
    · have c_21 : ¬ ((vM w0) ≤ ((plN x y) - 0)) := fun h9 => c_21 ((nI_leI (a := (vM w0)) (b := ((plN x y) - 0)) (by omega) (by omega)).mpr h9)
      refine lv_aload_n hx hb dX4_colour_24 rfl (lv_at hl 1 rfl) ?_
      refine va_get (D := G.1) (ci := 4) (v := .ref q2) (C := RX4) (T := TX4) (N := 7) hx hb hts hq_0 hown hK.1 hP 0 rfl rfl 2 (by decide) hq_1 (fun _ h9 => h9) rfl dX4_colour_25 ?_
      refine lv_iload_n hx hb dX4_colour_28 rfl (lv_at hl 2 rfl) ?_
      refine lv_iload_n hx hb dX4_colour_29 rfl (lv_at hl 3 rfl) ?_
      refine k_calli (fun _ => [kO q0 4 [.int (nI th), .ref q1, .ref q2, .ref q3, .ref q4, .ref q5, .ref q6], kC G q1 8 (nR (peF w0 w1)), kC G q2 120 (nR (knF w0 w1)), kC G q3 120 (nR (plF w0 w1)), kC G q4 80 (nR ru), kC G q5 8 (nR bf), kC G q6 2 (nR (nuF ho un))]) [kO q0 4 [.int (nI th), .ref q1, .ref q2, .ref q3, .ref q4, .ref q5, .ref q6], kC G q1 8 (nR (peF w0 w1)), kC G q2 120 (nR (knF w0 w1)), kC G q3 120 (nR (plF w0 w1)), kC G q4 80 (nR ru), kC G q5 8 (nR bf), kC G q6 2 (nR (nuF ho un))] (k_runS (As := [.int (nI x), .int (nI y)]) (rest := [.ref q2]) (wc := []) ⟨hx, hb, hml, hown, hts⟩ (m_at l G x y hx12 hy10) (va_cwS 2 hts gX4_colour_X4_at rfl rfl rfl (by decide +kernel) ⟨Nat.le_of_ble_eq_true rfl, Nat.le_of_ble_eq_true rfl⟩) hK hZ hP hD hS hA [] rfl rfl rfl hl.1 rfl (Nat.le_of_ble_eq_true rfl) dX4_colour_30 ⟨Nat.le_of_ble_eq_true rfl, Nat.le_of_ble_eq_true rfl⟩) hP hD hS hA [] [0, 1, 2, 3, 4, 5, 6] [0, 1, 2, 3, 4, 5, 6] rfl rfl rfl (by decide) (fun _ => rfl) rfl (fun r_30 u_30 H locs hp_30 hP hD hS => ?_)
      have hp_30 : r_30 = nI (plN x y) := hp_30.trans (congrArg nI (atN_0 (by omega)))
      subst hp_30
      have hi_4 : (plN x y) < 120 := by omega
      refine va_iald (D := G.1) hx hb hK.1 hP 2 0 rfl rfl (vp_in_nI hi_4 (by omega)) dX4_colour_33 ?_
      refine lv_topi (fun y_5 hy_5 => ?_)
      obtain rfl : y_5 = nI ((knF w0 w1) (plN x y)) := hy_5.trans (nR_at (by omega))
      refine lv_topi (fun y_6 hy_6 => ?_)
      obtain rfl : y_6 = nI (vK w0 (plN x y)) := hy_6.trans (congrArg nI (knF_lo (by omega)))
      refine lv_goto (tgt := 38) hx hb dX4_colour_34 (by decide) ?_
      exact k_iret (ws := [kO q0 4 [.int (nI th), .ref q1, .ref q2, .ref q3, .ref q4, .ref q5, .ref q6], kC G q1 8 (nR (peF w0 w1)), kC G q2 120 (nR (knF w0 w1)), kC G q3 120 (nR (plF w0 w1)), kC G q4 80 (nR ru), kC G q5 8 (nR bf), kC G q6 2 (nR (nuF ho un))]) (()) hx hb hr hlocks hP hD hS hAe hQ (Nat.le_of_ble_eq_true rfl) (Nat.le_of_ble_eq_true rfl) dX4_colour_38 (rfl) (by unfold ktN rgW; rw [if_pos hx6]; exact kaN_t (by omega))
  · skip
    refine lv_iload_n hx hb dX4_colour_0 rfl (lv_at hl 1 rfl) ?_
    refine lv_bipush (v := nI 6) hx hb dX4_colour_1 (by decide) ?_
    refine lv_idiv hx hb dX4_colour_3 (by first | decide | (intro h; exact absurd ((nI_eq (by omega) (by omega)).mp h) (by omega))) ?_
    refine lv_topi (fun y_7 hy_7 => ?_)
    obtain rfl : y_7 = nI 1 := hy_7.trans ((pk_div (a := x) (d := 6) (by omega) (by omega) (by omega)).trans (congrArg nI (by omega : x / 6 = 1)))
    refine lv_istore_n (lv' := [(3, .int (nI 1)), (0, .ref q0), (1, .int (nI x)), (2, .int (nI y))]) hx hb dX4_colour_4 rfl hl (by decide) rfl (fun ls hl => ?_)
    refine lv_iload_n hx hb dX4_colour_5 rfl (lv_at hl 2 rfl) ?_
    refine lv_iload_n hx hb dX4_colour_6 rfl (lv_at hl 3 rfl) ?_
    refine k_calli (fun _ => [kO q0 4 [.int (nI th), .ref q1, .ref q2, .ref q3, .ref q4, .ref q5, .ref q6], kC G q1 8 (nR (peF w0 w1)), kC G q2 120 (nR (knF w0 w1)), kC G q3 120 (nR (plF w0 w1)), kC G q4 80 (nR ru), kC G q5 8 (nR bf), kC G q6 2 (nR (nuF ho un))]) [kO q0 4 [.int (nI th), .ref q1, .ref q2, .ref q3, .ref q4, .ref q5, .ref q6], kC G q1 8 (nR (peF w0 w1)), kC G q2 120 (nR (knF w0 w1)), kC G q3 120 (nR (plF w0 w1)), kC G q4 80 (nR ru), kC G q5 8 (nR bf), kC G q6 2 (nR (nuF ho un))] (k_runS (As := [.int (nI x), .int (nI y)]) (rest := []) (wc := []) ⟨hx, hb, hml, hown, hts⟩ (m_at l G x y hx12 hy10) (va_cwS 2 hts gX4_colour_X4_at rfl rfl rfl (by decide +kernel) ⟨Nat.le_of_ble_eq_true rfl, Nat.le_of_ble_eq_true rfl⟩) hK hZ hP hD hS hA [] rfl rfl rfl hl.1 rfl (Nat.le_of_ble_eq_true rfl) dX4_colour_7 ⟨Nat.le_of_ble_eq_true rfl, Nat.le_of_ble_eq_true rfl⟩) hP hD hS hA [] [0, 1, 2, 3, 4, 5, 6] [0, 1, 2, 3, 4, 5, 6] rfl rfl rfl (by decide) (fun _ => rfl) rfl (fun r_7 u_7 H locs hp_7 hP hD hS => ?_)
    have hp_7 : r_7 = nI (60 + plN x y) := hp_7.trans (congrArg nI (atN_1 (by omega) (by omega)))
    subst hp_7
    refine lv_bipush (v := nI 60) hx hb dX4_colour_10 (by decide) ?_
    refine lv_iload_n hx hb dX4_colour_12 rfl (lv_at hl 0 rfl) ?_
    refine lv_imul hx hb dX4_colour_13 ?_
    refine lv_topi (fun y_8 hy_8 => ?_)
    obtain rfl : y_8 = nI 60 := hy_8.trans (by decide)
    refine lv_isub hx hb dX4_colour_14 ?_
    refine lv_topi (fun y_9 hy_9 => ?_)
    obtain rfl : y_9 = nI ((60 + plN x y) - 60) := hy_9.trans (pk_sub (a := (60 + plN x y)) (b := 60) (by omega))
    refine lv_aload_n hx hb dX4_colour_15 rfl (lv_at hl 1 rfl) ?_
    refine lv_iload_n hx hb dX4_colour_16 rfl (lv_at hl 0 rfl) ?_
    refine lv_iconst (v := nI 1) hx hb dX4_colour_17 (by decide) ?_
    refine k_calli (fun _ => [kO q0 4 [.int (nI th), .ref q1, .ref q2, .ref q3, .ref q4, .ref q5, .ref q6], kC G q1 8 (nR (peF w0 w1)), kC G q2 120 (nR (knF w0 w1)), kC G q3 120 (nR (plF w0 w1)), kC G q4 80 (nR ru), kC G q5 8 (nR bf), kC G q6 2 (nR (nuF ho un))]) [kC G q2 120 (nR (knF w0 w1)), kC G q3 120 (nR (plF w0 w1)), kC G q4 80 (nR ru), kC G q5 8 (nR bf), kC G q6 2 (nR (nuF ho un))] (k_runV (As := [.int (nI 1), .int (nI 1)]) (rest := [.int (nI ((60 + plN x y) - 60))]) (wc := [kO q0 4 [.int (nI th), .ref q1, .ref q2, .ref q3, .ref q4, .ref q5, .ref q6], kC G q1 8 (nR (peF w0 w1))]) ⟨hx, hb, hml, hown, hts⟩ (m_pe l G q0 q1 q2 q3 q4 q5 q6 th (peF w0 w1) 1 1 (by decide) (by decide)) (cwV 2 hts gX4_colour_X4_pe rfl rfl rfl (by decide +kernel) ⟨Nat.le_of_ble_eq_true rfl, Nat.le_of_ble_eq_true rfl⟩) hK hZ hP hD hS hA [0, 1] rfl rfl 0 4 rfl rfl rfl rfl hl.1 rfl (Nat.le_of_ble_eq_true rfl) dX4_colour_18 ⟨Nat.le_of_ble_eq_true rfl, Nat.le_of_ble_eq_true rfl⟩) hP hD hS hA [0, 1] [2, 3, 4, 5, 6] [5, 6, 0, 1, 2, 3, 4] rfl rfl rfl (by decide) (fun _ => rfl) rfl (fun r_18 u_18 H locs hp_18 hP hD hS => ?_)
    have hp_18 : r_18 = nI (vM w1) := hp_18
    subst hp_18
    refine lv_icmp_ge (tgt := 37) hx hb dX4_colour_21 (by decide) (fun c_21 => ?_) (fun c_21 => ?_)
    · have c_21 : (vM w1) ≤ ((60 + plN x y) - 60) := (nI_leI (a := (vM w1)) (b := ((60 + plN x y) - 60)) (by omega) (by omega)).mp c_21
      refine lv_iconst (v := (-1)) hx hb dX4_colour_37 (by decide) ?_
      exact k_iret (ws := [kO q0 4 [.int (nI th), .ref q1, .ref q2, .ref q3, .ref q4, .ref q5, .ref q6], kC G q1 8 (nR (peF w0 w1)), kC G q2 120 (nR (knF w0 w1)), kC G q3 120 (nR (plF w0 w1)), kC G q4 80 (nR ru), kC G q5 8 (nR bf), kC G q6 2 (nR (nuF ho un))]) (()) hx hb hr hlocks hP hD hS hAe hQ (Nat.le_of_ble_eq_true rfl) (Nat.le_of_ble_eq_true rfl) dX4_colour_38 (rfl) (by unfold ktN rgW; rw [if_neg (by omega)]; exact kaN_f (by omega))
    · have c_21 : ¬ ((vM w1) ≤ ((60 + plN x y) - 60)) := fun h9 => c_21 ((nI_leI (a := (vM w1)) (b := ((60 + plN x y) - 60)) (by omega) (by omega)).mpr h9)
      refine lv_aload_n hx hb dX4_colour_24 rfl (lv_at hl 1 rfl) ?_
      refine va_get (D := G.1) (ci := 4) (v := .ref q2) (C := RX4) (T := TX4) (N := 7) hx hb hts hq_0 hown hK.1 hP 0 rfl rfl 2 (by decide) hq_1 (fun _ h9 => h9) rfl dX4_colour_25 ?_
      refine lv_iload_n hx hb dX4_colour_28 rfl (lv_at hl 2 rfl) ?_
      refine lv_iload_n hx hb dX4_colour_29 rfl (lv_at hl 3 rfl) ?_
      refine k_calli (fun _ => [kO q0 4 [.int (nI th), .ref q1, .ref q2, .ref q3, .ref q4, .ref q5, .ref q6], kC G q1 8 (nR (peF w0 w1)), kC G q2 120 (nR (knF w0 w1)), kC G q3 120 (nR (plF w0 w1)), kC G q4 80 (nR ru), kC G q5 8 (nR bf), kC G q6 2 (nR (nuF ho un))]) [kO q0 4 [.int (nI th), .ref q1, .ref q2, .ref q3, .ref q4, .ref q5, .ref q6], kC G q1 8 (nR (peF w0 w1)), kC G q2 120 (nR (knF w0 w1)), kC G q3 120 (nR (plF w0 w1)), kC G q4 80 (nR ru), kC G q5 8 (nR bf), kC G q6 2 (nR (nuF ho un))] (k_runS (As := [.int (nI x), .int (nI y)]) (rest := [.ref q2]) (wc := []) ⟨hx, hb, hml, hown, hts⟩ (m_at l G x y hx12 hy10) (va_cwS 2 hts gX4_colour_X4_at rfl rfl rfl (by decide +kernel) ⟨Nat.le_of_ble_eq_true rfl, Nat.le_of_ble_eq_true rfl⟩) hK hZ hP hD hS hA [] rfl rfl rfl hl.1 rfl (Nat.le_of_ble_eq_true rfl) dX4_colour_30 ⟨Nat.le_of_ble_eq_true rfl, Nat.le_of_ble_eq_true rfl⟩) hP hD hS hA [] [0, 1, 2, 3, 4, 5, 6] [0, 1, 2, 3, 4, 5, 6] rfl rfl rfl (by decide) (fun _ => rfl) rfl (fun r_30 u_30 H locs hp_30 hP hD hS => ?_)
      have hp_30 : r_30 = nI (60 + plN x y) := hp_30.trans (congrArg nI (atN_1 (by omega) (by omega)))
      subst hp_30
      have hi_10 : (60 + plN x y) < 120 := by omega
      refine va_iald (D := G.1) hx hb hK.1 hP 2 0 rfl rfl (vp_in_nI hi_10 (by omega)) dX4_colour_33 ?_
      refine lv_topi (fun y_11 hy_11 => ?_)
      obtain rfl : y_11 = nI ((knF w0 w1) (60 + plN x y)) := hy_11.trans (nR_at (by omega))
      refine lv_topi (fun y_12 hy_12 => ?_)
      obtain rfl : y_12 = nI (vK w1 (plN x y)) := hy_12.trans (congrArg nI (knF_hi))
      refine lv_goto (tgt := 38) hx hb dX4_colour_34 (by decide) ?_
      exact k_iret (ws := [kO q0 4 [.int (nI th), .ref q1, .ref q2, .ref q3, .ref q4, .ref q5, .ref q6], kC G q1 8 (nR (peF w0 w1)), kC G q2 120 (nR (knF w0 w1)), kC G q3 120 (nR (plF w0 w1)), kC G q4 80 (nR ru), kC G q5 8 (nR bf), kC G q6 2 (nR (nuF ho un))]) (()) hx hb hr hlocks hP hD hS hAe hQ (Nat.le_of_ble_eq_true rfl) (Nat.le_of_ble_eq_true rfl) dX4_colour_38 (rfl) (by unfold ktN rgW; rw [if_neg (by omega)]; exact kaN_t (by omega))
set_option maxHeartbeats 4000000 in
set_option maxRecDepth 100000 in
theorem m_told0 (l : Launch) (G : kG) (q0 : Nat) (q1 : Nat) (q2 : Nat) (q3 : Nat) (q4 : Nat) (q5 : Nat) (q6 : Nat) (w0 : Wv) (w1 : Wv) (bf : Nat → Nat) (ho : Nat) (un : Nat) (ru : Nat → Nat) (th : Nat) (h0 : wOk w0) (h1 : wOk w1) (hru : ruOk w0 w1 ru) : kM l G yX4_told wsX4_told ({ frames := 1, cells := 0, slots := 0, locals := 22 } : Room) [.ref q0, .int (nI 0)] [kO q0 4 [.int (nI th), .ref q1, .ref q2, .ref q3, .ref q4, .ref q5, .ref q6], kC G q1 8 (nR (peF w0 w1)), kC G q2 120 (nR (knF w0 w1)), kC G q3 120 (nR (plF w0 w1)), kC G q4 80 (nR ru), kC G q5 8 (nR bf), kC G q6 2 (nR (nuF ho un))] (kQi G [kO q0 4 [.int (nI th), .ref q1, .ref q2, .ref q3, .ref q4, .ref q5, .ref q6], kC G q1 8 (nR (peF w0 w1)), kC G q2 120 (nR (knF w0 w1)), kC G q3 120 (nR (plF w0 w1)), kC G q4 80 (nR ru), kC G q5 8 (nR bf), kC G q6 2 (nR (nuF ho un))] (fun (r : Int32) (_ : Unit) => r = nI (sumN (vN w0) (vT w0))) (fun (_ : Unit) => [kO q0 4 [.int (nI th), .ref q1, .ref q2, .ref q3, .ref q4, .ref q5, .ref q6], kC G q1 8 (nR (peF w0 w1)), kC G q2 120 (nR (knF w0 w1)), kC G q3 120 (nR (plF w0 w1)), kC G q4 80 (nR ru), kC G q5 8 (nR bf), kC G q6 2 (nR (nuF ho un))])) := by
  refine k_ofW (cc := cX4_told) (maxL := 4) (rt := (some .int)) (by decide) rfl (Nat.le_of_ble_eq_true rfl) ?_
  intro p e s m args below meth c A ls Qs H locs hQ hAe hx hb hr hml hts hown hlocks hin hK hZ hP hD hS hA hl
  have hown : s.vm.findClass RX4 = some m.cls := hown
  have hl : lv_has ls 4 [(0, .ref q0), (1, .int (nI 0))] := hl
  have m0b : vM w0 ≤ 60 := h0.2.2.2.1
  have m1b : vM w1 ≤ 60 := h1.2.2.2.1
  have t0b : vT w0 ≤ 20 := h0.2.2.1
  have t1b : vT w1 ≤ 20 := h1.2.2.1
  have pb0 : ∀ i, i < 60 → vP w0 i < 8 := h0.2.2.2.2.1
  have pb1 : ∀ i, i < 60 → vP w1 i < 8 := h1.2.2.2.2.1
  have kb0 : ∀ i, i < 60 → vK w0 i < 8 := h0.2.2.2.2.2.1
  have kb1 : ∀ i, i < 60 → vK w1 i < 8 := h1.2.2.2.2.2.1
  have rk0 := hru.1
  have rk1 := hru.2
  have hq_0 : ∀ w ∈ wsX40, w ∈ wsX4_told := by decide +kernel
  have hq_1 : (Cond.fieldLink RX4 19 "KnotRugsModel" "runs" "[I").before args s = true := hts _ (by decide +kernel)
  refine lv_iconst (v := nI 0) hx hb dX4_told_0 (by decide) ?_
  refine lv_istore_n (lv' := [(2, .int (nI 0)), (0, .ref q0), (1, .int (nI 0))]) hx hb dX4_told_1 rfl hl (by decide) rfl (fun ls hl => ?_)
  refine lv_iconst (v := nI 0) hx hb dX4_told_2 (by decide) ?_
  refine lv_istore_n (lv' := [(3, .int (nI 0)), (2, .int (nI 0)), (0, .ref q0), (1, .int (nI 0))]) hx hb dX4_told_3 rfl hl (by decide) rfl (fun ls hl => ?_)
  have loop_4 : ∀ (fu_4 : Nat) (i : Nat), i ≤ vT w0 → vT w0 < i + fu_4 → ∀ (H : Heap) (locs : List Loc) (ls : Array Slot), va_P G.1 vwCl [kO q0 4 [.int (nI th), .ref q1, .ref q2, .ref q3, .ref q4, .ref q5, .ref q6], kC G q1 8 (nR (peF w0 w1)), kC G q2 120 (nR (knF w0 w1)), kC G q3 120 (nR (plF w0 w1)), kC G q4 80 (nR ru), kC G q5 8 (nR bf), kC G q6 2 (nR (nuF ho un))] H → va_D A [kO q0 4 [.int (nI th), .ref q1, .ref q2, .ref q3, .ref q4, .ref q5, .ref q6], kC G q1 8 (nR (peF w0 w1)), kC G q2 120 (nR (knF w0 w1)), kC G q3 120 (nR (plF w0 w1)), kC G q4 80 (nR ru), kC G q5 8 (nR bf), kC G q6 2 (nR (nuF ho un))] → va_S A s.heap H locs → lv_has ls 4 [(0, .ref q0), (1, .int (nI 0)), (2, .int (nI (sumN (vN w0) i))), (3, .int (nI i))] → W p l e ({ frames := 1, cells := 0, slots := 0, locals := 22 } : Room) s m args below meth c H locs 0 0 Qs (F0 m 4 ls []) := by
    intro fu_4
    induction fu_4 with
    | zero =>
      intro i hi hf
      exact absurd hf (by omega)
    | succ fu_4 ih_4 =>
      intro i hi hf H locs ls hP hD hS hl
      refine lv_iload_n hx hb dX4_told_4 rfl (lv_at hl 3 rfl) ?_
      refine lv_aload_n hx hb dX4_told_5 rfl (lv_at hl 0 rfl) ?_
      refine lv_iload_n hx hb dX4_told_6 rfl (lv_at hl 1 rfl) ?_
      refine lv_iconst (v := nI 2) hx hb dX4_told_7 (by decide) ?_
      refine k_calli (fun _ => [kO q0 4 [.int (nI th), .ref q1, .ref q2, .ref q3, .ref q4, .ref q5, .ref q6], kC G q1 8 (nR (peF w0 w1)), kC G q2 120 (nR (knF w0 w1)), kC G q3 120 (nR (plF w0 w1)), kC G q4 80 (nR ru), kC G q5 8 (nR bf), kC G q6 2 (nR (nuF ho un))]) [kC G q2 120 (nR (knF w0 w1)), kC G q3 120 (nR (plF w0 w1)), kC G q4 80 (nR ru), kC G q5 8 (nR bf), kC G q6 2 (nR (nuF ho un))] (k_runV (As := [.int (nI 0), .int (nI 2)]) (rest := [.int (nI i)]) (wc := [kO q0 4 [.int (nI th), .ref q1, .ref q2, .ref q3, .ref q4, .ref q5, .ref q6], kC G q1 8 (nR (peF w0 w1))]) ⟨hx, hb, hml, hown, hts⟩ (m_pe l G q0 q1 q2 q3 q4 q5 q6 th (peF w0 w1) 0 2 (by decide) (by decide)) (cwV 2 hts gX4_told_X4_pe rfl rfl rfl (by decide +kernel) ⟨Nat.le_of_ble_eq_true rfl, Nat.le_of_ble_eq_true rfl⟩) hK hZ hP hD hS hA [0, 1] rfl rfl 0 4 rfl rfl rfl rfl hl.1 rfl (Nat.le_of_ble_eq_true rfl) dX4_told_8 ⟨Nat.le_of_ble_eq_true rfl, Nat.le_of_ble_eq_true rfl⟩) hP hD hS hA [0, 1] [2, 3, 4, 5, 6] [5, 6, 0, 1, 2, 3, 4] rfl rfl rfl (by decide) (fun _ => rfl) rfl (fun r_8 u_8 H locs hp_8 hP hD hS => ?_)
      have hp_8 : r_8 = nI (vT w0) := hp_8
      subst hp_8
      refine lv_icmp_ge (tgt := 36) hx hb dX4_told_11 (by decide) (fun c_11 => ?_) (fun c_11 => ?_)
      · have c_11 : (vT w0) ≤ i := (nI_leI (a := (vT w0)) (b := i) (by omega) (by omega)).mp c_11
        have hi9 : i = vT w0 := by omega
        refine lv_iload_n hx hb dX4_told_36 rfl (lv_at hl 2 rfl) ?_
        exact k_iret (ws := [kO q0 4 [.int (nI th), .ref q1, .ref q2, .ref q3, .ref q4, .ref q5, .ref q6], kC G q1 8 (nR (peF w0 w1)), kC G q2 120 (nR (knF w0 w1)), kC G q3 120 (nR (plF w0 w1)), kC G q4 80 (nR ru), kC G q5 8 (nR bf), kC G q6 2 (nR (nuF ho un))]) (()) hx hb hr hlocks hP hD hS hAe hQ (Nat.le_of_ble_eq_true rfl) (Nat.le_of_ble_eq_true rfl) dX4_told_37 (rfl) (by rw [hi9])
      · have c_11 : ¬ ((vT w0) ≤ i) := fun h9 => c_11 ((nI_leI (a := (vT w0)) (b := i) (by omega) (by omega)).mpr h9)
        refine lv_iload_n hx hb dX4_told_14 rfl (lv_at hl 2 rfl) ?_
        refine lv_aload_n hx hb dX4_told_15 rfl (lv_at hl 0 rfl) ?_
        refine va_get (D := G.1) (ci := 4) (v := .ref q4) (C := RX4) (T := TX4) (N := 7) hx hb hts hq_0 hown hK.1 hP 0 rfl rfl 4 (by decide) hq_1 (fun _ h9 => h9) rfl dX4_told_16 ?_
        refine lv_aload_n hx hb dX4_told_19 rfl (lv_at hl 0 rfl) ?_
        refine lv_iload_n hx hb dX4_told_20 rfl (lv_at hl 1 rfl) ?_
        refine lv_iload_n hx hb dX4_told_21 rfl (lv_at hl 3 rfl) ?_
        refine k_calli (fun _ => [kO q0 4 [.int (nI th), .ref q1, .ref q2, .ref q3, .ref q4, .ref q5, .ref q6], kC G q1 8 (nR (peF w0 w1)), kC G q2 120 (nR (knF w0 w1)), kC G q3 120 (nR (plF w0 w1)), kC G q4 80 (nR ru), kC G q5 8 (nR bf), kC G q6 2 (nR (nuF ho un))]) [kC G q1 8 (nR (peF w0 w1)), kC G q2 120 (nR (knF w0 w1)), kC G q3 120 (nR (plF w0 w1)), kC G q4 80 (nR ru), kC G q5 8 (nR bf), kC G q6 2 (nR (nuF ho un))] (k_runV (As := [.int (nI 0), .int (nI i)]) (rest := [.ref q4, .int (nI (sumN (vN w0) i))]) (wc := [kO q0 4 [.int (nI th), .ref q1, .ref q2, .ref q3, .ref q4, .ref q5, .ref q6]]) ⟨hx, hb, hml, hown, hts⟩ (m_runAt l G q0 q1 q2 q3 q4 q5 q6 th 0 i ) (cwV 2 hts gX4_told_X4_runAt rfl rfl rfl (by decide +kernel) ⟨Nat.le_of_ble_eq_true rfl, Nat.le_of_ble_eq_true rfl⟩) hK hZ hP hD hS hA [0] rfl rfl 0 4 rfl rfl rfl rfl hl.1 rfl (Nat.le_of_ble_eq_true rfl) dX4_told_22 ⟨Nat.le_of_ble_eq_true rfl, Nat.le_of_ble_eq_true rfl⟩) hP hD hS hA [0] [1, 2, 3, 4, 5, 6] [6, 0, 1, 2, 3, 4, 5] rfl rfl rfl (by decide) (fun _ => rfl) rfl (fun r_22 u_22 H locs hp_22 hP hD hS => ?_)
        have hp_22 : r_22 = nI (2 * (0 + i)) := hp_22
        subst hp_22
        refine lv_iconst (v := nI 1) hx hb dX4_told_25 (by decide) ?_
        refine lv_iadd hx hb dX4_told_26 ?_
        refine lv_topi (fun y_1 hy_1 => ?_)
        obtain rfl : y_1 = nI ((2 * (0 + i)) + 1) := hy_1.trans (nI_add (2 * (0 + i)) 1)
        have hi_2 : ((2 * (0 + i)) + 1) < 80 := by omega
        refine va_iald (D := G.1) hx hb hK.1 hP 4 0 rfl rfl (vp_in_nI hi_2 (by omega)) dX4_told_27 ?_
        refine lv_topi (fun y_3 hy_3 => ?_)
        obtain rfl : y_3 = nI (ru ((2 * (0 + i)) + 1)) := hy_3.trans (nR_at (by omega))
        refine lv_topi (fun y_4 hy_4 => ?_)
        obtain rfl : y_4 = nI (vN w0 i) := hy_4.trans (congrArg nI (rk0 i (by omega)).2)
        refine lv_iadd hx hb dX4_told_28 ?_
        refine lv_topi (fun y_5 hy_5 => ?_)
        obtain rfl : y_5 = nI ((sumN (vN w0) i) + (vN w0 i)) := hy_5.trans (nI_add (sumN (vN w0) i) (vN w0 i))
        refine lv_istore_n (lv' := [(2, .int (nI ((sumN (vN w0) i) + (vN w0 i)))), (0, .ref q0), (1, .int (nI 0)), (3, .int (nI i))]) hx hb dX4_told_29 rfl hl (by decide) rfl (fun ls hl => ?_)
        refine lv_iinc (v := nI (i + 1)) (lv' := [(3, .int (nI (i + 1))), (2, .int (nI ((sumN (vN w0) i) + (vN w0 i)))), (0, .ref q0), (1, .int (nI 0))]) hx hb dX4_told_30 hl (k := 3) rfl (nI_add i 1) (by decide) rfl (fun ls hl => ?_)
        refine lv_goto (tgt := 4) hx hb dX4_told_33 (by decide) ?_
        exact ih_4 (i + 1) (by omega) (by omega) _ _ _ hP hD hS (lv_sub hl [2, 3, 1, 0] rfl)
  exact loop_4 (vT w0 + 1) 0 (by omega) (by omega) H locs ls hP hD hS (lv_sub hl [2, 3, 1, 0] rfl)
set_option maxHeartbeats 4000000 in
set_option maxRecDepth 100000 in
theorem m_told1 (l : Launch) (G : kG) (q0 : Nat) (q1 : Nat) (q2 : Nat) (q3 : Nat) (q4 : Nat) (q5 : Nat) (q6 : Nat) (w0 : Wv) (w1 : Wv) (bf : Nat → Nat) (ho : Nat) (un : Nat) (ru : Nat → Nat) (th : Nat) (h0 : wOk w0) (h1 : wOk w1) (hru : ruOk w0 w1 ru) : kM l G yX4_told wsX4_told ({ frames := 1, cells := 0, slots := 0, locals := 22 } : Room) [.ref q0, .int (nI 1)] [kO q0 4 [.int (nI th), .ref q1, .ref q2, .ref q3, .ref q4, .ref q5, .ref q6], kC G q1 8 (nR (peF w0 w1)), kC G q2 120 (nR (knF w0 w1)), kC G q3 120 (nR (plF w0 w1)), kC G q4 80 (nR ru), kC G q5 8 (nR bf), kC G q6 2 (nR (nuF ho un))] (kQi G [kO q0 4 [.int (nI th), .ref q1, .ref q2, .ref q3, .ref q4, .ref q5, .ref q6], kC G q1 8 (nR (peF w0 w1)), kC G q2 120 (nR (knF w0 w1)), kC G q3 120 (nR (plF w0 w1)), kC G q4 80 (nR ru), kC G q5 8 (nR bf), kC G q6 2 (nR (nuF ho un))] (fun (r : Int32) (_ : Unit) => r = nI (sumN (vN w1) (vT w1))) (fun (_ : Unit) => [kO q0 4 [.int (nI th), .ref q1, .ref q2, .ref q3, .ref q4, .ref q5, .ref q6], kC G q1 8 (nR (peF w0 w1)), kC G q2 120 (nR (knF w0 w1)), kC G q3 120 (nR (plF w0 w1)), kC G q4 80 (nR ru), kC G q5 8 (nR bf), kC G q6 2 (nR (nuF ho un))])) := by
  refine k_ofW (cc := cX4_told) (maxL := 4) (rt := (some .int)) (by decide) rfl (Nat.le_of_ble_eq_true rfl) ?_
  intro p e s m args below meth c A ls Qs H locs hQ hAe hx hb hr hml hts hown hlocks hin hK hZ hP hD hS hA hl
  have hown : s.vm.findClass RX4 = some m.cls := hown
  have hl : lv_has ls 4 [(0, .ref q0), (1, .int (nI 1))] := hl
  have m0b : vM w0 ≤ 60 := h0.2.2.2.1
  have m1b : vM w1 ≤ 60 := h1.2.2.2.1
  have t0b : vT w0 ≤ 20 := h0.2.2.1
  have t1b : vT w1 ≤ 20 := h1.2.2.1
  have pb0 : ∀ i, i < 60 → vP w0 i < 8 := h0.2.2.2.2.1
  have pb1 : ∀ i, i < 60 → vP w1 i < 8 := h1.2.2.2.2.1
  have kb0 : ∀ i, i < 60 → vK w0 i < 8 := h0.2.2.2.2.2.1
  have kb1 : ∀ i, i < 60 → vK w1 i < 8 := h1.2.2.2.2.2.1
  have rk0 := hru.1
  have rk1 := hru.2
  have hq_0 : ∀ w ∈ wsX40, w ∈ wsX4_told := by decide +kernel
  have hq_1 : (Cond.fieldLink RX4 19 "KnotRugsModel" "runs" "[I").before args s = true := hts _ (by decide +kernel)
  refine lv_iconst (v := nI 0) hx hb dX4_told_0 (by decide) ?_
  refine lv_istore_n (lv' := [(2, .int (nI 0)), (0, .ref q0), (1, .int (nI 1))]) hx hb dX4_told_1 rfl hl (by decide) rfl (fun ls hl => ?_)
  refine lv_iconst (v := nI 0) hx hb dX4_told_2 (by decide) ?_
  refine lv_istore_n (lv' := [(3, .int (nI 0)), (2, .int (nI 0)), (0, .ref q0), (1, .int (nI 1))]) hx hb dX4_told_3 rfl hl (by decide) rfl (fun ls hl => ?_)
  have loop_4 : ∀ (fu_4 : Nat) (i : Nat), i ≤ vT w1 → vT w1 < i + fu_4 → ∀ (H : Heap) (locs : List Loc) (ls : Array Slot), va_P G.1 vwCl [kO q0 4 [.int (nI th), .ref q1, .ref q2, .ref q3, .ref q4, .ref q5, .ref q6], kC G q1 8 (nR (peF w0 w1)), kC G q2 120 (nR (knF w0 w1)), kC G q3 120 (nR (plF w0 w1)), kC G q4 80 (nR ru), kC G q5 8 (nR bf), kC G q6 2 (nR (nuF ho un))] H → va_D A [kO q0 4 [.int (nI th), .ref q1, .ref q2, .ref q3, .ref q4, .ref q5, .ref q6], kC G q1 8 (nR (peF w0 w1)), kC G q2 120 (nR (knF w0 w1)), kC G q3 120 (nR (plF w0 w1)), kC G q4 80 (nR ru), kC G q5 8 (nR bf), kC G q6 2 (nR (nuF ho un))] → va_S A s.heap H locs → lv_has ls 4 [(0, .ref q0), (1, .int (nI 1)), (2, .int (nI (sumN (vN w1) i))), (3, .int (nI i))] → W p l e ({ frames := 1, cells := 0, slots := 0, locals := 22 } : Room) s m args below meth c H locs 0 0 Qs (F0 m 4 ls []) := by
    intro fu_4
    induction fu_4 with
    | zero =>
      intro i hi hf
      exact absurd hf (by omega)
    | succ fu_4 ih_4 =>
      intro i hi hf H locs ls hP hD hS hl
      refine lv_iload_n hx hb dX4_told_4 rfl (lv_at hl 3 rfl) ?_
      refine lv_aload_n hx hb dX4_told_5 rfl (lv_at hl 0 rfl) ?_
      refine lv_iload_n hx hb dX4_told_6 rfl (lv_at hl 1 rfl) ?_
      refine lv_iconst (v := nI 2) hx hb dX4_told_7 (by decide) ?_
      refine k_calli (fun _ => [kO q0 4 [.int (nI th), .ref q1, .ref q2, .ref q3, .ref q4, .ref q5, .ref q6], kC G q1 8 (nR (peF w0 w1)), kC G q2 120 (nR (knF w0 w1)), kC G q3 120 (nR (plF w0 w1)), kC G q4 80 (nR ru), kC G q5 8 (nR bf), kC G q6 2 (nR (nuF ho un))]) [kC G q2 120 (nR (knF w0 w1)), kC G q3 120 (nR (plF w0 w1)), kC G q4 80 (nR ru), kC G q5 8 (nR bf), kC G q6 2 (nR (nuF ho un))] (k_runV (As := [.int (nI 1), .int (nI 2)]) (rest := [.int (nI i)]) (wc := [kO q0 4 [.int (nI th), .ref q1, .ref q2, .ref q3, .ref q4, .ref q5, .ref q6], kC G q1 8 (nR (peF w0 w1))]) ⟨hx, hb, hml, hown, hts⟩ (m_pe l G q0 q1 q2 q3 q4 q5 q6 th (peF w0 w1) 1 2 (by decide) (by decide)) (cwV 2 hts gX4_told_X4_pe rfl rfl rfl (by decide +kernel) ⟨Nat.le_of_ble_eq_true rfl, Nat.le_of_ble_eq_true rfl⟩) hK hZ hP hD hS hA [0, 1] rfl rfl 0 4 rfl rfl rfl rfl hl.1 rfl (Nat.le_of_ble_eq_true rfl) dX4_told_8 ⟨Nat.le_of_ble_eq_true rfl, Nat.le_of_ble_eq_true rfl⟩) hP hD hS hA [0, 1] [2, 3, 4, 5, 6] [5, 6, 0, 1, 2, 3, 4] rfl rfl rfl (by decide) (fun _ => rfl) rfl (fun r_8 u_8 H locs hp_8 hP hD hS => ?_)
      have hp_8 : r_8 = nI (vT w1) := hp_8
      subst hp_8
      refine lv_icmp_ge (tgt := 36) hx hb dX4_told_11 (by decide) (fun c_11 => ?_) (fun c_11 => ?_)
      · have c_11 : (vT w1) ≤ i := (nI_leI (a := (vT w1)) (b := i) (by omega) (by omega)).mp c_11
        have hi9 : i = vT w1 := by omega
        refine lv_iload_n hx hb dX4_told_36 rfl (lv_at hl 2 rfl) ?_
        exact k_iret (ws := [kO q0 4 [.int (nI th), .ref q1, .ref q2, .ref q3, .ref q4, .ref q5, .ref q6], kC G q1 8 (nR (peF w0 w1)), kC G q2 120 (nR (knF w0 w1)), kC G q3 120 (nR (plF w0 w1)), kC G q4 80 (nR ru), kC G q5 8 (nR bf), kC G q6 2 (nR (nuF ho un))]) (()) hx hb hr hlocks hP hD hS hAe hQ (Nat.le_of_ble_eq_true rfl) (Nat.le_of_ble_eq_true rfl) dX4_told_37 (rfl) (by rw [hi9])
      · have c_11 : ¬ ((vT w1) ≤ i) := fun h9 => c_11 ((nI_leI (a := (vT w1)) (b := i) (by omega) (by omega)).mpr h9)
        refine lv_iload_n hx hb dX4_told_14 rfl (lv_at hl 2 rfl) ?_
        refine lv_aload_n hx hb dX4_told_15 rfl (lv_at hl 0 rfl) ?_
        refine va_get (D := G.1) (ci := 4) (v := .ref q4) (C := RX4) (T := TX4) (N := 7) hx hb hts hq_0 hown hK.1 hP 0 rfl rfl 4 (by decide) hq_1 (fun _ h9 => h9) rfl dX4_told_16 ?_
        refine lv_aload_n hx hb dX4_told_19 rfl (lv_at hl 0 rfl) ?_
        refine lv_iload_n hx hb dX4_told_20 rfl (lv_at hl 1 rfl) ?_
        refine lv_iload_n hx hb dX4_told_21 rfl (lv_at hl 3 rfl) ?_
        refine k_calli (fun _ => [kO q0 4 [.int (nI th), .ref q1, .ref q2, .ref q3, .ref q4, .ref q5, .ref q6], kC G q1 8 (nR (peF w0 w1)), kC G q2 120 (nR (knF w0 w1)), kC G q3 120 (nR (plF w0 w1)), kC G q4 80 (nR ru), kC G q5 8 (nR bf), kC G q6 2 (nR (nuF ho un))]) [kC G q1 8 (nR (peF w0 w1)), kC G q2 120 (nR (knF w0 w1)), kC G q3 120 (nR (plF w0 w1)), kC G q4 80 (nR ru), kC G q5 8 (nR bf), kC G q6 2 (nR (nuF ho un))] (k_runV (As := [.int (nI 1), .int (nI i)]) (rest := [.ref q4, .int (nI (sumN (vN w1) i))]) (wc := [kO q0 4 [.int (nI th), .ref q1, .ref q2, .ref q3, .ref q4, .ref q5, .ref q6]]) ⟨hx, hb, hml, hown, hts⟩ (m_runAt l G q0 q1 q2 q3 q4 q5 q6 th 1 i ) (cwV 2 hts gX4_told_X4_runAt rfl rfl rfl (by decide +kernel) ⟨Nat.le_of_ble_eq_true rfl, Nat.le_of_ble_eq_true rfl⟩) hK hZ hP hD hS hA [0] rfl rfl 0 4 rfl rfl rfl rfl hl.1 rfl (Nat.le_of_ble_eq_true rfl) dX4_told_22 ⟨Nat.le_of_ble_eq_true rfl, Nat.le_of_ble_eq_true rfl⟩) hP hD hS hA [0] [1, 2, 3, 4, 5, 6] [6, 0, 1, 2, 3, 4, 5] rfl rfl rfl (by decide) (fun _ => rfl) rfl (fun r_22 u_22 H locs hp_22 hP hD hS => ?_)
        have hp_22 : r_22 = nI (2 * (20 + i)) := hp_22
        subst hp_22
        refine lv_iconst (v := nI 1) hx hb dX4_told_25 (by decide) ?_
        refine lv_iadd hx hb dX4_told_26 ?_
        refine lv_topi (fun y_1 hy_1 => ?_)
        obtain rfl : y_1 = nI ((2 * (20 + i)) + 1) := hy_1.trans (nI_add (2 * (20 + i)) 1)
        have hi_2 : ((2 * (20 + i)) + 1) < 80 := by omega
        refine va_iald (D := G.1) hx hb hK.1 hP 4 0 rfl rfl (vp_in_nI hi_2 (by omega)) dX4_told_27 ?_
        refine lv_topi (fun y_3 hy_3 => ?_)
        obtain rfl : y_3 = nI (ru ((2 * (20 + i)) + 1)) := hy_3.trans (nR_at (by omega))
        refine lv_topi (fun y_4 hy_4 => ?_)
        obtain rfl : y_4 = nI (vN w1 i) := hy_4.trans (congrArg nI (rk1 i (by omega)).2)
        refine lv_iadd hx hb dX4_told_28 ?_
        refine lv_topi (fun y_5 hy_5 => ?_)
        obtain rfl : y_5 = nI ((sumN (vN w1) i) + (vN w1 i)) := hy_5.trans (nI_add (sumN (vN w1) i) (vN w1 i))
        refine lv_istore_n (lv' := [(2, .int (nI ((sumN (vN w1) i) + (vN w1 i)))), (0, .ref q0), (1, .int (nI 1)), (3, .int (nI i))]) hx hb dX4_told_29 rfl hl (by decide) rfl (fun ls hl => ?_)
        refine lv_iinc (v := nI (i + 1)) (lv' := [(3, .int (nI (i + 1))), (2, .int (nI ((sumN (vN w1) i) + (vN w1 i)))), (0, .ref q0), (1, .int (nI 1))]) hx hb dX4_told_30 hl (k := 3) rfl (nI_add i 1) (by decide) rfl (fun ls hl => ?_)
        refine lv_goto (tgt := 4) hx hb dX4_told_33 (by decide) ?_
        exact ih_4 (i + 1) (by omega) (by omega) _ _ _ hP hD hS (lv_sub hl [2, 3, 1, 0] rfl)
  exact loop_4 (vT w1 + 1) 0 (by omega) (by omega) H locs ls hP hD hS (lv_sub hl [2, 3, 1, 0] rfl)
set_option maxHeartbeats 4000000 in
set_option maxRecDepth 100000 in
theorem m_weaverTold0 (l : Launch) (G : kG) (q0 : Nat) (q1 : Nat) (q2 : Nat) (q3 : Nat) (q4 : Nat) (q5 : Nat) (q6 : Nat) (w0 : Wv) (w1 : Wv) (bf : Nat → Nat) (ho : Nat) (un : Nat) (ru : Nat → Nat) (th : Nat) (k : Nat) (hk : k < 7) (h0 : wOk w0) (h1 : wOk w1) (hru : ruOk w0 w1 ru) : kM l G yX4_weaverTold wsX4_weaverTold ({ frames := 2, cells := 0, slots := 0, locals := 45 } : Room) [.ref q0, .int (nI 0), .int (nI k)] [kO q0 4 [.int (nI th), .ref q1, .ref q2, .ref q3, .ref q4, .ref q5, .ref q6], kC G q1 8 (nR (peF w0 w1)), kC G q2 120 (nR (knF w0 w1)), kC G q3 120 (nR (plF w0 w1)), kC G q4 80 (nR ru), kC G q5 8 (nR bf), kC G q6 2 (nR (nuF ho un))] (kQi G [kO q0 4 [.int (nI th), .ref q1, .ref q2, .ref q3, .ref q4, .ref q5, .ref q6], kC G q1 8 (nR (peF w0 w1)), kC G q2 120 (nR (knF w0 w1)), kC G q3 120 (nR (plF w0 w1)), kC G q4 80 (nR ru), kC G q5 8 (nR bf), kC G q6 2 (nR (nuF ho un))] (fun (r : Int32) (_ : Unit) => r = wNumW 0 w0 k) (fun (_ : Unit) => [kO q0 4 [.int (nI th), .ref q1, .ref q2, .ref q3, .ref q4, .ref q5, .ref q6], kC G q1 8 (nR (peF w0 w1)), kC G q2 120 (nR (knF w0 w1)), kC G q3 120 (nR (plF w0 w1)), kC G q4 80 (nR ru), kC G q5 8 (nR bf), kC G q6 2 (nR (nuF ho un))])) := by
  refine k_ofW (cc := cX4_weaverTold) (maxL := 4) (rt := (some .int)) (by decide) rfl (Nat.le_of_ble_eq_true rfl) ?_
  intro p e s m args below meth c A ls Qs H locs hQ hAe hx hb hr hml hts hown hlocks hin hK hZ hP hD hS hA hl
  have hown : s.vm.findClass RX4 = some m.cls := hown
  have hl : lv_has ls 4 [(0, .ref q0), (1, .int (nI 0)), (2, .int (nI k))] := hl
  have m0b : vM w0 ≤ 60 := h0.2.2.2.1
  have m1b : vM w1 ≤ 60 := h1.2.2.2.1
  have t0b : vT w0 ≤ 20 := h0.2.2.1
  have t1b : vT w1 ≤ 20 := h1.2.2.1
  have pb0 : ∀ i, i < 60 → vP w0 i < 8 := h0.2.2.2.2.1
  have pb1 : ∀ i, i < 60 → vP w1 i < 8 := h1.2.2.2.2.1
  have kb0 : ∀ i, i < 60 → vK w0 i < 8 := h0.2.2.2.2.2.1
  have kb1 : ∀ i, i < 60 → vK w1 i < 8 := h1.2.2.2.2.2.1
  have rk0 := hru.1
  have rk1 := hru.2
  rcases (show k = 0 ∨ k = 1 ∨ k = 2 ∨ k = 3 ∨ k = 4 ∨ k = 5 ∨ k = 6 by omega) with rfl | rfl | rfl | rfl | rfl | rfl | rfl
  · refine lv_aload_n hx hb dX4_weaverTold_0 rfl (lv_at hl 0 rfl) ?_
    refine lv_iload_n hx hb dX4_weaverTold_1 rfl (lv_at hl 1 rfl) ?_
    refine lv_iconst (v := nI 1) hx hb dX4_weaverTold_2 (by decide) ?_
    refine k_calli (fun _ => [kO q0 4 [.int (nI th), .ref q1, .ref q2, .ref q3, .ref q4, .ref q5, .ref q6], kC G q1 8 (nR (peF w0 w1)), kC G q2 120 (nR (knF w0 w1)), kC G q3 120 (nR (plF w0 w1)), kC G q4 80 (nR ru), kC G q5 8 (nR bf), kC G q6 2 (nR (nuF ho un))]) [kC G q2 120 (nR (knF w0 w1)), kC G q3 120 (nR (plF w0 w1)), kC G q4 80 (nR ru), kC G q5 8 (nR bf), kC G q6 2 (nR (nuF ho un))] (k_runV (As := [.int (nI 0), .int (nI 1)]) (rest := []) (wc := [kO q0 4 [.int (nI th), .ref q1, .ref q2, .ref q3, .ref q4, .ref q5, .ref q6], kC G q1 8 (nR (peF w0 w1))]) ⟨hx, hb, hml, hown, hts⟩ (m_pe l G q0 q1 q2 q3 q4 q5 q6 th (peF w0 w1) 0 1 (by decide) (by decide)) (cwV 2 hts gX4_weaverTold_X4_pe rfl rfl rfl (by decide +kernel) ⟨Nat.le_of_ble_eq_true rfl, Nat.le_of_ble_eq_true rfl⟩) hK hZ hP hD hS hA [0, 1] rfl rfl 0 4 rfl rfl rfl rfl hl.1 rfl (Nat.le_of_ble_eq_true rfl) dX4_weaverTold_3 ⟨Nat.le_of_ble_eq_true rfl, Nat.le_of_ble_eq_true rfl⟩) hP hD hS hA [0, 1] [2, 3, 4, 5, 6] [5, 6, 0, 1, 2, 3, 4] rfl rfl rfl (by decide) (fun _ => rfl) rfl (fun r_3 u_3 H locs hp_3 hP hD hS => ?_)
    have hp_3 : r_3 = nI (vM w0) := hp_3
    subst hp_3
    refine lv_istore_n (lv' := [(3, .int (nI (vM w0))), (0, .ref q0), (1, .int (nI 0)), (2, .int (nI 0))]) hx hb dX4_weaverTold_6 rfl hl (by decide) rfl (fun ls hl => ?_)
    refine lv_iload_n hx hb dX4_weaverTold_7 rfl (lv_at hl 3 rfl) ?_
    refine lv_tableIn (off := 40) (tgt := 48) hx hb dX4_weaverTold_8 (by decide) (by decide) rfl (by decide) ?_
    refine lv_aload_n hx hb dX4_weaverTold_48 rfl (lv_at hl 1 rfl) ?_
    refine lv_iload_n hx hb dX4_weaverTold_49 rfl (lv_at hl 2 rfl) ?_
    refine lv_iconst (v := nI 0) hx hb dX4_weaverTold_50 (by decide) ?_
    refine k_calli (fun _ => [kO q0 4 [.int (nI th), .ref q1, .ref q2, .ref q3, .ref q4, .ref q5, .ref q6], kC G q1 8 (nR (peF w0 w1)), kC G q2 120 (nR (knF w0 w1)), kC G q3 120 (nR (plF w0 w1)), kC G q4 80 (nR ru), kC G q5 8 (nR bf), kC G q6 2 (nR (nuF ho un))]) [kC G q2 120 (nR (knF w0 w1)), kC G q3 120 (nR (plF w0 w1)), kC G q4 80 (nR ru), kC G q5 8 (nR bf), kC G q6 2 (nR (nuF ho un))] (k_runV (As := [.int (nI 0), .int (nI 0)]) (rest := []) (wc := [kO q0 4 [.int (nI th), .ref q1, .ref q2, .ref q3, .ref q4, .ref q5, .ref q6], kC G q1 8 (nR (peF w0 w1))]) ⟨hx, hb, hml, hown, hts⟩ (m_pe l G q0 q1 q2 q3 q4 q5 q6 th (peF w0 w1) 0 0 (by decide) (by decide)) (cwV 2 hts gX4_weaverTold_X4_pe rfl rfl rfl (by decide +kernel) ⟨Nat.le_of_ble_eq_true rfl, Nat.le_of_ble_eq_true rfl⟩) hK hZ hP hD hS hA [0, 1] rfl rfl 0 4 rfl rfl rfl rfl hl.1 rfl (Nat.le_of_ble_eq_true rfl) dX4_weaverTold_51 ⟨Nat.le_of_ble_eq_true rfl, Nat.le_of_ble_eq_true rfl⟩) hP hD hS hA [0, 1] [2, 3, 4, 5, 6] [5, 6, 0, 1, 2, 3, 4] rfl rfl rfl (by decide) (fun _ => rfl) rfl (fun r_51 u_51 H locs hp_51 hP hD hS => ?_)
    have hp_51 : r_51 = nI (vS w0) := hp_51
    subst hp_51
    exact k_iret (ws := [kO q0 4 [.int (nI th), .ref q1, .ref q2, .ref q3, .ref q4, .ref q5, .ref q6], kC G q1 8 (nR (peF w0 w1)), kC G q2 120 (nR (knF w0 w1)), kC G q3 120 (nR (plF w0 w1)), kC G q4 80 (nR ru), kC G q5 8 (nR bf), kC G q6 2 (nR (nuF ho un))]) (()) hx hb hr hlocks hP hD hS hAe hQ (Nat.le_of_ble_eq_true rfl) (Nat.le_of_ble_eq_true rfl) dX4_weaverTold_54 (rfl) (rfl)
  · refine lv_aload_n hx hb dX4_weaverTold_0 rfl (lv_at hl 0 rfl) ?_
    refine lv_iload_n hx hb dX4_weaverTold_1 rfl (lv_at hl 1 rfl) ?_
    refine lv_iconst (v := nI 1) hx hb dX4_weaverTold_2 (by decide) ?_
    refine k_calli (fun _ => [kO q0 4 [.int (nI th), .ref q1, .ref q2, .ref q3, .ref q4, .ref q5, .ref q6], kC G q1 8 (nR (peF w0 w1)), kC G q2 120 (nR (knF w0 w1)), kC G q3 120 (nR (plF w0 w1)), kC G q4 80 (nR ru), kC G q5 8 (nR bf), kC G q6 2 (nR (nuF ho un))]) [kC G q2 120 (nR (knF w0 w1)), kC G q3 120 (nR (plF w0 w1)), kC G q4 80 (nR ru), kC G q5 8 (nR bf), kC G q6 2 (nR (nuF ho un))] (k_runV (As := [.int (nI 0), .int (nI 1)]) (rest := []) (wc := [kO q0 4 [.int (nI th), .ref q1, .ref q2, .ref q3, .ref q4, .ref q5, .ref q6], kC G q1 8 (nR (peF w0 w1))]) ⟨hx, hb, hml, hown, hts⟩ (m_pe l G q0 q1 q2 q3 q4 q5 q6 th (peF w0 w1) 0 1 (by decide) (by decide)) (cwV 2 hts gX4_weaverTold_X4_pe rfl rfl rfl (by decide +kernel) ⟨Nat.le_of_ble_eq_true rfl, Nat.le_of_ble_eq_true rfl⟩) hK hZ hP hD hS hA [0, 1] rfl rfl 0 4 rfl rfl rfl rfl hl.1 rfl (Nat.le_of_ble_eq_true rfl) dX4_weaverTold_3 ⟨Nat.le_of_ble_eq_true rfl, Nat.le_of_ble_eq_true rfl⟩) hP hD hS hA [0, 1] [2, 3, 4, 5, 6] [5, 6, 0, 1, 2, 3, 4] rfl rfl rfl (by decide) (fun _ => rfl) rfl (fun r_3 u_3 H locs hp_3 hP hD hS => ?_)
    have hp_3 : r_3 = nI (vM w0) := hp_3
    subst hp_3
    refine lv_istore_n (lv' := [(3, .int (nI (vM w0))), (0, .ref q0), (1, .int (nI 0)), (2, .int (nI 1))]) hx hb dX4_weaverTold_6 rfl hl (by decide) rfl (fun ls hl => ?_)
    refine lv_iload_n hx hb dX4_weaverTold_7 rfl (lv_at hl 3 rfl) ?_
    refine lv_tableIn (off := 47) (tgt := 55) hx hb dX4_weaverTold_8 (by decide) (by decide) rfl (by decide) ?_
    refine lv_aload_n hx hb dX4_weaverTold_55 rfl (lv_at hl 1 rfl) ?_
    refine lv_iload_n hx hb dX4_weaverTold_56 rfl (lv_at hl 2 rfl) ?_
    refine lv_iconst (v := nI 2) hx hb dX4_weaverTold_57 (by decide) ?_
    refine k_calli (fun _ => [kO q0 4 [.int (nI th), .ref q1, .ref q2, .ref q3, .ref q4, .ref q5, .ref q6], kC G q1 8 (nR (peF w0 w1)), kC G q2 120 (nR (knF w0 w1)), kC G q3 120 (nR (plF w0 w1)), kC G q4 80 (nR ru), kC G q5 8 (nR bf), kC G q6 2 (nR (nuF ho un))]) [kC G q2 120 (nR (knF w0 w1)), kC G q3 120 (nR (plF w0 w1)), kC G q4 80 (nR ru), kC G q5 8 (nR bf), kC G q6 2 (nR (nuF ho un))] (k_runV (As := [.int (nI 0), .int (nI 2)]) (rest := []) (wc := [kO q0 4 [.int (nI th), .ref q1, .ref q2, .ref q3, .ref q4, .ref q5, .ref q6], kC G q1 8 (nR (peF w0 w1))]) ⟨hx, hb, hml, hown, hts⟩ (m_pe l G q0 q1 q2 q3 q4 q5 q6 th (peF w0 w1) 0 2 (by decide) (by decide)) (cwV 2 hts gX4_weaverTold_X4_pe rfl rfl rfl (by decide +kernel) ⟨Nat.le_of_ble_eq_true rfl, Nat.le_of_ble_eq_true rfl⟩) hK hZ hP hD hS hA [0, 1] rfl rfl 0 4 rfl rfl rfl rfl hl.1 rfl (Nat.le_of_ble_eq_true rfl) dX4_weaverTold_58 ⟨Nat.le_of_ble_eq_true rfl, Nat.le_of_ble_eq_true rfl⟩) hP hD hS hA [0, 1] [2, 3, 4, 5, 6] [5, 6, 0, 1, 2, 3, 4] rfl rfl rfl (by decide) (fun _ => rfl) rfl (fun r_58 u_58 H locs hp_58 hP hD hS => ?_)
    have hp_58 : r_58 = nI (vT w0) := hp_58
    subst hp_58
    exact k_iret (ws := [kO q0 4 [.int (nI th), .ref q1, .ref q2, .ref q3, .ref q4, .ref q5, .ref q6], kC G q1 8 (nR (peF w0 w1)), kC G q2 120 (nR (knF w0 w1)), kC G q3 120 (nR (plF w0 w1)), kC G q4 80 (nR ru), kC G q5 8 (nR bf), kC G q6 2 (nR (nuF ho un))]) (()) hx hb hr hlocks hP hD hS hAe hQ (Nat.le_of_ble_eq_true rfl) (Nat.le_of_ble_eq_true rfl) dX4_weaverTold_61 (rfl) (rfl)
  · refine lv_aload_n hx hb dX4_weaverTold_0 rfl (lv_at hl 0 rfl) ?_
    refine lv_iload_n hx hb dX4_weaverTold_1 rfl (lv_at hl 1 rfl) ?_
    refine lv_iconst (v := nI 1) hx hb dX4_weaverTold_2 (by decide) ?_
    refine k_calli (fun _ => [kO q0 4 [.int (nI th), .ref q1, .ref q2, .ref q3, .ref q4, .ref q5, .ref q6], kC G q1 8 (nR (peF w0 w1)), kC G q2 120 (nR (knF w0 w1)), kC G q3 120 (nR (plF w0 w1)), kC G q4 80 (nR ru), kC G q5 8 (nR bf), kC G q6 2 (nR (nuF ho un))]) [kC G q2 120 (nR (knF w0 w1)), kC G q3 120 (nR (plF w0 w1)), kC G q4 80 (nR ru), kC G q5 8 (nR bf), kC G q6 2 (nR (nuF ho un))] (k_runV (As := [.int (nI 0), .int (nI 1)]) (rest := []) (wc := [kO q0 4 [.int (nI th), .ref q1, .ref q2, .ref q3, .ref q4, .ref q5, .ref q6], kC G q1 8 (nR (peF w0 w1))]) ⟨hx, hb, hml, hown, hts⟩ (m_pe l G q0 q1 q2 q3 q4 q5 q6 th (peF w0 w1) 0 1 (by decide) (by decide)) (cwV 2 hts gX4_weaverTold_X4_pe rfl rfl rfl (by decide +kernel) ⟨Nat.le_of_ble_eq_true rfl, Nat.le_of_ble_eq_true rfl⟩) hK hZ hP hD hS hA [0, 1] rfl rfl 0 4 rfl rfl rfl rfl hl.1 rfl (Nat.le_of_ble_eq_true rfl) dX4_weaverTold_3 ⟨Nat.le_of_ble_eq_true rfl, Nat.le_of_ble_eq_true rfl⟩) hP hD hS hA [0, 1] [2, 3, 4, 5, 6] [5, 6, 0, 1, 2, 3, 4] rfl rfl rfl (by decide) (fun _ => rfl) rfl (fun r_3 u_3 H locs hp_3 hP hD hS => ?_)
    have hp_3 : r_3 = nI (vM w0) := hp_3
    subst hp_3
    refine lv_istore_n (lv' := [(3, .int (nI (vM w0))), (0, .ref q0), (1, .int (nI 0)), (2, .int (nI 2))]) hx hb dX4_weaverTold_6 rfl hl (by decide) rfl (fun ls hl => ?_)
    refine lv_iload_n hx hb dX4_weaverTold_7 rfl (lv_at hl 3 rfl) ?_
    refine lv_tableIn (off := 54) (tgt := 62) hx hb dX4_weaverTold_8 (by decide) (by decide) rfl (by decide) ?_
    refine lv_aload_n hx hb dX4_weaverTold_62 rfl (lv_at hl 1 rfl) ?_
    refine lv_iload_n hx hb dX4_weaverTold_63 rfl (lv_at hl 2 rfl) ?_
    refine k_calli (fun _ => [kO q0 4 [.int (nI th), .ref q1, .ref q2, .ref q3, .ref q4, .ref q5, .ref q6], kC G q1 8 (nR (peF w0 w1)), kC G q2 120 (nR (knF w0 w1)), kC G q3 120 (nR (plF w0 w1)), kC G q4 80 (nR ru), kC G q5 8 (nR bf), kC G q6 2 (nR (nuF ho un))]) [] (k_runV (As := [.int (nI 0)]) (rest := []) (wc := [kO q0 4 [.int (nI th), .ref q1, .ref q2, .ref q3, .ref q4, .ref q5, .ref q6], kC G q1 8 (nR (peF w0 w1)), kC G q2 120 (nR (knF w0 w1)), kC G q3 120 (nR (plF w0 w1)), kC G q4 80 (nR ru), kC G q5 8 (nR bf), kC G q6 2 (nR (nuF ho un))]) ⟨hx, hb, hml, hown, hts⟩ (m_told0 l G q0 q1 q2 q3 q4 q5 q6 w0 w1 bf ho un ru th h0 h1 hru) (cwV 1 hts gX4_weaverTold_X4_told rfl rfl rfl (by decide +kernel) ⟨Nat.le_of_ble_eq_true rfl, Nat.le_of_ble_eq_true rfl⟩) hK hZ hP hD hS hA [0, 1, 2, 3, 4, 5, 6] rfl rfl 0 4 rfl rfl rfl rfl hl.1 rfl (Nat.le_of_ble_eq_true rfl) dX4_weaverTold_64 ⟨Nat.le_of_ble_eq_true rfl, Nat.le_of_ble_eq_true rfl⟩) hP hD hS hA [0, 1, 2, 3, 4, 5, 6] [] [0, 1, 2, 3, 4, 5, 6] rfl rfl rfl (by decide) (fun _ => rfl) rfl (fun r_64 u_64 H locs hp_64 hP hD hS => ?_)
    have hp_64 : r_64 = nI (sumN (vN w0) (vT w0)) := hp_64
    subst hp_64
    exact k_iret (ws := [kO q0 4 [.int (nI th), .ref q1, .ref q2, .ref q3, .ref q4, .ref q5, .ref q6], kC G q1 8 (nR (peF w0 w1)), kC G q2 120 (nR (knF w0 w1)), kC G q3 120 (nR (plF w0 w1)), kC G q4 80 (nR ru), kC G q5 8 (nR bf), kC G q6 2 (nR (nuF ho un))]) (()) hx hb hr hlocks hP hD hS hAe hQ (Nat.le_of_ble_eq_true rfl) (Nat.le_of_ble_eq_true rfl) dX4_weaverTold_67 (rfl) (rfl)
  · refine lv_aload_n hx hb dX4_weaverTold_0 rfl (lv_at hl 0 rfl) ?_
    refine lv_iload_n hx hb dX4_weaverTold_1 rfl (lv_at hl 1 rfl) ?_
    refine lv_iconst (v := nI 1) hx hb dX4_weaverTold_2 (by decide) ?_
    refine k_calli (fun _ => [kO q0 4 [.int (nI th), .ref q1, .ref q2, .ref q3, .ref q4, .ref q5, .ref q6], kC G q1 8 (nR (peF w0 w1)), kC G q2 120 (nR (knF w0 w1)), kC G q3 120 (nR (plF w0 w1)), kC G q4 80 (nR ru), kC G q5 8 (nR bf), kC G q6 2 (nR (nuF ho un))]) [kC G q2 120 (nR (knF w0 w1)), kC G q3 120 (nR (plF w0 w1)), kC G q4 80 (nR ru), kC G q5 8 (nR bf), kC G q6 2 (nR (nuF ho un))] (k_runV (As := [.int (nI 0), .int (nI 1)]) (rest := []) (wc := [kO q0 4 [.int (nI th), .ref q1, .ref q2, .ref q3, .ref q4, .ref q5, .ref q6], kC G q1 8 (nR (peF w0 w1))]) ⟨hx, hb, hml, hown, hts⟩ (m_pe l G q0 q1 q2 q3 q4 q5 q6 th (peF w0 w1) 0 1 (by decide) (by decide)) (cwV 2 hts gX4_weaverTold_X4_pe rfl rfl rfl (by decide +kernel) ⟨Nat.le_of_ble_eq_true rfl, Nat.le_of_ble_eq_true rfl⟩) hK hZ hP hD hS hA [0, 1] rfl rfl 0 4 rfl rfl rfl rfl hl.1 rfl (Nat.le_of_ble_eq_true rfl) dX4_weaverTold_3 ⟨Nat.le_of_ble_eq_true rfl, Nat.le_of_ble_eq_true rfl⟩) hP hD hS hA [0, 1] [2, 3, 4, 5, 6] [5, 6, 0, 1, 2, 3, 4] rfl rfl rfl (by decide) (fun _ => rfl) rfl (fun r_3 u_3 H locs hp_3 hP hD hS => ?_)
    have hp_3 : r_3 = nI (vM w0) := hp_3
    subst hp_3
    refine lv_istore_n (lv' := [(3, .int (nI (vM w0))), (0, .ref q0), (1, .int (nI 0)), (2, .int (nI 3))]) hx hb dX4_weaverTold_6 rfl hl (by decide) rfl (fun ls hl => ?_)
    refine lv_iload_n hx hb dX4_weaverTold_7 rfl (lv_at hl 3 rfl) ?_
    refine lv_tableIn (off := 60) (tgt := 68) hx hb dX4_weaverTold_8 (by decide) (by decide) rfl (by decide) ?_
    refine lv_iload_n hx hb dX4_weaverTold_68 rfl (lv_at hl 0 rfl) ?_
    exact k_iret (ws := [kO q0 4 [.int (nI th), .ref q1, .ref q2, .ref q3, .ref q4, .ref q5, .ref q6], kC G q1 8 (nR (peF w0 w1)), kC G q2 120 (nR (knF w0 w1)), kC G q3 120 (nR (plF w0 w1)), kC G q4 80 (nR ru), kC G q5 8 (nR bf), kC G q6 2 (nR (nuF ho un))]) (()) hx hb hr hlocks hP hD hS hAe hQ (Nat.le_of_ble_eq_true rfl) (Nat.le_of_ble_eq_true rfl) dX4_weaverTold_69 (rfl) (rfl)
  · refine lv_aload_n hx hb dX4_weaverTold_0 rfl (lv_at hl 0 rfl) ?_
    refine lv_iload_n hx hb dX4_weaverTold_1 rfl (lv_at hl 1 rfl) ?_
    refine lv_iconst (v := nI 1) hx hb dX4_weaverTold_2 (by decide) ?_
    refine k_calli (fun _ => [kO q0 4 [.int (nI th), .ref q1, .ref q2, .ref q3, .ref q4, .ref q5, .ref q6], kC G q1 8 (nR (peF w0 w1)), kC G q2 120 (nR (knF w0 w1)), kC G q3 120 (nR (plF w0 w1)), kC G q4 80 (nR ru), kC G q5 8 (nR bf), kC G q6 2 (nR (nuF ho un))]) [kC G q2 120 (nR (knF w0 w1)), kC G q3 120 (nR (plF w0 w1)), kC G q4 80 (nR ru), kC G q5 8 (nR bf), kC G q6 2 (nR (nuF ho un))] (k_runV (As := [.int (nI 0), .int (nI 1)]) (rest := []) (wc := [kO q0 4 [.int (nI th), .ref q1, .ref q2, .ref q3, .ref q4, .ref q5, .ref q6], kC G q1 8 (nR (peF w0 w1))]) ⟨hx, hb, hml, hown, hts⟩ (m_pe l G q0 q1 q2 q3 q4 q5 q6 th (peF w0 w1) 0 1 (by decide) (by decide)) (cwV 2 hts gX4_weaverTold_X4_pe rfl rfl rfl (by decide +kernel) ⟨Nat.le_of_ble_eq_true rfl, Nat.le_of_ble_eq_true rfl⟩) hK hZ hP hD hS hA [0, 1] rfl rfl 0 4 rfl rfl rfl rfl hl.1 rfl (Nat.le_of_ble_eq_true rfl) dX4_weaverTold_3 ⟨Nat.le_of_ble_eq_true rfl, Nat.le_of_ble_eq_true rfl⟩) hP hD hS hA [0, 1] [2, 3, 4, 5, 6] [5, 6, 0, 1, 2, 3, 4] rfl rfl rfl (by decide) (fun _ => rfl) rfl (fun r_3 u_3 H locs hp_3 hP hD hS => ?_)
    have hp_3 : r_3 = nI (vM w0) := hp_3
    subst hp_3
    refine lv_istore_n (lv' := [(3, .int (nI (vM w0))), (0, .ref q0), (1, .int (nI 0)), (2, .int (nI 4))]) hx hb dX4_weaverTold_6 rfl hl (by decide) rfl (fun ls hl => ?_)
    refine lv_iload_n hx hb dX4_weaverTold_7 rfl (lv_at hl 3 rfl) ?_
    refine lv_tableIn (off := 62) (tgt := 70) hx hb dX4_weaverTold_8 (by decide) (by decide) rfl (by decide) ?_
    refine lv_iload_n hx hb dX4_weaverTold_70 rfl (lv_at hl 0 rfl) ?_
    refine lv_bipush (v := nI 60) hx hb dX4_weaverTold_71 (by decide) ?_
    refine lv_icmp_ne (tgt := 80) hx hb dX4_weaverTold_73 (by decide) (fun c_73 => ?_) (fun c_73 => ?_)
    · have c_73 : ¬ ((vM w0) = 60) := fun h9 => c_73 ((nI_eq (a := (vM w0)) (b := 60) (by omega) (by omega)).mpr h9)
      refine lv_iload_n hx hb dX4_weaverTold_80 rfl (lv_at hl 2 rfl) ?_
      refine lv_iload_n hx hb dX4_weaverTold_81 rfl (lv_at hl 0 rfl) ?_
      refine k_calli (fun _ => [kO q0 4 [.int (nI th), .ref q1, .ref q2, .ref q3, .ref q4, .ref q5, .ref q6], kC G q1 8 (nR (peF w0 w1)), kC G q2 120 (nR (knF w0 w1)), kC G q3 120 (nR (plF w0 w1)), kC G q4 80 (nR ru), kC G q5 8 (nR bf), kC G q6 2 (nR (nuF ho un))]) [kO q0 4 [.int (nI th), .ref q1, .ref q2, .ref q3, .ref q4, .ref q5, .ref q6], kC G q1 8 (nR (peF w0 w1)), kC G q2 120 (nR (knF w0 w1)), kC G q3 120 (nR (plF w0 w1)), kC G q4 80 (nR ru), kC G q5 8 (nR bf), kC G q6 2 (nR (nuF ho un))] (k_runS (As := [.int (nI 0), .int (nI (vM w0))]) (rest := []) (wc := []) ⟨hx, hb, hml, hown, hts⟩ (m_xOf l G 0 (vM w0) (by decide) (by omega)) (va_cwS 2 hts gX4_weaverTold_X4_xOf rfl rfl rfl (by decide +kernel) ⟨Nat.le_of_ble_eq_true rfl, Nat.le_of_ble_eq_true rfl⟩) hK hZ hP hD hS hA [] rfl rfl rfl hl.1 rfl (Nat.le_of_ble_eq_true rfl) dX4_weaverTold_82 ⟨Nat.le_of_ble_eq_true rfl, Nat.le_of_ble_eq_true rfl⟩) hP hD hS hA [] [0, 1, 2, 3, 4, 5, 6] [0, 1, 2, 3, 4, 5, 6] rfl rfl rfl (by decide) (fun _ => rfl) rfl (fun r_82 u_82 H locs hp_82 hP hD hS => ?_)
      have hp_82 : r_82 = nI (if 0 = 0 then (vM w0) % 6 else 11 - (vM w0) % 6) := hp_82
      subst hp_82
      exact k_iret (ws := [kO q0 4 [.int (nI th), .ref q1, .ref q2, .ref q3, .ref q4, .ref q5, .ref q6], kC G q1 8 (nR (peF w0 w1)), kC G q2 120 (nR (knF w0 w1)), kC G q3 120 (nR (plF w0 w1)), kC G q4 80 (nR ru), kC G q5 8 (nR bf), kC G q6 2 (nR (nuF ho un))]) (()) hx hb hr hlocks hP hD hS hAe hQ (Nat.le_of_ble_eq_true rfl) (Nat.le_of_ble_eq_true rfl) dX4_weaverTold_85 (rfl) (by show _ = nxN 0 (vM w0); exact (if_pos (by omega : vM w0 < 60)).symm)
    · have c_73 : (vM w0) = 60 := (nI_eq (a := (vM w0)) (b := 60) (by omega) (by omega)).mp c_73
      refine lv_iconst (v := (-1)) hx hb dX4_weaverTold_76 (by decide) ?_
      refine lv_goto (tgt := 85) hx hb dX4_weaverTold_77 (by decide) ?_
      exact k_iret (ws := [kO q0 4 [.int (nI th), .ref q1, .ref q2, .ref q3, .ref q4, .ref q5, .ref q6], kC G q1 8 (nR (peF w0 w1)), kC G q2 120 (nR (knF w0 w1)), kC G q3 120 (nR (plF w0 w1)), kC G q4 80 (nR ru), kC G q5 8 (nR bf), kC G q6 2 (nR (nuF ho un))]) (()) hx hb hr hlocks hP hD hS hAe hQ (Nat.le_of_ble_eq_true rfl) (Nat.le_of_ble_eq_true rfl) dX4_weaverTold_85 (rfl) (by show _ = nxN 0 (vM w0); exact (if_neg (by omega : ¬ vM w0 < 60)).symm)
  · refine lv_aload_n hx hb dX4_weaverTold_0 rfl (lv_at hl 0 rfl) ?_
    refine lv_iload_n hx hb dX4_weaverTold_1 rfl (lv_at hl 1 rfl) ?_
    refine lv_iconst (v := nI 1) hx hb dX4_weaverTold_2 (by decide) ?_
    refine k_calli (fun _ => [kO q0 4 [.int (nI th), .ref q1, .ref q2, .ref q3, .ref q4, .ref q5, .ref q6], kC G q1 8 (nR (peF w0 w1)), kC G q2 120 (nR (knF w0 w1)), kC G q3 120 (nR (plF w0 w1)), kC G q4 80 (nR ru), kC G q5 8 (nR bf), kC G q6 2 (nR (nuF ho un))]) [kC G q2 120 (nR (knF w0 w1)), kC G q3 120 (nR (plF w0 w1)), kC G q4 80 (nR ru), kC G q5 8 (nR bf), kC G q6 2 (nR (nuF ho un))] (k_runV (As := [.int (nI 0), .int (nI 1)]) (rest := []) (wc := [kO q0 4 [.int (nI th), .ref q1, .ref q2, .ref q3, .ref q4, .ref q5, .ref q6], kC G q1 8 (nR (peF w0 w1))]) ⟨hx, hb, hml, hown, hts⟩ (m_pe l G q0 q1 q2 q3 q4 q5 q6 th (peF w0 w1) 0 1 (by decide) (by decide)) (cwV 2 hts gX4_weaverTold_X4_pe rfl rfl rfl (by decide +kernel) ⟨Nat.le_of_ble_eq_true rfl, Nat.le_of_ble_eq_true rfl⟩) hK hZ hP hD hS hA [0, 1] rfl rfl 0 4 rfl rfl rfl rfl hl.1 rfl (Nat.le_of_ble_eq_true rfl) dX4_weaverTold_3 ⟨Nat.le_of_ble_eq_true rfl, Nat.le_of_ble_eq_true rfl⟩) hP hD hS hA [0, 1] [2, 3, 4, 5, 6] [5, 6, 0, 1, 2, 3, 4] rfl rfl rfl (by decide) (fun _ => rfl) rfl (fun r_3 u_3 H locs hp_3 hP hD hS => ?_)
    have hp_3 : r_3 = nI (vM w0) := hp_3
    subst hp_3
    refine lv_istore_n (lv' := [(3, .int (nI (vM w0))), (0, .ref q0), (1, .int (nI 0)), (2, .int (nI 5))]) hx hb dX4_weaverTold_6 rfl hl (by decide) rfl (fun ls hl => ?_)
    refine lv_iload_n hx hb dX4_weaverTold_7 rfl (lv_at hl 3 rfl) ?_
    refine lv_tableIn (off := 78) (tgt := 86) hx hb dX4_weaverTold_8 (by decide) (by decide) rfl (by decide) ?_
    refine lv_iload_n hx hb dX4_weaverTold_86 rfl (lv_at hl 0 rfl) ?_
    refine lv_bipush (v := nI 60) hx hb dX4_weaverTold_87 (by decide) ?_
    refine lv_icmp_ne (tgt := 96) hx hb dX4_weaverTold_89 (by decide) (fun c_89 => ?_) (fun c_89 => ?_)
    · have c_89 : ¬ ((vM w0) = 60) := fun h9 => c_89 ((nI_eq (a := (vM w0)) (b := 60) (by omega) (by omega)).mpr h9)
      refine lv_iload_n hx hb dX4_weaverTold_96 rfl (lv_at hl 0 rfl) ?_
      refine lv_bipush (v := nI 6) hx hb dX4_weaverTold_97 (by decide) ?_
      refine lv_idiv hx hb dX4_weaverTold_99 (by first | decide | (intro h; exact absurd ((nI_eq (by omega) (by omega)).mp h) (by omega))) ?_
      refine lv_topi (fun y_1 hy_1 => ?_)
      obtain rfl : y_1 = nI ((vM w0) / 6) := hy_1.trans (pk_div (a := (vM w0)) (d := 6) (by omega) (by omega) (by omega))
      exact k_iret (ws := [kO q0 4 [.int (nI th), .ref q1, .ref q2, .ref q3, .ref q4, .ref q5, .ref q6], kC G q1 8 (nR (peF w0 w1)), kC G q2 120 (nR (knF w0 w1)), kC G q3 120 (nR (plF w0 w1)), kC G q4 80 (nR ru), kC G q5 8 (nR bf), kC G q6 2 (nR (nuF ho un))]) (()) hx hb hr hlocks hP hD hS hAe hQ (Nat.le_of_ble_eq_true rfl) (Nat.le_of_ble_eq_true rfl) dX4_weaverTold_100 (rfl) (by show _ = (if vM w0 < 60 then _ else _); rw [if_pos (by omega)])
    · have c_89 : (vM w0) = 60 := (nI_eq (a := (vM w0)) (b := 60) (by omega) (by omega)).mp c_89
      refine lv_iconst (v := (-1)) hx hb dX4_weaverTold_92 (by decide) ?_
      refine lv_goto (tgt := 100) hx hb dX4_weaverTold_93 (by decide) ?_
      exact k_iret (ws := [kO q0 4 [.int (nI th), .ref q1, .ref q2, .ref q3, .ref q4, .ref q5, .ref q6], kC G q1 8 (nR (peF w0 w1)), kC G q2 120 (nR (knF w0 w1)), kC G q3 120 (nR (plF w0 w1)), kC G q4 80 (nR ru), kC G q5 8 (nR bf), kC G q6 2 (nR (nuF ho un))]) (()) hx hb hr hlocks hP hD hS hAe hQ (Nat.le_of_ble_eq_true rfl) (Nat.le_of_ble_eq_true rfl) dX4_weaverTold_100 (rfl) (by show _ = (if vM w0 < 60 then _ else _); rw [if_neg (by omega)])
  · refine lv_aload_n hx hb dX4_weaverTold_0 rfl (lv_at hl 0 rfl) ?_
    refine lv_iload_n hx hb dX4_weaverTold_1 rfl (lv_at hl 1 rfl) ?_
    refine lv_iconst (v := nI 1) hx hb dX4_weaverTold_2 (by decide) ?_
    refine k_calli (fun _ => [kO q0 4 [.int (nI th), .ref q1, .ref q2, .ref q3, .ref q4, .ref q5, .ref q6], kC G q1 8 (nR (peF w0 w1)), kC G q2 120 (nR (knF w0 w1)), kC G q3 120 (nR (plF w0 w1)), kC G q4 80 (nR ru), kC G q5 8 (nR bf), kC G q6 2 (nR (nuF ho un))]) [kC G q2 120 (nR (knF w0 w1)), kC G q3 120 (nR (plF w0 w1)), kC G q4 80 (nR ru), kC G q5 8 (nR bf), kC G q6 2 (nR (nuF ho un))] (k_runV (As := [.int (nI 0), .int (nI 1)]) (rest := []) (wc := [kO q0 4 [.int (nI th), .ref q1, .ref q2, .ref q3, .ref q4, .ref q5, .ref q6], kC G q1 8 (nR (peF w0 w1))]) ⟨hx, hb, hml, hown, hts⟩ (m_pe l G q0 q1 q2 q3 q4 q5 q6 th (peF w0 w1) 0 1 (by decide) (by decide)) (cwV 2 hts gX4_weaverTold_X4_pe rfl rfl rfl (by decide +kernel) ⟨Nat.le_of_ble_eq_true rfl, Nat.le_of_ble_eq_true rfl⟩) hK hZ hP hD hS hA [0, 1] rfl rfl 0 4 rfl rfl rfl rfl hl.1 rfl (Nat.le_of_ble_eq_true rfl) dX4_weaverTold_3 ⟨Nat.le_of_ble_eq_true rfl, Nat.le_of_ble_eq_true rfl⟩) hP hD hS hA [0, 1] [2, 3, 4, 5, 6] [5, 6, 0, 1, 2, 3, 4] rfl rfl rfl (by decide) (fun _ => rfl) rfl (fun r_3 u_3 H locs hp_3 hP hD hS => ?_)
    have hp_3 : r_3 = nI (vM w0) := hp_3
    subst hp_3
    refine lv_istore_n (lv' := [(3, .int (nI (vM w0))), (0, .ref q0), (1, .int (nI 0)), (2, .int (nI 6))]) hx hb dX4_weaverTold_6 rfl hl (by decide) rfl (fun ls hl => ?_)
    refine lv_iload_n hx hb dX4_weaverTold_7 rfl (lv_at hl 3 rfl) ?_
    refine lv_tableOut (tgt := 101) hx hb dX4_weaverTold_8 (by decide) (by decide) ?_
    refine lv_aload_n hx hb dX4_weaverTold_101 rfl (lv_at hl 1 rfl) ?_
    refine lv_iload_n hx hb dX4_weaverTold_102 rfl (lv_at hl 2 rfl) ?_
    refine lv_iconst (v := nI 3) hx hb dX4_weaverTold_103 (by decide) ?_
    refine k_calli (fun _ => [kO q0 4 [.int (nI th), .ref q1, .ref q2, .ref q3, .ref q4, .ref q5, .ref q6], kC G q1 8 (nR (peF w0 w1)), kC G q2 120 (nR (knF w0 w1)), kC G q3 120 (nR (plF w0 w1)), kC G q4 80 (nR ru), kC G q5 8 (nR bf), kC G q6 2 (nR (nuF ho un))]) [kC G q2 120 (nR (knF w0 w1)), kC G q3 120 (nR (plF w0 w1)), kC G q4 80 (nR ru), kC G q5 8 (nR bf), kC G q6 2 (nR (nuF ho un))] (k_runV (As := [.int (nI 0), .int (nI 3)]) (rest := []) (wc := [kO q0 4 [.int (nI th), .ref q1, .ref q2, .ref q3, .ref q4, .ref q5, .ref q6], kC G q1 8 (nR (peF w0 w1))]) ⟨hx, hb, hml, hown, hts⟩ (m_pe l G q0 q1 q2 q3 q4 q5 q6 th (peF w0 w1) 0 3 (by decide) (by decide)) (cwV 2 hts gX4_weaverTold_X4_pe rfl rfl rfl (by decide +kernel) ⟨Nat.le_of_ble_eq_true rfl, Nat.le_of_ble_eq_true rfl⟩) hK hZ hP hD hS hA [0, 1] rfl rfl 0 4 rfl rfl rfl rfl hl.1 rfl (Nat.le_of_ble_eq_true rfl) dX4_weaverTold_104 ⟨Nat.le_of_ble_eq_true rfl, Nat.le_of_ble_eq_true rfl⟩) hP hD hS hA [0, 1] [2, 3, 4, 5, 6] [5, 6, 0, 1, 2, 3, 4] rfl rfl rfl (by decide) (fun _ => rfl) rfl (fun r_104 u_104 H locs hp_104 hP hD hS => ?_)
    have hp_104 : r_104 = nI (vO w0) := hp_104
    subst hp_104
    exact k_iret (ws := [kO q0 4 [.int (nI th), .ref q1, .ref q2, .ref q3, .ref q4, .ref q5, .ref q6], kC G q1 8 (nR (peF w0 w1)), kC G q2 120 (nR (knF w0 w1)), kC G q3 120 (nR (plF w0 w1)), kC G q4 80 (nR ru), kC G q5 8 (nR bf), kC G q6 2 (nR (nuF ho un))]) (()) hx hb hr hlocks hP hD hS hAe hQ (Nat.le_of_ble_eq_true rfl) (Nat.le_of_ble_eq_true rfl) dX4_weaverTold_107 (rfl) (rfl)
set_option maxHeartbeats 4000000 in
set_option maxRecDepth 100000 in
theorem m_weaverTold1 (l : Launch) (G : kG) (q0 : Nat) (q1 : Nat) (q2 : Nat) (q3 : Nat) (q4 : Nat) (q5 : Nat) (q6 : Nat) (w0 : Wv) (w1 : Wv) (bf : Nat → Nat) (ho : Nat) (un : Nat) (ru : Nat → Nat) (th : Nat) (k : Nat) (hk : k < 7) (h0 : wOk w0) (h1 : wOk w1) (hru : ruOk w0 w1 ru) : kM l G yX4_weaverTold wsX4_weaverTold ({ frames := 2, cells := 0, slots := 0, locals := 45 } : Room) [.ref q0, .int (nI 1), .int (nI k)] [kO q0 4 [.int (nI th), .ref q1, .ref q2, .ref q3, .ref q4, .ref q5, .ref q6], kC G q1 8 (nR (peF w0 w1)), kC G q2 120 (nR (knF w0 w1)), kC G q3 120 (nR (plF w0 w1)), kC G q4 80 (nR ru), kC G q5 8 (nR bf), kC G q6 2 (nR (nuF ho un))] (kQi G [kO q0 4 [.int (nI th), .ref q1, .ref q2, .ref q3, .ref q4, .ref q5, .ref q6], kC G q1 8 (nR (peF w0 w1)), kC G q2 120 (nR (knF w0 w1)), kC G q3 120 (nR (plF w0 w1)), kC G q4 80 (nR ru), kC G q5 8 (nR bf), kC G q6 2 (nR (nuF ho un))] (fun (r : Int32) (_ : Unit) => r = wNumW 1 w1 k) (fun (_ : Unit) => [kO q0 4 [.int (nI th), .ref q1, .ref q2, .ref q3, .ref q4, .ref q5, .ref q6], kC G q1 8 (nR (peF w0 w1)), kC G q2 120 (nR (knF w0 w1)), kC G q3 120 (nR (plF w0 w1)), kC G q4 80 (nR ru), kC G q5 8 (nR bf), kC G q6 2 (nR (nuF ho un))])) := by
  refine k_ofW (cc := cX4_weaverTold) (maxL := 4) (rt := (some .int)) (by decide) rfl (Nat.le_of_ble_eq_true rfl) ?_
  intro p e s m args below meth c A ls Qs H locs hQ hAe hx hb hr hml hts hown hlocks hin hK hZ hP hD hS hA hl
  have hown : s.vm.findClass RX4 = some m.cls := hown
  have hl : lv_has ls 4 [(0, .ref q0), (1, .int (nI 1)), (2, .int (nI k))] := hl
  have m0b : vM w0 ≤ 60 := h0.2.2.2.1
  have m1b : vM w1 ≤ 60 := h1.2.2.2.1
  have t0b : vT w0 ≤ 20 := h0.2.2.1
  have t1b : vT w1 ≤ 20 := h1.2.2.1
  have pb0 : ∀ i, i < 60 → vP w0 i < 8 := h0.2.2.2.2.1
  have pb1 : ∀ i, i < 60 → vP w1 i < 8 := h1.2.2.2.2.1
  have kb0 : ∀ i, i < 60 → vK w0 i < 8 := h0.2.2.2.2.2.1
  have kb1 : ∀ i, i < 60 → vK w1 i < 8 := h1.2.2.2.2.2.1
  have rk0 := hru.1
  have rk1 := hru.2
  rcases (show k = 0 ∨ k = 1 ∨ k = 2 ∨ k = 3 ∨ k = 4 ∨ k = 5 ∨ k = 6 by omega) with rfl | rfl | rfl | rfl | rfl | rfl | rfl
  · refine lv_aload_n hx hb dX4_weaverTold_0 rfl (lv_at hl 0 rfl) ?_
    refine lv_iload_n hx hb dX4_weaverTold_1 rfl (lv_at hl 1 rfl) ?_
    refine lv_iconst (v := nI 1) hx hb dX4_weaverTold_2 (by decide) ?_
    refine k_calli (fun _ => [kO q0 4 [.int (nI th), .ref q1, .ref q2, .ref q3, .ref q4, .ref q5, .ref q6], kC G q1 8 (nR (peF w0 w1)), kC G q2 120 (nR (knF w0 w1)), kC G q3 120 (nR (plF w0 w1)), kC G q4 80 (nR ru), kC G q5 8 (nR bf), kC G q6 2 (nR (nuF ho un))]) [kC G q2 120 (nR (knF w0 w1)), kC G q3 120 (nR (plF w0 w1)), kC G q4 80 (nR ru), kC G q5 8 (nR bf), kC G q6 2 (nR (nuF ho un))] (k_runV (As := [.int (nI 1), .int (nI 1)]) (rest := []) (wc := [kO q0 4 [.int (nI th), .ref q1, .ref q2, .ref q3, .ref q4, .ref q5, .ref q6], kC G q1 8 (nR (peF w0 w1))]) ⟨hx, hb, hml, hown, hts⟩ (m_pe l G q0 q1 q2 q3 q4 q5 q6 th (peF w0 w1) 1 1 (by decide) (by decide)) (cwV 2 hts gX4_weaverTold_X4_pe rfl rfl rfl (by decide +kernel) ⟨Nat.le_of_ble_eq_true rfl, Nat.le_of_ble_eq_true rfl⟩) hK hZ hP hD hS hA [0, 1] rfl rfl 0 4 rfl rfl rfl rfl hl.1 rfl (Nat.le_of_ble_eq_true rfl) dX4_weaverTold_3 ⟨Nat.le_of_ble_eq_true rfl, Nat.le_of_ble_eq_true rfl⟩) hP hD hS hA [0, 1] [2, 3, 4, 5, 6] [5, 6, 0, 1, 2, 3, 4] rfl rfl rfl (by decide) (fun _ => rfl) rfl (fun r_3 u_3 H locs hp_3 hP hD hS => ?_)
    have hp_3 : r_3 = nI (vM w1) := hp_3
    subst hp_3
    refine lv_istore_n (lv' := [(3, .int (nI (vM w1))), (0, .ref q0), (1, .int (nI 1)), (2, .int (nI 0))]) hx hb dX4_weaverTold_6 rfl hl (by decide) rfl (fun ls hl => ?_)
    refine lv_iload_n hx hb dX4_weaverTold_7 rfl (lv_at hl 3 rfl) ?_
    refine lv_tableIn (off := 40) (tgt := 48) hx hb dX4_weaverTold_8 (by decide) (by decide) rfl (by decide) ?_
    refine lv_aload_n hx hb dX4_weaverTold_48 rfl (lv_at hl 1 rfl) ?_
    refine lv_iload_n hx hb dX4_weaverTold_49 rfl (lv_at hl 2 rfl) ?_
    refine lv_iconst (v := nI 0) hx hb dX4_weaverTold_50 (by decide) ?_
    refine k_calli (fun _ => [kO q0 4 [.int (nI th), .ref q1, .ref q2, .ref q3, .ref q4, .ref q5, .ref q6], kC G q1 8 (nR (peF w0 w1)), kC G q2 120 (nR (knF w0 w1)), kC G q3 120 (nR (plF w0 w1)), kC G q4 80 (nR ru), kC G q5 8 (nR bf), kC G q6 2 (nR (nuF ho un))]) [kC G q2 120 (nR (knF w0 w1)), kC G q3 120 (nR (plF w0 w1)), kC G q4 80 (nR ru), kC G q5 8 (nR bf), kC G q6 2 (nR (nuF ho un))] (k_runV (As := [.int (nI 1), .int (nI 0)]) (rest := []) (wc := [kO q0 4 [.int (nI th), .ref q1, .ref q2, .ref q3, .ref q4, .ref q5, .ref q6], kC G q1 8 (nR (peF w0 w1))]) ⟨hx, hb, hml, hown, hts⟩ (m_pe l G q0 q1 q2 q3 q4 q5 q6 th (peF w0 w1) 1 0 (by decide) (by decide)) (cwV 2 hts gX4_weaverTold_X4_pe rfl rfl rfl (by decide +kernel) ⟨Nat.le_of_ble_eq_true rfl, Nat.le_of_ble_eq_true rfl⟩) hK hZ hP hD hS hA [0, 1] rfl rfl 0 4 rfl rfl rfl rfl hl.1 rfl (Nat.le_of_ble_eq_true rfl) dX4_weaverTold_51 ⟨Nat.le_of_ble_eq_true rfl, Nat.le_of_ble_eq_true rfl⟩) hP hD hS hA [0, 1] [2, 3, 4, 5, 6] [5, 6, 0, 1, 2, 3, 4] rfl rfl rfl (by decide) (fun _ => rfl) rfl (fun r_51 u_51 H locs hp_51 hP hD hS => ?_)
    have hp_51 : r_51 = nI (vS w1) := hp_51
    subst hp_51
    exact k_iret (ws := [kO q0 4 [.int (nI th), .ref q1, .ref q2, .ref q3, .ref q4, .ref q5, .ref q6], kC G q1 8 (nR (peF w0 w1)), kC G q2 120 (nR (knF w0 w1)), kC G q3 120 (nR (plF w0 w1)), kC G q4 80 (nR ru), kC G q5 8 (nR bf), kC G q6 2 (nR (nuF ho un))]) (()) hx hb hr hlocks hP hD hS hAe hQ (Nat.le_of_ble_eq_true rfl) (Nat.le_of_ble_eq_true rfl) dX4_weaverTold_54 (rfl) (rfl)
  · refine lv_aload_n hx hb dX4_weaverTold_0 rfl (lv_at hl 0 rfl) ?_
    refine lv_iload_n hx hb dX4_weaverTold_1 rfl (lv_at hl 1 rfl) ?_
    refine lv_iconst (v := nI 1) hx hb dX4_weaverTold_2 (by decide) ?_
    refine k_calli (fun _ => [kO q0 4 [.int (nI th), .ref q1, .ref q2, .ref q3, .ref q4, .ref q5, .ref q6], kC G q1 8 (nR (peF w0 w1)), kC G q2 120 (nR (knF w0 w1)), kC G q3 120 (nR (plF w0 w1)), kC G q4 80 (nR ru), kC G q5 8 (nR bf), kC G q6 2 (nR (nuF ho un))]) [kC G q2 120 (nR (knF w0 w1)), kC G q3 120 (nR (plF w0 w1)), kC G q4 80 (nR ru), kC G q5 8 (nR bf), kC G q6 2 (nR (nuF ho un))] (k_runV (As := [.int (nI 1), .int (nI 1)]) (rest := []) (wc := [kO q0 4 [.int (nI th), .ref q1, .ref q2, .ref q3, .ref q4, .ref q5, .ref q6], kC G q1 8 (nR (peF w0 w1))]) ⟨hx, hb, hml, hown, hts⟩ (m_pe l G q0 q1 q2 q3 q4 q5 q6 th (peF w0 w1) 1 1 (by decide) (by decide)) (cwV 2 hts gX4_weaverTold_X4_pe rfl rfl rfl (by decide +kernel) ⟨Nat.le_of_ble_eq_true rfl, Nat.le_of_ble_eq_true rfl⟩) hK hZ hP hD hS hA [0, 1] rfl rfl 0 4 rfl rfl rfl rfl hl.1 rfl (Nat.le_of_ble_eq_true rfl) dX4_weaverTold_3 ⟨Nat.le_of_ble_eq_true rfl, Nat.le_of_ble_eq_true rfl⟩) hP hD hS hA [0, 1] [2, 3, 4, 5, 6] [5, 6, 0, 1, 2, 3, 4] rfl rfl rfl (by decide) (fun _ => rfl) rfl (fun r_3 u_3 H locs hp_3 hP hD hS => ?_)
    have hp_3 : r_3 = nI (vM w1) := hp_3
    subst hp_3
    refine lv_istore_n (lv' := [(3, .int (nI (vM w1))), (0, .ref q0), (1, .int (nI 1)), (2, .int (nI 1))]) hx hb dX4_weaverTold_6 rfl hl (by decide) rfl (fun ls hl => ?_)
    refine lv_iload_n hx hb dX4_weaverTold_7 rfl (lv_at hl 3 rfl) ?_
    refine lv_tableIn (off := 47) (tgt := 55) hx hb dX4_weaverTold_8 (by decide) (by decide) rfl (by decide) ?_
    refine lv_aload_n hx hb dX4_weaverTold_55 rfl (lv_at hl 1 rfl) ?_
    refine lv_iload_n hx hb dX4_weaverTold_56 rfl (lv_at hl 2 rfl) ?_
    refine lv_iconst (v := nI 2) hx hb dX4_weaverTold_57 (by decide) ?_
    refine k_calli (fun _ => [kO q0 4 [.int (nI th), .ref q1, .ref q2, .ref q3, .ref q4, .ref q5, .ref q6], kC G q1 8 (nR (peF w0 w1)), kC G q2 120 (nR (knF w0 w1)), kC G q3 120 (nR (plF w0 w1)), kC G q4 80 (nR ru), kC G q5 8 (nR bf), kC G q6 2 (nR (nuF ho un))]) [kC G q2 120 (nR (knF w0 w1)), kC G q3 120 (nR (plF w0 w1)), kC G q4 80 (nR ru), kC G q5 8 (nR bf), kC G q6 2 (nR (nuF ho un))] (k_runV (As := [.int (nI 1), .int (nI 2)]) (rest := []) (wc := [kO q0 4 [.int (nI th), .ref q1, .ref q2, .ref q3, .ref q4, .ref q5, .ref q6], kC G q1 8 (nR (peF w0 w1))]) ⟨hx, hb, hml, hown, hts⟩ (m_pe l G q0 q1 q2 q3 q4 q5 q6 th (peF w0 w1) 1 2 (by decide) (by decide)) (cwV 2 hts gX4_weaverTold_X4_pe rfl rfl rfl (by decide +kernel) ⟨Nat.le_of_ble_eq_true rfl, Nat.le_of_ble_eq_true rfl⟩) hK hZ hP hD hS hA [0, 1] rfl rfl 0 4 rfl rfl rfl rfl hl.1 rfl (Nat.le_of_ble_eq_true rfl) dX4_weaverTold_58 ⟨Nat.le_of_ble_eq_true rfl, Nat.le_of_ble_eq_true rfl⟩) hP hD hS hA [0, 1] [2, 3, 4, 5, 6] [5, 6, 0, 1, 2, 3, 4] rfl rfl rfl (by decide) (fun _ => rfl) rfl (fun r_58 u_58 H locs hp_58 hP hD hS => ?_)
    have hp_58 : r_58 = nI (vT w1) := hp_58
    subst hp_58
    exact k_iret (ws := [kO q0 4 [.int (nI th), .ref q1, .ref q2, .ref q3, .ref q4, .ref q5, .ref q6], kC G q1 8 (nR (peF w0 w1)), kC G q2 120 (nR (knF w0 w1)), kC G q3 120 (nR (plF w0 w1)), kC G q4 80 (nR ru), kC G q5 8 (nR bf), kC G q6 2 (nR (nuF ho un))]) (()) hx hb hr hlocks hP hD hS hAe hQ (Nat.le_of_ble_eq_true rfl) (Nat.le_of_ble_eq_true rfl) dX4_weaverTold_61 (rfl) (rfl)
  · refine lv_aload_n hx hb dX4_weaverTold_0 rfl (lv_at hl 0 rfl) ?_
    refine lv_iload_n hx hb dX4_weaverTold_1 rfl (lv_at hl 1 rfl) ?_
    refine lv_iconst (v := nI 1) hx hb dX4_weaverTold_2 (by decide) ?_
    refine k_calli (fun _ => [kO q0 4 [.int (nI th), .ref q1, .ref q2, .ref q3, .ref q4, .ref q5, .ref q6], kC G q1 8 (nR (peF w0 w1)), kC G q2 120 (nR (knF w0 w1)), kC G q3 120 (nR (plF w0 w1)), kC G q4 80 (nR ru), kC G q5 8 (nR bf), kC G q6 2 (nR (nuF ho un))]) [kC G q2 120 (nR (knF w0 w1)), kC G q3 120 (nR (plF w0 w1)), kC G q4 80 (nR ru), kC G q5 8 (nR bf), kC G q6 2 (nR (nuF ho un))] (k_runV (As := [.int (nI 1), .int (nI 1)]) (rest := []) (wc := [kO q0 4 [.int (nI th), .ref q1, .ref q2, .ref q3, .ref q4, .ref q5, .ref q6], kC G q1 8 (nR (peF w0 w1))]) ⟨hx, hb, hml, hown, hts⟩ (m_pe l G q0 q1 q2 q3 q4 q5 q6 th (peF w0 w1) 1 1 (by decide) (by decide)) (cwV 2 hts gX4_weaverTold_X4_pe rfl rfl rfl (by decide +kernel) ⟨Nat.le_of_ble_eq_true rfl, Nat.le_of_ble_eq_true rfl⟩) hK hZ hP hD hS hA [0, 1] rfl rfl 0 4 rfl rfl rfl rfl hl.1 rfl (Nat.le_of_ble_eq_true rfl) dX4_weaverTold_3 ⟨Nat.le_of_ble_eq_true rfl, Nat.le_of_ble_eq_true rfl⟩) hP hD hS hA [0, 1] [2, 3, 4, 5, 6] [5, 6, 0, 1, 2, 3, 4] rfl rfl rfl (by decide) (fun _ => rfl) rfl (fun r_3 u_3 H locs hp_3 hP hD hS => ?_)
    have hp_3 : r_3 = nI (vM w1) := hp_3
    subst hp_3
    refine lv_istore_n (lv' := [(3, .int (nI (vM w1))), (0, .ref q0), (1, .int (nI 1)), (2, .int (nI 2))]) hx hb dX4_weaverTold_6 rfl hl (by decide) rfl (fun ls hl => ?_)
    refine lv_iload_n hx hb dX4_weaverTold_7 rfl (lv_at hl 3 rfl) ?_
    refine lv_tableIn (off := 54) (tgt := 62) hx hb dX4_weaverTold_8 (by decide) (by decide) rfl (by decide) ?_
    refine lv_aload_n hx hb dX4_weaverTold_62 rfl (lv_at hl 1 rfl) ?_
    refine lv_iload_n hx hb dX4_weaverTold_63 rfl (lv_at hl 2 rfl) ?_
    refine k_calli (fun _ => [kO q0 4 [.int (nI th), .ref q1, .ref q2, .ref q3, .ref q4, .ref q5, .ref q6], kC G q1 8 (nR (peF w0 w1)), kC G q2 120 (nR (knF w0 w1)), kC G q3 120 (nR (plF w0 w1)), kC G q4 80 (nR ru), kC G q5 8 (nR bf), kC G q6 2 (nR (nuF ho un))]) [] (k_runV (As := [.int (nI 1)]) (rest := []) (wc := [kO q0 4 [.int (nI th), .ref q1, .ref q2, .ref q3, .ref q4, .ref q5, .ref q6], kC G q1 8 (nR (peF w0 w1)), kC G q2 120 (nR (knF w0 w1)), kC G q3 120 (nR (plF w0 w1)), kC G q4 80 (nR ru), kC G q5 8 (nR bf), kC G q6 2 (nR (nuF ho un))]) ⟨hx, hb, hml, hown, hts⟩ (m_told1 l G q0 q1 q2 q3 q4 q5 q6 w0 w1 bf ho un ru th h0 h1 hru) (cwV 1 hts gX4_weaverTold_X4_told rfl rfl rfl (by decide +kernel) ⟨Nat.le_of_ble_eq_true rfl, Nat.le_of_ble_eq_true rfl⟩) hK hZ hP hD hS hA [0, 1, 2, 3, 4, 5, 6] rfl rfl 0 4 rfl rfl rfl rfl hl.1 rfl (Nat.le_of_ble_eq_true rfl) dX4_weaverTold_64 ⟨Nat.le_of_ble_eq_true rfl, Nat.le_of_ble_eq_true rfl⟩) hP hD hS hA [0, 1, 2, 3, 4, 5, 6] [] [0, 1, 2, 3, 4, 5, 6] rfl rfl rfl (by decide) (fun _ => rfl) rfl (fun r_64 u_64 H locs hp_64 hP hD hS => ?_)
    have hp_64 : r_64 = nI (sumN (vN w1) (vT w1)) := hp_64
    subst hp_64
    exact k_iret (ws := [kO q0 4 [.int (nI th), .ref q1, .ref q2, .ref q3, .ref q4, .ref q5, .ref q6], kC G q1 8 (nR (peF w0 w1)), kC G q2 120 (nR (knF w0 w1)), kC G q3 120 (nR (plF w0 w1)), kC G q4 80 (nR ru), kC G q5 8 (nR bf), kC G q6 2 (nR (nuF ho un))]) (()) hx hb hr hlocks hP hD hS hAe hQ (Nat.le_of_ble_eq_true rfl) (Nat.le_of_ble_eq_true rfl) dX4_weaverTold_67 (rfl) (rfl)
  · refine lv_aload_n hx hb dX4_weaverTold_0 rfl (lv_at hl 0 rfl) ?_
    refine lv_iload_n hx hb dX4_weaverTold_1 rfl (lv_at hl 1 rfl) ?_
    refine lv_iconst (v := nI 1) hx hb dX4_weaverTold_2 (by decide) ?_
    refine k_calli (fun _ => [kO q0 4 [.int (nI th), .ref q1, .ref q2, .ref q3, .ref q4, .ref q5, .ref q6], kC G q1 8 (nR (peF w0 w1)), kC G q2 120 (nR (knF w0 w1)), kC G q3 120 (nR (plF w0 w1)), kC G q4 80 (nR ru), kC G q5 8 (nR bf), kC G q6 2 (nR (nuF ho un))]) [kC G q2 120 (nR (knF w0 w1)), kC G q3 120 (nR (plF w0 w1)), kC G q4 80 (nR ru), kC G q5 8 (nR bf), kC G q6 2 (nR (nuF ho un))] (k_runV (As := [.int (nI 1), .int (nI 1)]) (rest := []) (wc := [kO q0 4 [.int (nI th), .ref q1, .ref q2, .ref q3, .ref q4, .ref q5, .ref q6], kC G q1 8 (nR (peF w0 w1))]) ⟨hx, hb, hml, hown, hts⟩ (m_pe l G q0 q1 q2 q3 q4 q5 q6 th (peF w0 w1) 1 1 (by decide) (by decide)) (cwV 2 hts gX4_weaverTold_X4_pe rfl rfl rfl (by decide +kernel) ⟨Nat.le_of_ble_eq_true rfl, Nat.le_of_ble_eq_true rfl⟩) hK hZ hP hD hS hA [0, 1] rfl rfl 0 4 rfl rfl rfl rfl hl.1 rfl (Nat.le_of_ble_eq_true rfl) dX4_weaverTold_3 ⟨Nat.le_of_ble_eq_true rfl, Nat.le_of_ble_eq_true rfl⟩) hP hD hS hA [0, 1] [2, 3, 4, 5, 6] [5, 6, 0, 1, 2, 3, 4] rfl rfl rfl (by decide) (fun _ => rfl) rfl (fun r_3 u_3 H locs hp_3 hP hD hS => ?_)
    have hp_3 : r_3 = nI (vM w1) := hp_3
    subst hp_3
    refine lv_istore_n (lv' := [(3, .int (nI (vM w1))), (0, .ref q0), (1, .int (nI 1)), (2, .int (nI 3))]) hx hb dX4_weaverTold_6 rfl hl (by decide) rfl (fun ls hl => ?_)
    refine lv_iload_n hx hb dX4_weaverTold_7 rfl (lv_at hl 3 rfl) ?_
    refine lv_tableIn (off := 60) (tgt := 68) hx hb dX4_weaverTold_8 (by decide) (by decide) rfl (by decide) ?_
    refine lv_iload_n hx hb dX4_weaverTold_68 rfl (lv_at hl 0 rfl) ?_
    exact k_iret (ws := [kO q0 4 [.int (nI th), .ref q1, .ref q2, .ref q3, .ref q4, .ref q5, .ref q6], kC G q1 8 (nR (peF w0 w1)), kC G q2 120 (nR (knF w0 w1)), kC G q3 120 (nR (plF w0 w1)), kC G q4 80 (nR ru), kC G q5 8 (nR bf), kC G q6 2 (nR (nuF ho un))]) (()) hx hb hr hlocks hP hD hS hAe hQ (Nat.le_of_ble_eq_true rfl) (Nat.le_of_ble_eq_true rfl) dX4_weaverTold_69 (rfl) (rfl)
  · refine lv_aload_n hx hb dX4_weaverTold_0 rfl (lv_at hl 0 rfl) ?_
    refine lv_iload_n hx hb dX4_weaverTold_1 rfl (lv_at hl 1 rfl) ?_
    refine lv_iconst (v := nI 1) hx hb dX4_weaverTold_2 (by decide) ?_
    refine k_calli (fun _ => [kO q0 4 [.int (nI th), .ref q1, .ref q2, .ref q3, .ref q4, .ref q5, .ref q6], kC G q1 8 (nR (peF w0 w1)), kC G q2 120 (nR (knF w0 w1)), kC G q3 120 (nR (plF w0 w1)), kC G q4 80 (nR ru), kC G q5 8 (nR bf), kC G q6 2 (nR (nuF ho un))]) [kC G q2 120 (nR (knF w0 w1)), kC G q3 120 (nR (plF w0 w1)), kC G q4 80 (nR ru), kC G q5 8 (nR bf), kC G q6 2 (nR (nuF ho un))] (k_runV (As := [.int (nI 1), .int (nI 1)]) (rest := []) (wc := [kO q0 4 [.int (nI th), .ref q1, .ref q2, .ref q3, .ref q4, .ref q5, .ref q6], kC G q1 8 (nR (peF w0 w1))]) ⟨hx, hb, hml, hown, hts⟩ (m_pe l G q0 q1 q2 q3 q4 q5 q6 th (peF w0 w1) 1 1 (by decide) (by decide)) (cwV 2 hts gX4_weaverTold_X4_pe rfl rfl rfl (by decide +kernel) ⟨Nat.le_of_ble_eq_true rfl, Nat.le_of_ble_eq_true rfl⟩) hK hZ hP hD hS hA [0, 1] rfl rfl 0 4 rfl rfl rfl rfl hl.1 rfl (Nat.le_of_ble_eq_true rfl) dX4_weaverTold_3 ⟨Nat.le_of_ble_eq_true rfl, Nat.le_of_ble_eq_true rfl⟩) hP hD hS hA [0, 1] [2, 3, 4, 5, 6] [5, 6, 0, 1, 2, 3, 4] rfl rfl rfl (by decide) (fun _ => rfl) rfl (fun r_3 u_3 H locs hp_3 hP hD hS => ?_)
    have hp_3 : r_3 = nI (vM w1) := hp_3
    subst hp_3
    refine lv_istore_n (lv' := [(3, .int (nI (vM w1))), (0, .ref q0), (1, .int (nI 1)), (2, .int (nI 4))]) hx hb dX4_weaverTold_6 rfl hl (by decide) rfl (fun ls hl => ?_)
    refine lv_iload_n hx hb dX4_weaverTold_7 rfl (lv_at hl 3 rfl) ?_
    refine lv_tableIn (off := 62) (tgt := 70) hx hb dX4_weaverTold_8 (by decide) (by decide) rfl (by decide) ?_
    refine lv_iload_n hx hb dX4_weaverTold_70 rfl (lv_at hl 0 rfl) ?_
    refine lv_bipush (v := nI 60) hx hb dX4_weaverTold_71 (by decide) ?_
    refine lv_icmp_ne (tgt := 80) hx hb dX4_weaverTold_73 (by decide) (fun c_73 => ?_) (fun c_73 => ?_)
    · have c_73 : ¬ ((vM w1) = 60) := fun h9 => c_73 ((nI_eq (a := (vM w1)) (b := 60) (by omega) (by omega)).mpr h9)
      refine lv_iload_n hx hb dX4_weaverTold_80 rfl (lv_at hl 2 rfl) ?_
      refine lv_iload_n hx hb dX4_weaverTold_81 rfl (lv_at hl 0 rfl) ?_
      refine k_calli (fun _ => [kO q0 4 [.int (nI th), .ref q1, .ref q2, .ref q3, .ref q4, .ref q5, .ref q6], kC G q1 8 (nR (peF w0 w1)), kC G q2 120 (nR (knF w0 w1)), kC G q3 120 (nR (plF w0 w1)), kC G q4 80 (nR ru), kC G q5 8 (nR bf), kC G q6 2 (nR (nuF ho un))]) [kO q0 4 [.int (nI th), .ref q1, .ref q2, .ref q3, .ref q4, .ref q5, .ref q6], kC G q1 8 (nR (peF w0 w1)), kC G q2 120 (nR (knF w0 w1)), kC G q3 120 (nR (plF w0 w1)), kC G q4 80 (nR ru), kC G q5 8 (nR bf), kC G q6 2 (nR (nuF ho un))] (k_runS (As := [.int (nI 1), .int (nI (vM w1))]) (rest := []) (wc := []) ⟨hx, hb, hml, hown, hts⟩ (m_xOf l G 1 (vM w1) (by decide) (by omega)) (va_cwS 2 hts gX4_weaverTold_X4_xOf rfl rfl rfl (by decide +kernel) ⟨Nat.le_of_ble_eq_true rfl, Nat.le_of_ble_eq_true rfl⟩) hK hZ hP hD hS hA [] rfl rfl rfl hl.1 rfl (Nat.le_of_ble_eq_true rfl) dX4_weaverTold_82 ⟨Nat.le_of_ble_eq_true rfl, Nat.le_of_ble_eq_true rfl⟩) hP hD hS hA [] [0, 1, 2, 3, 4, 5, 6] [0, 1, 2, 3, 4, 5, 6] rfl rfl rfl (by decide) (fun _ => rfl) rfl (fun r_82 u_82 H locs hp_82 hP hD hS => ?_)
      have hp_82 : r_82 = nI (if 1 = 0 then (vM w1) % 6 else 11 - (vM w1) % 6) := hp_82
      subst hp_82
      exact k_iret (ws := [kO q0 4 [.int (nI th), .ref q1, .ref q2, .ref q3, .ref q4, .ref q5, .ref q6], kC G q1 8 (nR (peF w0 w1)), kC G q2 120 (nR (knF w0 w1)), kC G q3 120 (nR (plF w0 w1)), kC G q4 80 (nR ru), kC G q5 8 (nR bf), kC G q6 2 (nR (nuF ho un))]) (()) hx hb hr hlocks hP hD hS hAe hQ (Nat.le_of_ble_eq_true rfl) (Nat.le_of_ble_eq_true rfl) dX4_weaverTold_85 (rfl) (by show _ = nxN 1 (vM w1); exact (if_pos (by omega : vM w1 < 60)).symm)
    · have c_73 : (vM w1) = 60 := (nI_eq (a := (vM w1)) (b := 60) (by omega) (by omega)).mp c_73
      refine lv_iconst (v := (-1)) hx hb dX4_weaverTold_76 (by decide) ?_
      refine lv_goto (tgt := 85) hx hb dX4_weaverTold_77 (by decide) ?_
      exact k_iret (ws := [kO q0 4 [.int (nI th), .ref q1, .ref q2, .ref q3, .ref q4, .ref q5, .ref q6], kC G q1 8 (nR (peF w0 w1)), kC G q2 120 (nR (knF w0 w1)), kC G q3 120 (nR (plF w0 w1)), kC G q4 80 (nR ru), kC G q5 8 (nR bf), kC G q6 2 (nR (nuF ho un))]) (()) hx hb hr hlocks hP hD hS hAe hQ (Nat.le_of_ble_eq_true rfl) (Nat.le_of_ble_eq_true rfl) dX4_weaverTold_85 (rfl) (by show _ = nxN 1 (vM w1); exact (if_neg (by omega : ¬ vM w1 < 60)).symm)
  · refine lv_aload_n hx hb dX4_weaverTold_0 rfl (lv_at hl 0 rfl) ?_
    refine lv_iload_n hx hb dX4_weaverTold_1 rfl (lv_at hl 1 rfl) ?_
    refine lv_iconst (v := nI 1) hx hb dX4_weaverTold_2 (by decide) ?_
    refine k_calli (fun _ => [kO q0 4 [.int (nI th), .ref q1, .ref q2, .ref q3, .ref q4, .ref q5, .ref q6], kC G q1 8 (nR (peF w0 w1)), kC G q2 120 (nR (knF w0 w1)), kC G q3 120 (nR (plF w0 w1)), kC G q4 80 (nR ru), kC G q5 8 (nR bf), kC G q6 2 (nR (nuF ho un))]) [kC G q2 120 (nR (knF w0 w1)), kC G q3 120 (nR (plF w0 w1)), kC G q4 80 (nR ru), kC G q5 8 (nR bf), kC G q6 2 (nR (nuF ho un))] (k_runV (As := [.int (nI 1), .int (nI 1)]) (rest := []) (wc := [kO q0 4 [.int (nI th), .ref q1, .ref q2, .ref q3, .ref q4, .ref q5, .ref q6], kC G q1 8 (nR (peF w0 w1))]) ⟨hx, hb, hml, hown, hts⟩ (m_pe l G q0 q1 q2 q3 q4 q5 q6 th (peF w0 w1) 1 1 (by decide) (by decide)) (cwV 2 hts gX4_weaverTold_X4_pe rfl rfl rfl (by decide +kernel) ⟨Nat.le_of_ble_eq_true rfl, Nat.le_of_ble_eq_true rfl⟩) hK hZ hP hD hS hA [0, 1] rfl rfl 0 4 rfl rfl rfl rfl hl.1 rfl (Nat.le_of_ble_eq_true rfl) dX4_weaverTold_3 ⟨Nat.le_of_ble_eq_true rfl, Nat.le_of_ble_eq_true rfl⟩) hP hD hS hA [0, 1] [2, 3, 4, 5, 6] [5, 6, 0, 1, 2, 3, 4] rfl rfl rfl (by decide) (fun _ => rfl) rfl (fun r_3 u_3 H locs hp_3 hP hD hS => ?_)
    have hp_3 : r_3 = nI (vM w1) := hp_3
    subst hp_3
    refine lv_istore_n (lv' := [(3, .int (nI (vM w1))), (0, .ref q0), (1, .int (nI 1)), (2, .int (nI 5))]) hx hb dX4_weaverTold_6 rfl hl (by decide) rfl (fun ls hl => ?_)
    refine lv_iload_n hx hb dX4_weaverTold_7 rfl (lv_at hl 3 rfl) ?_
    refine lv_tableIn (off := 78) (tgt := 86) hx hb dX4_weaverTold_8 (by decide) (by decide) rfl (by decide) ?_
    refine lv_iload_n hx hb dX4_weaverTold_86 rfl (lv_at hl 0 rfl) ?_
    refine lv_bipush (v := nI 60) hx hb dX4_weaverTold_87 (by decide) ?_
    refine lv_icmp_ne (tgt := 96) hx hb dX4_weaverTold_89 (by decide) (fun c_89 => ?_) (fun c_89 => ?_)
    · have c_89 : ¬ ((vM w1) = 60) := fun h9 => c_89 ((nI_eq (a := (vM w1)) (b := 60) (by omega) (by omega)).mpr h9)
      refine lv_iload_n hx hb dX4_weaverTold_96 rfl (lv_at hl 0 rfl) ?_
      refine lv_bipush (v := nI 6) hx hb dX4_weaverTold_97 (by decide) ?_
      refine lv_idiv hx hb dX4_weaverTold_99 (by first | decide | (intro h; exact absurd ((nI_eq (by omega) (by omega)).mp h) (by omega))) ?_
      refine lv_topi (fun y_1 hy_1 => ?_)
      obtain rfl : y_1 = nI ((vM w1) / 6) := hy_1.trans (pk_div (a := (vM w1)) (d := 6) (by omega) (by omega) (by omega))
      exact k_iret (ws := [kO q0 4 [.int (nI th), .ref q1, .ref q2, .ref q3, .ref q4, .ref q5, .ref q6], kC G q1 8 (nR (peF w0 w1)), kC G q2 120 (nR (knF w0 w1)), kC G q3 120 (nR (plF w0 w1)), kC G q4 80 (nR ru), kC G q5 8 (nR bf), kC G q6 2 (nR (nuF ho un))]) (()) hx hb hr hlocks hP hD hS hAe hQ (Nat.le_of_ble_eq_true rfl) (Nat.le_of_ble_eq_true rfl) dX4_weaverTold_100 (rfl) (by show _ = (if vM w1 < 60 then _ else _); rw [if_pos (by omega)])
    · have c_89 : (vM w1) = 60 := (nI_eq (a := (vM w1)) (b := 60) (by omega) (by omega)).mp c_89
      refine lv_iconst (v := (-1)) hx hb dX4_weaverTold_92 (by decide) ?_
      refine lv_goto (tgt := 100) hx hb dX4_weaverTold_93 (by decide) ?_
      exact k_iret (ws := [kO q0 4 [.int (nI th), .ref q1, .ref q2, .ref q3, .ref q4, .ref q5, .ref q6], kC G q1 8 (nR (peF w0 w1)), kC G q2 120 (nR (knF w0 w1)), kC G q3 120 (nR (plF w0 w1)), kC G q4 80 (nR ru), kC G q5 8 (nR bf), kC G q6 2 (nR (nuF ho un))]) (()) hx hb hr hlocks hP hD hS hAe hQ (Nat.le_of_ble_eq_true rfl) (Nat.le_of_ble_eq_true rfl) dX4_weaverTold_100 (rfl) (by show _ = (if vM w1 < 60 then _ else _); rw [if_neg (by omega)])
  · refine lv_aload_n hx hb dX4_weaverTold_0 rfl (lv_at hl 0 rfl) ?_
    refine lv_iload_n hx hb dX4_weaverTold_1 rfl (lv_at hl 1 rfl) ?_
    refine lv_iconst (v := nI 1) hx hb dX4_weaverTold_2 (by decide) ?_
    refine k_calli (fun _ => [kO q0 4 [.int (nI th), .ref q1, .ref q2, .ref q3, .ref q4, .ref q5, .ref q6], kC G q1 8 (nR (peF w0 w1)), kC G q2 120 (nR (knF w0 w1)), kC G q3 120 (nR (plF w0 w1)), kC G q4 80 (nR ru), kC G q5 8 (nR bf), kC G q6 2 (nR (nuF ho un))]) [kC G q2 120 (nR (knF w0 w1)), kC G q3 120 (nR (plF w0 w1)), kC G q4 80 (nR ru), kC G q5 8 (nR bf), kC G q6 2 (nR (nuF ho un))] (k_runV (As := [.int (nI 1), .int (nI 1)]) (rest := []) (wc := [kO q0 4 [.int (nI th), .ref q1, .ref q2, .ref q3, .ref q4, .ref q5, .ref q6], kC G q1 8 (nR (peF w0 w1))]) ⟨hx, hb, hml, hown, hts⟩ (m_pe l G q0 q1 q2 q3 q4 q5 q6 th (peF w0 w1) 1 1 (by decide) (by decide)) (cwV 2 hts gX4_weaverTold_X4_pe rfl rfl rfl (by decide +kernel) ⟨Nat.le_of_ble_eq_true rfl, Nat.le_of_ble_eq_true rfl⟩) hK hZ hP hD hS hA [0, 1] rfl rfl 0 4 rfl rfl rfl rfl hl.1 rfl (Nat.le_of_ble_eq_true rfl) dX4_weaverTold_3 ⟨Nat.le_of_ble_eq_true rfl, Nat.le_of_ble_eq_true rfl⟩) hP hD hS hA [0, 1] [2, 3, 4, 5, 6] [5, 6, 0, 1, 2, 3, 4] rfl rfl rfl (by decide) (fun _ => rfl) rfl (fun r_3 u_3 H locs hp_3 hP hD hS => ?_)
    have hp_3 : r_3 = nI (vM w1) := hp_3
    subst hp_3
    refine lv_istore_n (lv' := [(3, .int (nI (vM w1))), (0, .ref q0), (1, .int (nI 1)), (2, .int (nI 6))]) hx hb dX4_weaverTold_6 rfl hl (by decide) rfl (fun ls hl => ?_)
    refine lv_iload_n hx hb dX4_weaverTold_7 rfl (lv_at hl 3 rfl) ?_
    refine lv_tableOut (tgt := 101) hx hb dX4_weaverTold_8 (by decide) (by decide) ?_
    refine lv_aload_n hx hb dX4_weaverTold_101 rfl (lv_at hl 1 rfl) ?_
    refine lv_iload_n hx hb dX4_weaverTold_102 rfl (lv_at hl 2 rfl) ?_
    refine lv_iconst (v := nI 3) hx hb dX4_weaverTold_103 (by decide) ?_
    refine k_calli (fun _ => [kO q0 4 [.int (nI th), .ref q1, .ref q2, .ref q3, .ref q4, .ref q5, .ref q6], kC G q1 8 (nR (peF w0 w1)), kC G q2 120 (nR (knF w0 w1)), kC G q3 120 (nR (plF w0 w1)), kC G q4 80 (nR ru), kC G q5 8 (nR bf), kC G q6 2 (nR (nuF ho un))]) [kC G q2 120 (nR (knF w0 w1)), kC G q3 120 (nR (plF w0 w1)), kC G q4 80 (nR ru), kC G q5 8 (nR bf), kC G q6 2 (nR (nuF ho un))] (k_runV (As := [.int (nI 1), .int (nI 3)]) (rest := []) (wc := [kO q0 4 [.int (nI th), .ref q1, .ref q2, .ref q3, .ref q4, .ref q5, .ref q6], kC G q1 8 (nR (peF w0 w1))]) ⟨hx, hb, hml, hown, hts⟩ (m_pe l G q0 q1 q2 q3 q4 q5 q6 th (peF w0 w1) 1 3 (by decide) (by decide)) (cwV 2 hts gX4_weaverTold_X4_pe rfl rfl rfl (by decide +kernel) ⟨Nat.le_of_ble_eq_true rfl, Nat.le_of_ble_eq_true rfl⟩) hK hZ hP hD hS hA [0, 1] rfl rfl 0 4 rfl rfl rfl rfl hl.1 rfl (Nat.le_of_ble_eq_true rfl) dX4_weaverTold_104 ⟨Nat.le_of_ble_eq_true rfl, Nat.le_of_ble_eq_true rfl⟩) hP hD hS hA [0, 1] [2, 3, 4, 5, 6] [5, 6, 0, 1, 2, 3, 4] rfl rfl rfl (by decide) (fun _ => rfl) rfl (fun r_104 u_104 H locs hp_104 hP hD hS => ?_)
    have hp_104 : r_104 = nI (vO w1) := hp_104
    subst hp_104
    exact k_iret (ws := [kO q0 4 [.int (nI th), .ref q1, .ref q2, .ref q3, .ref q4, .ref q5, .ref q6], kC G q1 8 (nR (peF w0 w1)), kC G q2 120 (nR (knF w0 w1)), kC G q3 120 (nR (plF w0 w1)), kC G q4 80 (nR ru), kC G q5 8 (nR bf), kC G q6 2 (nR (nuF ho un))]) (()) hx hb hr hlocks hP hD hS hAe hQ (Nat.le_of_ble_eq_true rfl) (Nat.le_of_ble_eq_true rfl) dX4_weaverTold_107 (rfl) (rfl)
set_option maxHeartbeats 4000000 in
set_option maxRecDepth 100000 in
theorem m_differ (l : Launch) (G : kG) (q0 : Nat) (q1 : Nat) (q2 : Nat) (q3 : Nat) (q4 : Nat) (q5 : Nat) (q6 : Nat) (w0 : Wv) (w1 : Wv) (bf : Nat → Nat) (ho : Nat) (un : Nat) (ru : Nat → Nat) (th : Nat) (h0 : wOk w0) (h1 : wOk w1) (hru : ruOk w0 w1 ru) : kM l G yX4_differ wsX4_differ ({ frames := 1, cells := 0, slots := 0, locals := 22 } : Room) [.ref q0] [kO q0 4 [.int (nI th), .ref q1, .ref q2, .ref q3, .ref q4, .ref q5, .ref q6], kC G q1 8 (nR (peF w0 w1)), kC G q2 120 (nR (knF w0 w1)), kC G q3 120 (nR (plF w0 w1)), kC G q4 80 (nR ru), kC G q5 8 (nR bf), kC G q6 2 (nR (nuF ho un))] (kQi G [kO q0 4 [.int (nI th), .ref q1, .ref q2, .ref q3, .ref q4, .ref q5, .ref q6], kC G q1 8 (nR (peF w0 w1)), kC G q2 120 (nR (knF w0 w1)), kC G q3 120 (nR (plF w0 w1)), kC G q4 80 (nR ru), kC G q5 8 (nR bf), kC G q6 2 (nR (nuF ho un))] (fun (r : Int32) (_ : Unit) => r = nI (ofN w0 w1)) (fun (_ : Unit) => [kO q0 4 [.int (nI th), .ref q1, .ref q2, .ref q3, .ref q4, .ref q5, .ref q6], kC G q1 8 (nR (peF w0 w1)), kC G q2 120 (nR (knF w0 w1)), kC G q3 120 (nR (plF w0 w1)), kC G q4 80 (nR ru), kC G q5 8 (nR bf), kC G q6 2 (nR (nuF ho un))])) := by
  refine k_ofW (cc := cX4_differ) (maxL := 4) (rt := (some .int)) (by decide) rfl (Nat.le_of_ble_eq_true rfl) ?_
  intro p e s m args below meth c A ls Qs H locs hQ hAe hx hb hr hml hts hown hlocks hin hK hZ hP hD hS hA hl
  have hown : s.vm.findClass RX4 = some m.cls := hown
  have hl : lv_has ls 4 [(0, .ref q0)] := hl
  have m0b : vM w0 ≤ 60 := h0.2.2.2.1
  have m1b : vM w1 ≤ 60 := h1.2.2.2.1
  have t0b : vT w0 ≤ 20 := h0.2.2.1
  have t1b : vT w1 ≤ 20 := h1.2.2.1
  have pb0 : ∀ i, i < 60 → vP w0 i < 8 := h0.2.2.2.2.1
  have pb1 : ∀ i, i < 60 → vP w1 i < 8 := h1.2.2.2.2.1
  have kb0 : ∀ i, i < 60 → vK w0 i < 8 := h0.2.2.2.2.2.1
  have kb1 : ∀ i, i < 60 → vK w1 i < 8 := h1.2.2.2.2.2.1
  have rk0 := hru.1
  have rk1 := hru.2
  have hq_0 : ∀ w ∈ wsX40, w ∈ wsX4_differ := by decide +kernel
  have hq_1 : (Cond.fieldLink RX4 13 "KnotRugsModel" "knots" "[I").before args s = true := hts _ (by decide +kernel)
  have hq_2 : (Cond.fieldLink RX4 16 "KnotRugsModel" "plan" "[I").before args s = true := hts _ (by decide +kernel)
  refine lv_iconst (v := nI 0) hx hb dX4_differ_0 (by decide) ?_
  refine lv_istore_n (lv' := [(1, .int (nI 0)), (0, .ref q0)]) hx hb dX4_differ_1 rfl hl (by decide) rfl (fun ls hl => ?_)
  refine lv_iconst (v := nI 0) hx hb dX4_differ_2 (by decide) ?_
  refine lv_istore_n (lv' := [(2, .int (nI 0)), (1, .int (nI 0)), (0, .ref q0)]) hx hb dX4_differ_3 rfl hl (by decide) rfl (fun ls hl => ?_)
  refine lv_iload_n hx hb dX4_differ_4 rfl (lv_at hl 0 rfl) ?_
  refine lv_iconst (v := nI 2) hx hb dX4_differ_5 (by decide) ?_
  refine lv_icmp_ge (tgt := 66) hx hb dX4_differ_6 (by decide) (fun c_6 => absurd c_6 (by decide)) (fun c_6 => ?_)
  refine lv_iconst (v := nI 0) hx hb dX4_differ_9 (by decide) ?_
  refine lv_istore_n (lv' := [(3, .int (nI 0)), (2, .int (nI 0)), (1, .int (nI 0)), (0, .ref q0)]) hx hb dX4_differ_10 rfl hl (by decide) rfl (fun ls hl => ?_)
  have loop_110 : ∀ (fu_11 : Nat) (i : Nat) (z : Nat), i ≤ vM w0 → z = offN (vK w0) (vP w0) i → vM w0 < i + fu_11 → ∀ (H : Heap) (locs : List Loc) (ls : Array Slot), va_P G.1 vwCl [kO q0 4 [.int (nI th), .ref q1, .ref q2, .ref q3, .ref q4, .ref q5, .ref q6], kC G q1 8 (nR (peF w0 w1)), kC G q2 120 (nR (knF w0 w1)), kC G q3 120 (nR (plF w0 w1)), kC G q4 80 (nR ru), kC G q5 8 (nR bf), kC G q6 2 (nR (nuF ho un))] H → va_D A [kO q0 4 [.int (nI th), .ref q1, .ref q2, .ref q3, .ref q4, .ref q5, .ref q6], kC G q1 8 (nR (peF w0 w1)), kC G q2 120 (nR (knF w0 w1)), kC G q3 120 (nR (plF w0 w1)), kC G q4 80 (nR ru), kC G q5 8 (nR bf), kC G q6 2 (nR (nuF ho un))] → va_S A s.heap H locs → lv_has ls 4 [(0, .ref q0), (1, .int (nI z)), (2, .int (nI 0)), (3, .int (nI i))] → W p l e ({ frames := 1, cells := 0, slots := 0, locals := 22 } : Room) s m args below meth c H locs 0 0 Qs (F0 m 11 ls []) := by
    intro fu_11
    induction fu_11 with
    | zero =>
      intro i z hi hz0 hf
      exact absurd hf (by omega)
    | succ fu_11 ih_11 =>
      intro i z hi hz0 hf H locs ls hP hD hS hl
      refine lv_iload_n hx hb dX4_differ_11 rfl (lv_at hl 3 rfl) ?_
      refine lv_aload_n hx hb dX4_differ_12 rfl (lv_at hl 0 rfl) ?_
      refine lv_iload_n hx hb dX4_differ_13 rfl (lv_at hl 2 rfl) ?_
      refine lv_iconst (v := nI 1) hx hb dX4_differ_14 (by decide) ?_
      refine k_calli (fun _ => [kO q0 4 [.int (nI th), .ref q1, .ref q2, .ref q3, .ref q4, .ref q5, .ref q6], kC G q1 8 (nR (peF w0 w1)), kC G q2 120 (nR (knF w0 w1)), kC G q3 120 (nR (plF w0 w1)), kC G q4 80 (nR ru), kC G q5 8 (nR bf), kC G q6 2 (nR (nuF ho un))]) [kC G q2 120 (nR (knF w0 w1)), kC G q3 120 (nR (plF w0 w1)), kC G q4 80 (nR ru), kC G q5 8 (nR bf), kC G q6 2 (nR (nuF ho un))] (k_runV (As := [.int (nI 0), .int (nI 1)]) (rest := [.int (nI i)]) (wc := [kO q0 4 [.int (nI th), .ref q1, .ref q2, .ref q3, .ref q4, .ref q5, .ref q6], kC G q1 8 (nR (peF w0 w1))]) ⟨hx, hb, hml, hown, hts⟩ (m_pe l G q0 q1 q2 q3 q4 q5 q6 th (peF w0 w1) 0 1 (by decide) (by decide)) (cwV 2 hts gX4_differ_X4_pe rfl rfl rfl (by decide +kernel) ⟨Nat.le_of_ble_eq_true rfl, Nat.le_of_ble_eq_true rfl⟩) hK hZ hP hD hS hA [0, 1] rfl rfl 0 4 rfl rfl rfl rfl hl.1 rfl (Nat.le_of_ble_eq_true rfl) dX4_differ_15 ⟨Nat.le_of_ble_eq_true rfl, Nat.le_of_ble_eq_true rfl⟩) hP hD hS hA [0, 1] [2, 3, 4, 5, 6] [5, 6, 0, 1, 2, 3, 4] rfl rfl rfl (by decide) (fun _ => rfl) rfl (fun r_15 u_15 H locs hp_15 hP hD hS => ?_)
      have hp_15 : r_15 = nI (vM w0) := hp_15
      subst hp_15
      refine lv_icmp_ge (tgt := 60) hx hb dX4_differ_18 (by decide) (fun c_18 => ?_) (fun c_18 => ?_)
      · have c_18 : (vM w0) ≤ i := (nI_leI (a := (vM w0)) (b := i) (by omega) (by omega)).mp c_18
        refine lv_iinc (v := nI 1) (lv' := [(2, .int (nI 1)), (0, .ref q0), (1, .int (nI z)), (3, .int (nI i))]) hx hb dX4_differ_60 hl (k := 2) rfl (by decide) (by decide) rfl (fun ls hl => ?_)
        refine lv_goto (tgt := 4) hx hb dX4_differ_63 (by decide) ?_
        refine lv_iload_n hx hb dX4_differ_4 rfl (lv_at hl 0 rfl) ?_
        refine lv_iconst (v := nI 2) hx hb dX4_differ_5 (by decide) ?_
        refine lv_icmp_ge (tgt := 66) hx hb dX4_differ_6 (by decide) (fun c_6 => absurd c_6 (by decide)) (fun c_6 => ?_)
        refine lv_iconst (v := nI 0) hx hb dX4_differ_9 (by decide) ?_
        refine lv_istore_n (lv' := [(3, .int (nI 0)), (2, .int (nI 1)), (0, .ref q0), (1, .int (nI z))]) hx hb dX4_differ_10 rfl hl (by decide) rfl (fun ls hl => ?_)
        have loop_111 : ∀ (fu_11 : Nat) (i : Nat) (z : Nat), i ≤ vM w1 → z = offN (vK w0) (vP w0) (vM w0) + offN (vK w1) (vP w1) i → vM w1 < i + fu_11 → ∀ (H : Heap) (locs : List Loc) (ls : Array Slot), va_P G.1 vwCl [kO q0 4 [.int (nI th), .ref q1, .ref q2, .ref q3, .ref q4, .ref q5, .ref q6], kC G q1 8 (nR (peF w0 w1)), kC G q2 120 (nR (knF w0 w1)), kC G q3 120 (nR (plF w0 w1)), kC G q4 80 (nR ru), kC G q5 8 (nR bf), kC G q6 2 (nR (nuF ho un))] H → va_D A [kO q0 4 [.int (nI th), .ref q1, .ref q2, .ref q3, .ref q4, .ref q5, .ref q6], kC G q1 8 (nR (peF w0 w1)), kC G q2 120 (nR (knF w0 w1)), kC G q3 120 (nR (plF w0 w1)), kC G q4 80 (nR ru), kC G q5 8 (nR bf), kC G q6 2 (nR (nuF ho un))] → va_S A s.heap H locs → lv_has ls 4 [(0, .ref q0), (1, .int (nI z)), (2, .int (nI 1)), (3, .int (nI i))] → W p l e ({ frames := 1, cells := 0, slots := 0, locals := 22 } : Room) s m args below meth c H locs 0 0 Qs (F0 m 11 ls []) := by
          intro fu_11
          induction fu_11 with
          | zero =>
            intro i z hi hz1 hf
            exact absurd hf (by omega)
          | succ fu_11 ih_11 =>
            intro i z hi hz1 hf H locs ls hP hD hS hl
            refine lv_iload_n hx hb dX4_differ_11 rfl (lv_at hl 3 rfl) ?_
            refine lv_aload_n hx hb dX4_differ_12 rfl (lv_at hl 0 rfl) ?_
            refine lv_iload_n hx hb dX4_differ_13 rfl (lv_at hl 2 rfl) ?_
            refine lv_iconst (v := nI 1) hx hb dX4_differ_14 (by decide) ?_
            refine k_calli (fun _ => [kO q0 4 [.int (nI th), .ref q1, .ref q2, .ref q3, .ref q4, .ref q5, .ref q6], kC G q1 8 (nR (peF w0 w1)), kC G q2 120 (nR (knF w0 w1)), kC G q3 120 (nR (plF w0 w1)), kC G q4 80 (nR ru), kC G q5 8 (nR bf), kC G q6 2 (nR (nuF ho un))]) [kC G q2 120 (nR (knF w0 w1)), kC G q3 120 (nR (plF w0 w1)), kC G q4 80 (nR ru), kC G q5 8 (nR bf), kC G q6 2 (nR (nuF ho un))] (k_runV (As := [.int (nI 1), .int (nI 1)]) (rest := [.int (nI i)]) (wc := [kO q0 4 [.int (nI th), .ref q1, .ref q2, .ref q3, .ref q4, .ref q5, .ref q6], kC G q1 8 (nR (peF w0 w1))]) ⟨hx, hb, hml, hown, hts⟩ (m_pe l G q0 q1 q2 q3 q4 q5 q6 th (peF w0 w1) 1 1 (by decide) (by decide)) (cwV 2 hts gX4_differ_X4_pe rfl rfl rfl (by decide +kernel) ⟨Nat.le_of_ble_eq_true rfl, Nat.le_of_ble_eq_true rfl⟩) hK hZ hP hD hS hA [0, 1] rfl rfl 0 4 rfl rfl rfl rfl hl.1 rfl (Nat.le_of_ble_eq_true rfl) dX4_differ_15 ⟨Nat.le_of_ble_eq_true rfl, Nat.le_of_ble_eq_true rfl⟩) hP hD hS hA [0, 1] [2, 3, 4, 5, 6] [5, 6, 0, 1, 2, 3, 4] rfl rfl rfl (by decide) (fun _ => rfl) rfl (fun r_15 u_15 H locs hp_15 hP hD hS => ?_)
            have hp_15 : r_15 = nI (vM w1) := hp_15
            subst hp_15
            refine lv_icmp_ge (tgt := 60) hx hb dX4_differ_18 (by decide) (fun c_18 => ?_) (fun c_18 => ?_)
            · have c_18 : (vM w1) ≤ i := (nI_leI (a := (vM w1)) (b := i) (by omega) (by omega)).mp c_18
              refine lv_iinc (v := nI 2) (lv' := [(2, .int (nI 2)), (0, .ref q0), (1, .int (nI z)), (3, .int (nI i))]) hx hb dX4_differ_60 hl (k := 2) rfl (by decide) (by decide) rfl (fun ls hl => ?_)
              refine lv_goto (tgt := 4) hx hb dX4_differ_63 (by decide) ?_
              refine lv_iload_n hx hb dX4_differ_4 rfl (lv_at hl 0 rfl) ?_
              refine lv_iconst (v := nI 2) hx hb dX4_differ_5 (by decide) ?_
              refine lv_icmp_ge (tgt := 66) hx hb dX4_differ_6 (by decide) (fun c_6 => ?_) (fun c_6 => absurd c_6 (by decide))
              refine lv_iload_n hx hb dX4_differ_66 rfl (lv_at hl 2 rfl) ?_
              exact k_iret (ws := [kO q0 4 [.int (nI th), .ref q1, .ref q2, .ref q3, .ref q4, .ref q5, .ref q6], kC G q1 8 (nR (peF w0 w1)), kC G q2 120 (nR (knF w0 w1)), kC G q3 120 (nR (plF w0 w1)), kC G q4 80 (nR ru), kC G q5 8 (nR bf), kC G q6 2 (nR (nuF ho un))]) (()) hx hb hr hlocks hP hD hS hAe hQ (Nat.le_of_ble_eq_true rfl) (Nat.le_of_ble_eq_true rfl) dX4_differ_67 (rfl) (by rw [hz1, show i = vM w1 by omega]; rfl)
            · have c_18 : ¬ ((vM w1) ≤ i) := fun h9 => c_18 ((nI_leI (a := (vM w1)) (b := i) (by omega) (by omega)).mpr h9)
              refine lv_iload_n hx hb dX4_differ_21 rfl (lv_at hl 1 rfl) ?_
              refine lv_aload_n hx hb dX4_differ_22 rfl (lv_at hl 0 rfl) ?_
              refine va_get (D := G.1) (ci := 4) (v := .ref q2) (C := RX4) (T := TX4) (N := 7) hx hb hts hq_0 hown hK.1 hP 0 rfl rfl 2 (by decide) hq_1 (fun _ h9 => h9) rfl dX4_differ_23 ?_
              refine lv_bipush (v := nI 60) hx hb dX4_differ_26 (by decide) ?_
              refine lv_iload_n hx hb dX4_differ_28 rfl (lv_at hl 2 rfl) ?_
              refine lv_imul hx hb dX4_differ_29 ?_
              refine lv_topi (fun y_1 hy_1 => ?_)
              obtain rfl : y_1 = nI 60 := hy_1.trans (by decide)
              refine lv_iload_n hx hb dX4_differ_30 rfl (lv_at hl 3 rfl) ?_
              refine lv_iadd hx hb dX4_differ_31 ?_
              refine lv_topi (fun y_2 hy_2 => ?_)
              obtain rfl : y_2 = nI (60 + i) := hy_2.trans (nI_add 60 i)
              have hi_3 : (60 + i) < 120 := by omega
              refine va_iald (D := G.1) hx hb hK.1 hP 2 0 rfl rfl (vp_in_nI hi_3 (by omega)) dX4_differ_32 ?_
              refine lv_topi (fun y_4 hy_4 => ?_)
              obtain rfl : y_4 = nI ((knF w0 w1) (60 + i)) := hy_4.trans (nR_at (by omega))
              refine lv_topi (fun y_5 hy_5 => ?_)
              obtain rfl : y_5 = nI (vK w1 i) := hy_5.trans (congrArg nI (knF_hi))
              refine lv_aload_n hx hb dX4_differ_33 rfl (lv_at hl 0 rfl) ?_
              refine va_get (D := G.1) (ci := 4) (v := .ref q3) (C := RX4) (T := TX4) (N := 7) hx hb hts hq_0 hown hK.1 hP 0 rfl rfl 3 (by decide) hq_2 (fun _ h9 => h9) rfl dX4_differ_34 ?_
              refine lv_bipush (v := nI 60) hx hb dX4_differ_37 (by decide) ?_
              refine lv_iload_n hx hb dX4_differ_39 rfl (lv_at hl 2 rfl) ?_
              refine lv_imul hx hb dX4_differ_40 ?_
              refine lv_topi (fun y_6 hy_6 => ?_)
              obtain rfl : y_6 = nI 60 := hy_6.trans (by decide)
              refine lv_iload_n hx hb dX4_differ_41 rfl (lv_at hl 3 rfl) ?_
              refine lv_iadd hx hb dX4_differ_42 ?_
              refine lv_topi (fun y_7 hy_7 => ?_)
              obtain rfl : y_7 = nI (60 + i) := hy_7.trans (nI_add 60 i)
              have hi_8 : (60 + i) < 120 := by omega
              refine va_iald (D := G.1) hx hb hK.1 hP 3 0 rfl rfl (vp_in_nI hi_8 (by omega)) dX4_differ_43 ?_
              refine lv_topi (fun y_9 hy_9 => ?_)
              obtain rfl : y_9 = nI ((plF w0 w1) (60 + i)) := hy_9.trans (nR_at (by omega))
              refine lv_topi (fun y_10 hy_10 => ?_)
              obtain rfl : y_10 = nI (vP w1 i) := hy_10.trans (congrArg nI (plF_hi))
              have xk := kb1 i (by omega)
              have xp := pb1 i (by omega)
              refine lv_icmp_ne (tgt := 51) hx hb dX4_differ_44 (by decide) (fun c_44 => ?_) (fun c_44 => ?_)
              · have c_44 : ¬ ((vK w1 i) = (vP w1 i)) := fun h9 => c_44 ((nI_eq (a := (vK w1 i)) (b := (vP w1 i)) (by omega) (by omega)).mpr h9)
                refine lv_iconst (v := nI 1) hx hb dX4_differ_51 (by decide) ?_
                refine lv_iadd hx hb dX4_differ_52 ?_
                refine lv_topi (fun y_11 hy_11 => ?_)
                obtain rfl : y_11 = nI (z + 1) := hy_11.trans (nI_add z 1)
                refine lv_istore_n (lv' := [(1, .int (nI (z + 1))), (0, .ref q0), (2, .int (nI 1)), (3, .int (nI i))]) hx hb dX4_differ_53 rfl hl (by decide) rfl (fun ls hl => ?_)
                refine lv_iinc (v := nI (i + 1)) (lv' := [(3, .int (nI (i + 1))), (1, .int (nI (z + 1))), (0, .ref q0), (2, .int (nI 1))]) hx hb dX4_differ_54 hl (k := 3) rfl (nI_add i 1) (by decide) rfl (fun ls hl => ?_)
                refine lv_goto (tgt := 11) hx hb dX4_differ_57 (by decide) ?_
                exact ih_11 (i + 1) (z + 1) (by omega) (by rw [hz1]; first | (rw [offN_s c_44]; done) | (rw [offN_d c_44]; done) | (rw [offN_s c_44]; omega) | (rw [offN_d c_44]; omega)) (by omega) _ _ _ hP hD hS (lv_sub hl [2, 1, 3, 0] rfl)
              · have c_44 : (vK w1 i) = (vP w1 i) := (nI_eq (a := (vK w1 i)) (b := (vP w1 i)) (by omega) (by omega)).mp c_44
                refine lv_iconst (v := nI 0) hx hb dX4_differ_47 (by decide) ?_
                refine lv_goto (tgt := 52) hx hb dX4_differ_48 (by decide) ?_
                refine lv_iadd hx hb dX4_differ_52 ?_
                refine lv_topi (fun y_12 hy_12 => ?_)
                obtain rfl : y_12 = nI (z + 0) := hy_12.trans (nI_add z 0)
                refine lv_istore_n (lv' := [(1, .int (nI (z + 0))), (0, .ref q0), (2, .int (nI 1)), (3, .int (nI i))]) hx hb dX4_differ_53 rfl hl (by decide) rfl (fun ls hl => ?_)
                refine lv_iinc (v := nI (i + 1)) (lv' := [(3, .int (nI (i + 1))), (1, .int (nI (z + 0))), (0, .ref q0), (2, .int (nI 1))]) hx hb dX4_differ_54 hl (k := 3) rfl (nI_add i 1) (by decide) rfl (fun ls hl => ?_)
                refine lv_goto (tgt := 11) hx hb dX4_differ_57 (by decide) ?_
                exact ih_11 (i + 1) (z + 0) (by omega) (by rw [hz1]; first | (rw [offN_s c_44]; done) | (rw [offN_d c_44]; done) | (rw [offN_s c_44]; omega) | (rw [offN_d c_44]; omega)) (by omega) _ _ _ hP hD hS (lv_sub hl [2, 1, 3, 0] rfl)
        exact loop_111 (vM w1 + 1) 0 z (by omega) (by rw [hz0, show i = vM w0 by omega]; rfl) (by omega) H locs ls hP hD hS (lv_sub hl [2, 3, 1, 0] rfl)
      · have c_18 : ¬ ((vM w0) ≤ i) := fun h9 => c_18 ((nI_leI (a := (vM w0)) (b := i) (by omega) (by omega)).mpr h9)
        refine lv_iload_n hx hb dX4_differ_21 rfl (lv_at hl 1 rfl) ?_
        refine lv_aload_n hx hb dX4_differ_22 rfl (lv_at hl 0 rfl) ?_
        refine va_get (D := G.1) (ci := 4) (v := .ref q2) (C := RX4) (T := TX4) (N := 7) hx hb hts hq_0 hown hK.1 hP 0 rfl rfl 2 (by decide) hq_1 (fun _ h9 => h9) rfl dX4_differ_23 ?_
        refine lv_bipush (v := nI 60) hx hb dX4_differ_26 (by decide) ?_
        refine lv_iload_n hx hb dX4_differ_28 rfl (lv_at hl 2 rfl) ?_
        refine lv_imul hx hb dX4_differ_29 ?_
        refine lv_topi (fun y_13 hy_13 => ?_)
        obtain rfl : y_13 = nI 0 := hy_13.trans (by decide)
        refine lv_iload_n hx hb dX4_differ_30 rfl (lv_at hl 3 rfl) ?_
        refine lv_iadd hx hb dX4_differ_31 ?_
        refine lv_topi (fun y_14 hy_14 => ?_)
        obtain rfl : y_14 = nI (0 + i) := hy_14.trans (nI_add 0 i)
        have hi_15 : (0 + i) < 120 := by omega
        refine va_iald (D := G.1) hx hb hK.1 hP 2 0 rfl rfl (vp_in_nI hi_15 (by omega)) dX4_differ_32 ?_
        refine lv_topi (fun y_16 hy_16 => ?_)
        obtain rfl : y_16 = nI ((knF w0 w1) (0 + i)) := hy_16.trans (nR_at (by omega))
        refine lv_topi (fun y_17 hy_17 => ?_)
        obtain rfl : y_17 = nI (vK w0 i) := hy_17.trans (congrArg nI (knF_lo0 (by omega)))
        refine lv_aload_n hx hb dX4_differ_33 rfl (lv_at hl 0 rfl) ?_
        refine va_get (D := G.1) (ci := 4) (v := .ref q3) (C := RX4) (T := TX4) (N := 7) hx hb hts hq_0 hown hK.1 hP 0 rfl rfl 3 (by decide) hq_2 (fun _ h9 => h9) rfl dX4_differ_34 ?_
        refine lv_bipush (v := nI 60) hx hb dX4_differ_37 (by decide) ?_
        refine lv_iload_n hx hb dX4_differ_39 rfl (lv_at hl 2 rfl) ?_
        refine lv_imul hx hb dX4_differ_40 ?_
        refine lv_topi (fun y_18 hy_18 => ?_)
        obtain rfl : y_18 = nI 0 := hy_18.trans (by decide)
        refine lv_iload_n hx hb dX4_differ_41 rfl (lv_at hl 3 rfl) ?_
        refine lv_iadd hx hb dX4_differ_42 ?_
        refine lv_topi (fun y_19 hy_19 => ?_)
        obtain rfl : y_19 = nI (0 + i) := hy_19.trans (nI_add 0 i)
        have hi_20 : (0 + i) < 120 := by omega
        refine va_iald (D := G.1) hx hb hK.1 hP 3 0 rfl rfl (vp_in_nI hi_20 (by omega)) dX4_differ_43 ?_
        refine lv_topi (fun y_21 hy_21 => ?_)
        obtain rfl : y_21 = nI ((plF w0 w1) (0 + i)) := hy_21.trans (nR_at (by omega))
        refine lv_topi (fun y_22 hy_22 => ?_)
        obtain rfl : y_22 = nI (vP w0 i) := hy_22.trans (congrArg nI (plF_lo0 (by omega)))
        have xk := kb0 i (by omega)
        have xp := pb0 i (by omega)
        refine lv_icmp_ne (tgt := 51) hx hb dX4_differ_44 (by decide) (fun c_44 => ?_) (fun c_44 => ?_)
        · have c_44 : ¬ ((vK w0 i) = (vP w0 i)) := fun h9 => c_44 ((nI_eq (a := (vK w0 i)) (b := (vP w0 i)) (by omega) (by omega)).mpr h9)
          refine lv_iconst (v := nI 1) hx hb dX4_differ_51 (by decide) ?_
          refine lv_iadd hx hb dX4_differ_52 ?_
          refine lv_topi (fun y_23 hy_23 => ?_)
          obtain rfl : y_23 = nI (z + 1) := hy_23.trans (nI_add z 1)
          refine lv_istore_n (lv' := [(1, .int (nI (z + 1))), (0, .ref q0), (2, .int (nI 0)), (3, .int (nI i))]) hx hb dX4_differ_53 rfl hl (by decide) rfl (fun ls hl => ?_)
          refine lv_iinc (v := nI (i + 1)) (lv' := [(3, .int (nI (i + 1))), (1, .int (nI (z + 1))), (0, .ref q0), (2, .int (nI 0))]) hx hb dX4_differ_54 hl (k := 3) rfl (nI_add i 1) (by decide) rfl (fun ls hl => ?_)
          refine lv_goto (tgt := 11) hx hb dX4_differ_57 (by decide) ?_
          exact ih_11 (i + 1) (z + 1) (by omega) (by rw [hz0]; first | (rw [offN_s c_44]; done) | (rw [offN_d c_44]; done) | (rw [offN_s c_44]; omega) | (rw [offN_d c_44]; omega)) (by omega) _ _ _ hP hD hS (lv_sub hl [2, 1, 3, 0] rfl)
        · have c_44 : (vK w0 i) = (vP w0 i) := (nI_eq (a := (vK w0 i)) (b := (vP w0 i)) (by omega) (by omega)).mp c_44
          refine lv_iconst (v := nI 0) hx hb dX4_differ_47 (by decide) ?_
          refine lv_goto (tgt := 52) hx hb dX4_differ_48 (by decide) ?_
          refine lv_iadd hx hb dX4_differ_52 ?_
          refine lv_topi (fun y_24 hy_24 => ?_)
          obtain rfl : y_24 = nI (z + 0) := hy_24.trans (nI_add z 0)
          refine lv_istore_n (lv' := [(1, .int (nI (z + 0))), (0, .ref q0), (2, .int (nI 0)), (3, .int (nI i))]) hx hb dX4_differ_53 rfl hl (by decide) rfl (fun ls hl => ?_)
          refine lv_iinc (v := nI (i + 1)) (lv' := [(3, .int (nI (i + 1))), (1, .int (nI (z + 0))), (0, .ref q0), (2, .int (nI 0))]) hx hb dX4_differ_54 hl (k := 3) rfl (nI_add i 1) (by decide) rfl (fun ls hl => ?_)
          refine lv_goto (tgt := 11) hx hb dX4_differ_57 (by decide) ?_
          exact ih_11 (i + 1) (z + 0) (by omega) (by rw [hz0]; first | (rw [offN_s c_44]; done) | (rw [offN_d c_44]; done) | (rw [offN_s c_44]; omega) | (rw [offN_d c_44]; omega)) (by omega) _ _ _ hP hD hS (lv_sub hl [2, 1, 3, 0] rfl)
  exact loop_110 (vM w0 + 1) 0 0 (by omega) (by rfl) (by omega) H locs ls hP hD hS (lv_sub hl [3, 2, 1, 0] rfl)
set_option maxHeartbeats 4000000 in
set_option maxRecDepth 100000 in
theorem m_doneRows (l : Launch) (G : kG) (q0 : Nat) (q1 : Nat) (q2 : Nat) (q3 : Nat) (q4 : Nat) (q5 : Nat) (q6 : Nat) (w0 : Wv) (w1 : Wv) (bf : Nat → Nat) (ho : Nat) (un : Nat) (ru : Nat → Nat) (th : Nat) (h0 : wOk w0) (h1 : wOk w1) (hru : ruOk w0 w1 ru) : kM l G yX4_doneRows wsX4_doneRows ({ frames := 1, cells := 0, slots := 0, locals := 22 } : Room) [.ref q0] [kO q0 4 [.int (nI th), .ref q1, .ref q2, .ref q3, .ref q4, .ref q5, .ref q6], kC G q1 8 (nR (peF w0 w1)), kC G q2 120 (nR (knF w0 w1)), kC G q3 120 (nR (plF w0 w1)), kC G q4 80 (nR ru), kC G q5 8 (nR bf), kC G q6 2 (nR (nuF ho un))] (kQi G [kO q0 4 [.int (nI th), .ref q1, .ref q2, .ref q3, .ref q4, .ref q5, .ref q6], kC G q1 8 (nR (peF w0 w1)), kC G q2 120 (nR (knF w0 w1)), kC G q3 120 (nR (plF w0 w1)), kC G q4 80 (nR ru), kC G q5 8 (nR bf), kC G q6 2 (nR (nuF ho un))] (fun (r : Int32) (_ : Unit) => r = nI (rwN w0 w1)) (fun (_ : Unit) => [kO q0 4 [.int (nI th), .ref q1, .ref q2, .ref q3, .ref q4, .ref q5, .ref q6], kC G q1 8 (nR (peF w0 w1)), kC G q2 120 (nR (knF w0 w1)), kC G q3 120 (nR (plF w0 w1)), kC G q4 80 (nR ru), kC G q5 8 (nR bf), kC G q6 2 (nR (nuF ho un))])) := by
  refine k_ofW (cc := cX4_doneRows) (maxL := 1) (rt := (some .int)) (by decide) rfl (Nat.le_of_ble_eq_true rfl) ?_
  intro p e s m args below meth c A ls Qs H locs hQ hAe hx hb hr hml hts hown hlocks hin hK hZ hP hD hS hA hl
  have hown : s.vm.findClass RX4 = some m.cls := hown
  have hl : lv_has ls 1 [(0, .ref q0)] := hl
  have m0b : vM w0 ≤ 60 := h0.2.2.2.1
  have m1b : vM w1 ≤ 60 := h1.2.2.2.1
  have t0b : vT w0 ≤ 20 := h0.2.2.1
  have t1b : vT w1 ≤ 20 := h1.2.2.1
  have pb0 : ∀ i, i < 60 → vP w0 i < 8 := h0.2.2.2.2.1
  have pb1 : ∀ i, i < 60 → vP w1 i < 8 := h1.2.2.2.2.1
  have kb0 : ∀ i, i < 60 → vK w0 i < 8 := h0.2.2.2.2.2.1
  have kb1 : ∀ i, i < 60 → vK w1 i < 8 := h1.2.2.2.2.2.1
  have rk0 := hru.1
  have rk1 := hru.2
  have hq_0 : (Cond.methodLink RX4 55 Lib.Math.min.name).before args s = true := hts _ (by decide +kernel)
  have hq_1 : (Cond.static Lib.Math.min.name).before args s = true := hts _ (by decide +kernel)
  have hq_2 : (Cond.initialized "java/lang/Math").before args s = true := hts _ (by decide +kernel)
  have hq_3 : (Cond.code Lib.Math.min.name Lib.Math.min.code 2 (some .int)).before args s = true := hts _ (by decide +kernel)
  refine lv_aload_n hx hb dX4_doneRows_0 rfl (lv_at hl 0 rfl) ?_
  refine lv_iconst (v := nI 0) hx hb dX4_doneRows_1 (by decide) ?_
  refine lv_iconst (v := nI 1) hx hb dX4_doneRows_2 (by decide) ?_
  refine k_calli (fun _ => [kO q0 4 [.int (nI th), .ref q1, .ref q2, .ref q3, .ref q4, .ref q5, .ref q6], kC G q1 8 (nR (peF w0 w1)), kC G q2 120 (nR (knF w0 w1)), kC G q3 120 (nR (plF w0 w1)), kC G q4 80 (nR ru), kC G q5 8 (nR bf), kC G q6 2 (nR (nuF ho un))]) [kC G q2 120 (nR (knF w0 w1)), kC G q3 120 (nR (plF w0 w1)), kC G q4 80 (nR ru), kC G q5 8 (nR bf), kC G q6 2 (nR (nuF ho un))] (k_runV (As := [.int (nI 0), .int (nI 1)]) (rest := []) (wc := [kO q0 4 [.int (nI th), .ref q1, .ref q2, .ref q3, .ref q4, .ref q5, .ref q6], kC G q1 8 (nR (peF w0 w1))]) ⟨hx, hb, hml, hown, hts⟩ (m_pe l G q0 q1 q2 q3 q4 q5 q6 th (peF w0 w1) 0 1 (by decide) (by decide)) (cwV 2 hts gX4_doneRows_X4_pe rfl rfl rfl (by decide +kernel) ⟨Nat.le_of_ble_eq_true rfl, Nat.le_of_ble_eq_true rfl⟩) hK hZ hP hD hS hA [0, 1] rfl rfl 0 4 rfl rfl rfl rfl hl.1 rfl (Nat.le_of_ble_eq_true rfl) dX4_doneRows_3 ⟨Nat.le_of_ble_eq_true rfl, Nat.le_of_ble_eq_true rfl⟩) hP hD hS hA [0, 1] [2, 3, 4, 5, 6] [5, 6, 0, 1, 2, 3, 4] rfl rfl rfl (by decide) (fun _ => rfl) rfl (fun r_3 u_3 H locs hp_3 hP hD hS => ?_)
  have hp_3 : r_3 = nI (vM w0) := hp_3
  subst hp_3
  refine lv_aload_n hx hb dX4_doneRows_6 rfl (lv_at hl 0 rfl) ?_
  refine lv_iconst (v := nI 1) hx hb dX4_doneRows_7 (by decide) ?_
  refine lv_iconst (v := nI 1) hx hb dX4_doneRows_8 (by decide) ?_
  refine k_calli (fun _ => [kO q0 4 [.int (nI th), .ref q1, .ref q2, .ref q3, .ref q4, .ref q5, .ref q6], kC G q1 8 (nR (peF w0 w1)), kC G q2 120 (nR (knF w0 w1)), kC G q3 120 (nR (plF w0 w1)), kC G q4 80 (nR ru), kC G q5 8 (nR bf), kC G q6 2 (nR (nuF ho un))]) [kC G q2 120 (nR (knF w0 w1)), kC G q3 120 (nR (plF w0 w1)), kC G q4 80 (nR ru), kC G q5 8 (nR bf), kC G q6 2 (nR (nuF ho un))] (k_runV (As := [.int (nI 1), .int (nI 1)]) (rest := [.int (nI (vM w0))]) (wc := [kO q0 4 [.int (nI th), .ref q1, .ref q2, .ref q3, .ref q4, .ref q5, .ref q6], kC G q1 8 (nR (peF w0 w1))]) ⟨hx, hb, hml, hown, hts⟩ (m_pe l G q0 q1 q2 q3 q4 q5 q6 th (peF w0 w1) 1 1 (by decide) (by decide)) (cwV 2 hts gX4_doneRows_X4_pe rfl rfl rfl (by decide +kernel) ⟨Nat.le_of_ble_eq_true rfl, Nat.le_of_ble_eq_true rfl⟩) hK hZ hP hD hS hA [0, 1] rfl rfl 0 4 rfl rfl rfl rfl hl.1 rfl (Nat.le_of_ble_eq_true rfl) dX4_doneRows_9 ⟨Nat.le_of_ble_eq_true rfl, Nat.le_of_ble_eq_true rfl⟩) hP hD hS hA [0, 1] [2, 3, 4, 5, 6] [5, 6, 0, 1, 2, 3, 4] rfl rfl rfl (by decide) (fun _ => rfl) rfl (fun r_9 u_9 H locs hp_9 hP hD hS => ?_)
  have hp_9 : r_9 = nI (vM w1) := hp_9
  subst hp_9
  refine va_mmin hx hb (hml.trans hl.1.symm) hown hq_0 hq_1 hq_2 hq_3 (Nat.le_of_ble_eq_true rfl) (Nat.le_of_ble_eq_true rfl) (Nat.le_of_ble_eq_true rfl) (Nat.le_of_ble_eq_true rfl) dX4_doneRows_12 ?_
  refine lv_topi (fun y_1 hy_1 => ?_)
  obtain rfl : y_1 = nI (min (vM w0) (vM w1)) := hy_1.trans (k_min (a := (vM w0)) (b := (vM w1)) (by omega) (by omega))
  refine lv_bipush (v := nI 6) hx hb dX4_doneRows_15 (by decide) ?_
  refine lv_idiv hx hb dX4_doneRows_17 (by first | decide | (intro h; exact absurd ((nI_eq (by omega) (by omega)).mp h) (by omega))) ?_
  refine lv_topi (fun y_2 hy_2 => ?_)
  obtain rfl : y_2 = nI ((min (vM w0) (vM w1)) / 6) := hy_2.trans (pk_div (a := (min (vM w0) (vM w1))) (d := 6) (by omega) (by omega) (by omega))
  exact k_iret (ws := [kO q0 4 [.int (nI th), .ref q1, .ref q2, .ref q3, .ref q4, .ref q5, .ref q6], kC G q1 8 (nR (peF w0 w1)), kC G q2 120 (nR (knF w0 w1)), kC G q3 120 (nR (plF w0 w1)), kC G q4 80 (nR ru), kC G q5 8 (nR bf), kC G q6 2 (nR (nuF ho un))]) (()) hx hb hr hlocks hP hD hS hAe hQ (Nat.le_of_ble_eq_true rfl) (Nat.le_of_ble_eq_true rfl) dX4_doneRows_18 (rfl) (by rw [rwN_eq])
set_option maxHeartbeats 4000000 in
set_option maxRecDepth 100000 in
theorem m_torn (l : Launch) (G : kG) (q0 : Nat) (q1 : Nat) (q2 : Nat) (q3 : Nat) (q4 : Nat) (q5 : Nat) (q6 : Nat) (w0 : Wv) (w1 : Wv) (bf : Nat → Nat) (ho : Nat) (un : Nat) (ru : Nat → Nat) (th : Nat) (h0 : wOk w0) (h1 : wOk w1) (hru : ruOk w0 w1 ru) : kM l G yX4_torn wsX4_torn ({ frames := 2, cells := 0, slots := 0, locals := 45 } : Room) [.ref q0] [kO q0 4 [.int (nI th), .ref q1, .ref q2, .ref q3, .ref q4, .ref q5, .ref q6], kC G q1 8 (nR (peF w0 w1)), kC G q2 120 (nR (knF w0 w1)), kC G q3 120 (nR (plF w0 w1)), kC G q4 80 (nR ru), kC G q5 8 (nR bf), kC G q6 2 (nR (nuF ho un))] (kQi G [kO q0 4 [.int (nI th), .ref q1, .ref q2, .ref q3, .ref q4, .ref q5, .ref q6], kC G q1 8 (nR (peF w0 w1)), kC G q2 120 (nR (knF w0 w1)), kC G q3 120 (nR (plF w0 w1)), kC G q4 80 (nR ru), kC G q5 8 (nR bf), kC G q6 2 (nR (nuF ho un))] (fun (r : Int32) (_ : Unit) => r = nI (tornN w0 w1 (rwN w0 w1))) (fun (_ : Unit) => [kO q0 4 [.int (nI th), .ref q1, .ref q2, .ref q3, .ref q4, .ref q5, .ref q6], kC G q1 8 (nR (peF w0 w1)), kC G q2 120 (nR (knF w0 w1)), kC G q3 120 (nR (plF w0 w1)), kC G q4 80 (nR ru), kC G q5 8 (nR bf), kC G q6 2 (nR (nuF ho un))])) := by
  refine k_ofW (cc := cX4_torn) (maxL := 4) (rt := (some .int)) (by decide) rfl (Nat.le_of_ble_eq_true rfl) ?_
  intro p e s m args below meth c A ls Qs H locs hQ hAe hx hb hr hml hts hown hlocks hin hK hZ hP hD hS hA hl
  have hown : s.vm.findClass RX4 = some m.cls := hown
  have hl : lv_has ls 4 [(0, .ref q0)] := hl
  have m0b : vM w0 ≤ 60 := h0.2.2.2.1
  have m1b : vM w1 ≤ 60 := h1.2.2.2.1
  have t0b : vT w0 ≤ 20 := h0.2.2.1
  have t1b : vT w1 ≤ 20 := h1.2.2.1
  have pb0 : ∀ i, i < 60 → vP w0 i < 8 := h0.2.2.2.2.1
  have pb1 : ∀ i, i < 60 → vP w1 i < 8 := h1.2.2.2.2.1
  have kb0 : ∀ i, i < 60 → vK w0 i < 8 := h0.2.2.2.2.2.1
  have kb1 : ∀ i, i < 60 → vK w1 i < 8 := h1.2.2.2.2.2.1
  have rk0 := hru.1
  have rk1 := hru.2
  have hrw : rwN w0 w1 ≤ 10 := by unfold rwN; omega
  have hrw0 : rwN w0 w1 ≤ vM w0 / 6 := by unfold rwN; omega
  have hrw1 : rwN w0 w1 ≤ vM w1 / 6 := by unfold rwN; omega
  have hq_0 : ∀ w ∈ wsX40, w ∈ wsX4_torn := by decide +kernel
  have hq_1 : (Cond.fieldLink RX4 16 "KnotRugsModel" "plan" "[I").before args s = true := hts _ (by decide +kernel)
  refine lv_iconst (v := nI 0) hx hb dX4_torn_0 (by decide) ?_
  refine lv_istore_n (lv' := [(1, .int (nI 0)), (0, .ref q0)]) hx hb dX4_torn_1 rfl hl (by decide) rfl (fun ls hl => ?_)
  refine lv_iconst (v := nI 0) hx hb dX4_torn_2 (by decide) ?_
  refine lv_istore_n (lv' := [(2, .int (nI 0)), (1, .int (nI 0)), (0, .ref q0)]) hx hb dX4_torn_3 rfl hl (by decide) rfl (fun ls hl => ?_)
  have loop_4 : ∀ (fu_4 : Nat) (y : Nat) (z : Nat), y ≤ rwN w0 w1 → z = tornN w0 w1 y → rwN w0 w1 < y + fu_4 → ∀ (H : Heap) (locs : List Loc) (ls : Array Slot), va_P G.1 vwCl [kO q0 4 [.int (nI th), .ref q1, .ref q2, .ref q3, .ref q4, .ref q5, .ref q6], kC G q1 8 (nR (peF w0 w1)), kC G q2 120 (nR (knF w0 w1)), kC G q3 120 (nR (plF w0 w1)), kC G q4 80 (nR ru), kC G q5 8 (nR bf), kC G q6 2 (nR (nuF ho un))] H → va_D A [kO q0 4 [.int (nI th), .ref q1, .ref q2, .ref q3, .ref q4, .ref q5, .ref q6], kC G q1 8 (nR (peF w0 w1)), kC G q2 120 (nR (knF w0 w1)), kC G q3 120 (nR (plF w0 w1)), kC G q4 80 (nR ru), kC G q5 8 (nR bf), kC G q6 2 (nR (nuF ho un))] → va_S A s.heap H locs → lv_has ls 4 [(0, .ref q0), (1, .int (nI z)), (2, .int (nI y))] → W p l e ({ frames := 2, cells := 0, slots := 0, locals := 45 } : Room) s m args below meth c H locs 0 0 Qs (F0 m 4 ls []) := by
    intro fu_4
    induction fu_4 with
    | zero =>
      intro y z hy hz hf
      exact absurd hf (by omega)
    | succ fu_4 ih_4 =>
      intro y z hy hz hf H locs ls hP hD hS hl
      refine lv_iload_n hx hb dX4_torn_4 rfl (lv_at hl 2 rfl) ?_
      refine lv_aload_n hx hb dX4_torn_5 rfl (lv_at hl 0 rfl) ?_
      refine k_calli (fun _ => [kO q0 4 [.int (nI th), .ref q1, .ref q2, .ref q3, .ref q4, .ref q5, .ref q6], kC G q1 8 (nR (peF w0 w1)), kC G q2 120 (nR (knF w0 w1)), kC G q3 120 (nR (plF w0 w1)), kC G q4 80 (nR ru), kC G q5 8 (nR bf), kC G q6 2 (nR (nuF ho un))]) [] (k_runV (As := []) (rest := [.int (nI y)]) (wc := [kO q0 4 [.int (nI th), .ref q1, .ref q2, .ref q3, .ref q4, .ref q5, .ref q6], kC G q1 8 (nR (peF w0 w1)), kC G q2 120 (nR (knF w0 w1)), kC G q3 120 (nR (plF w0 w1)), kC G q4 80 (nR ru), kC G q5 8 (nR bf), kC G q6 2 (nR (nuF ho un))]) ⟨hx, hb, hml, hown, hts⟩ (m_doneRows l G q0 q1 q2 q3 q4 q5 q6 w0 w1 bf ho un ru th h0 h1 hru) (cwV 0 hts gX4_torn_X4_doneRows rfl rfl rfl (by decide +kernel) ⟨Nat.le_of_ble_eq_true rfl, Nat.le_of_ble_eq_true rfl⟩) hK hZ hP hD hS hA [0, 1, 2, 3, 4, 5, 6] rfl rfl 0 4 rfl rfl rfl rfl hl.1 rfl (Nat.le_of_ble_eq_true rfl) dX4_torn_6 ⟨Nat.le_of_ble_eq_true rfl, Nat.le_of_ble_eq_true rfl⟩) hP hD hS hA [0, 1, 2, 3, 4, 5, 6] [] [0, 1, 2, 3, 4, 5, 6] rfl rfl rfl (by decide) (fun _ => rfl) rfl (fun r_6 u_6 H locs hp_6 hP hD hS => ?_)
      have hp_6 : r_6 = nI (rwN w0 w1) := hp_6
      subst hp_6
      refine lv_icmp_ge (tgt := 81) hx hb dX4_torn_9 (by decide) (fun c_9 => ?_) (fun c_9 => ?_)
      · have c_9 : (rwN w0 w1) ≤ y := (nI_leI (a := (rwN w0 w1)) (b := y) (by omega) (by omega)).mp c_9
        have hy9 : y = rwN w0 w1 := by omega
        refine lv_iload_n hx hb dX4_torn_81 rfl (lv_at hl 1 rfl) ?_
        exact k_iret (ws := [kO q0 4 [.int (nI th), .ref q1, .ref q2, .ref q3, .ref q4, .ref q5, .ref q6], kC G q1 8 (nR (peF w0 w1)), kC G q2 120 (nR (knF w0 w1)), kC G q3 120 (nR (plF w0 w1)), kC G q4 80 (nR ru), kC G q5 8 (nR bf), kC G q6 2 (nR (nuF ho un))]) (()) hx hb hr hlocks hP hD hS hAe hQ (Nat.le_of_ble_eq_true rfl) (Nat.le_of_ble_eq_true rfl) dX4_torn_82 (rfl) (by rw [hz, hy9])
      · have c_9 : ¬ ((rwN w0 w1) ≤ y) := fun h9 => c_9 ((nI_leI (a := (rwN w0 w1)) (b := y) (by omega) (by omega)).mpr h9)
        refine lv_aload_n hx hb dX4_torn_12 rfl (lv_at hl 0 rfl) ?_
        refine lv_iconst (v := nI 5) hx hb dX4_torn_13 (by decide) ?_
        refine lv_iload_n hx hb dX4_torn_14 rfl (lv_at hl 2 rfl) ?_
        refine k_calli (fun _ => [kO q0 4 [.int (nI th), .ref q1, .ref q2, .ref q3, .ref q4, .ref q5, .ref q6], kC G q1 8 (nR (peF w0 w1)), kC G q2 120 (nR (knF w0 w1)), kC G q3 120 (nR (plF w0 w1)), kC G q4 80 (nR ru), kC G q5 8 (nR bf), kC G q6 2 (nR (nuF ho un))]) [] (k_runV (As := [.int (nI 5), .int (nI y)]) (rest := []) (wc := [kO q0 4 [.int (nI th), .ref q1, .ref q2, .ref q3, .ref q4, .ref q5, .ref q6], kC G q1 8 (nR (peF w0 w1)), kC G q2 120 (nR (knF w0 w1)), kC G q3 120 (nR (plF w0 w1)), kC G q4 80 (nR ru), kC G q5 8 (nR bf), kC G q6 2 (nR (nuF ho un))]) ⟨hx, hb, hml, hown, hts⟩ (m_colour l G q0 q1 q2 q3 q4 q5 q6 w0 w1 bf ho un ru th 5 y (by decide) (by omega) h0 h1 hru) (cwV 2 hts gX4_torn_X4_colour rfl rfl rfl (by decide +kernel) ⟨Nat.le_of_ble_eq_true rfl, Nat.le_of_ble_eq_true rfl⟩) hK hZ hP hD hS hA [0, 1, 2, 3, 4, 5, 6] rfl rfl 0 4 rfl rfl rfl rfl hl.1 rfl (Nat.le_of_ble_eq_true rfl) dX4_torn_15 ⟨Nat.le_of_ble_eq_true rfl, Nat.le_of_ble_eq_true rfl⟩) hP hD hS hA [0, 1, 2, 3, 4, 5, 6] [] [0, 1, 2, 3, 4, 5, 6] rfl rfl rfl (by decide) (fun _ => rfl) rfl (fun r_15 u_15 H locs hp_15 hP hD hS => ?_)
        have hp_15 : r_15 = ktN w0 w1 5 y := hp_15
        subst hp_15
        have hpl : plN 6 y < 60 := plN_lt (by decide) (by omega)
        have hpl5 : plN 5 y < 60 := plN_lt (by decide) (by omega)
        have x1 := kb0 _ hpl
        have x2 := kb1 _ hpl
        have x3 := pb0 _ hpl
        have x4 := pb1 _ hpl
        rw [kt5 (by omega)]
        refine lv_aload_n hx hb dX4_torn_18 rfl (lv_at hl 0 rfl) ?_
        refine lv_bipush (v := nI 6) hx hb dX4_torn_19 (by decide) ?_
        refine lv_iload_n hx hb dX4_torn_21 rfl (lv_at hl 2 rfl) ?_
        refine k_calli (fun _ => [kO q0 4 [.int (nI th), .ref q1, .ref q2, .ref q3, .ref q4, .ref q5, .ref q6], kC G q1 8 (nR (peF w0 w1)), kC G q2 120 (nR (knF w0 w1)), kC G q3 120 (nR (plF w0 w1)), kC G q4 80 (nR ru), kC G q5 8 (nR bf), kC G q6 2 (nR (nuF ho un))]) [] (k_runV (As := [.int (nI 6), .int (nI y)]) (rest := [.int (nI (vK w0 (plN 6 y)))]) (wc := [kO q0 4 [.int (nI th), .ref q1, .ref q2, .ref q3, .ref q4, .ref q5, .ref q6], kC G q1 8 (nR (peF w0 w1)), kC G q2 120 (nR (knF w0 w1)), kC G q3 120 (nR (plF w0 w1)), kC G q4 80 (nR ru), kC G q5 8 (nR bf), kC G q6 2 (nR (nuF ho un))]) ⟨hx, hb, hml, hown, hts⟩ (m_colour l G q0 q1 q2 q3 q4 q5 q6 w0 w1 bf ho un ru th 6 y (by decide) (by omega) h0 h1 hru) (cwV 2 hts gX4_torn_X4_colour rfl rfl rfl (by decide +kernel) ⟨Nat.le_of_ble_eq_true rfl, Nat.le_of_ble_eq_true rfl⟩) hK hZ hP hD hS hA [0, 1, 2, 3, 4, 5, 6] rfl rfl 0 4 rfl rfl rfl rfl hl.1 rfl (Nat.le_of_ble_eq_true rfl) dX4_torn_22 ⟨Nat.le_of_ble_eq_true rfl, Nat.le_of_ble_eq_true rfl⟩) hP hD hS hA [0, 1, 2, 3, 4, 5, 6] [] [0, 1, 2, 3, 4, 5, 6] rfl rfl rfl (by decide) (fun _ => rfl) rfl (fun r_22 u_22 H locs hp_22 hP hD hS => ?_)
        have hp_22 : r_22 = ktN w0 w1 6 y := hp_22
        subst hp_22
        rw [kt6 (by omega)]
        refine lv_icmp_ne (tgt := 32) hx hb dX4_torn_25 (by decide) (fun c_25 => ?_) (fun c_25 => ?_)
        · have c_25 : ¬ ((vK w0 (plN 6 y)) = (vK w1 (plN 6 y))) := fun h9 => c_25 ((nI_eq (a := (vK w0 (plN 6 y))) (b := (vK w1 (plN 6 y))) (by omega) (by omega)).mpr h9)
          refine lv_iconst (v := nI 0) hx hb dX4_torn_32 (by decide) ?_
          refine lv_istore_n (lv' := [(3, .int (nI 0)), (0, .ref q0), (1, .int (nI z)), (2, .int (nI y))]) hx hb dX4_torn_33 rfl hl (by decide) rfl (fun ls hl => ?_)
          refine lv_iload_n hx hb dX4_torn_34 rfl (lv_at hl 2 rfl) ?_
          refine lv_iload_n hx hb dX4_torn_35 rfl (lv_at hl 0 rfl) ?_
          refine lv_aload_n hx hb dX4_torn_36 rfl (lv_at hl 1 rfl) ?_
          refine va_get (D := G.1) (ci := 4) (v := .ref q3) (C := RX4) (T := TX4) (N := 7) hx hb hts hq_0 hown hK.1 hP 0 rfl rfl 3 (by decide) hq_1 (fun _ h9 => h9) rfl dX4_torn_37 ?_
          refine lv_iconst (v := nI 5) hx hb dX4_torn_40 (by decide) ?_
          refine lv_iload_n hx hb dX4_torn_41 rfl (lv_at hl 3 rfl) ?_
          refine k_calli (fun _ => [kO q0 4 [.int (nI th), .ref q1, .ref q2, .ref q3, .ref q4, .ref q5, .ref q6], kC G q1 8 (nR (peF w0 w1)), kC G q2 120 (nR (knF w0 w1)), kC G q3 120 (nR (plF w0 w1)), kC G q4 80 (nR ru), kC G q5 8 (nR bf), kC G q6 2 (nR (nuF ho un))]) [kO q0 4 [.int (nI th), .ref q1, .ref q2, .ref q3, .ref q4, .ref q5, .ref q6], kC G q1 8 (nR (peF w0 w1)), kC G q2 120 (nR (knF w0 w1)), kC G q3 120 (nR (plF w0 w1)), kC G q4 80 (nR ru), kC G q5 8 (nR bf), kC G q6 2 (nR (nuF ho un))] (k_runS (As := [.int (nI 5), .int (nI y)]) (rest := [.ref q3, .int (nI 0), .int (nI z)]) (wc := []) ⟨hx, hb, hml, hown, hts⟩ (m_at l G 5 y (by decide) (by omega)) (va_cwS 2 hts gX4_torn_X4_at rfl rfl rfl (by decide +kernel) ⟨Nat.le_of_ble_eq_true rfl, Nat.le_of_ble_eq_true rfl⟩) hK hZ hP hD hS hA [] rfl rfl rfl hl.1 rfl (Nat.le_of_ble_eq_true rfl) dX4_torn_42 ⟨Nat.le_of_ble_eq_true rfl, Nat.le_of_ble_eq_true rfl⟩) hP hD hS hA [] [0, 1, 2, 3, 4, 5, 6] [0, 1, 2, 3, 4, 5, 6] rfl rfl rfl (by decide) (fun _ => rfl) rfl (fun r_42 u_42 H locs hp_42 hP hD hS => ?_)
          have hp_42 : r_42 = nI (plN 5 y) := hp_42.trans (congrArg nI (atN_0 (by omega)))
          subst hp_42
          have hi_1 : (plN 5 y) < 120 := by omega
          refine va_iald (D := G.1) hx hb hK.1 hP 3 0 rfl rfl (vp_in_nI hi_1 (by omega)) dX4_torn_45 ?_
          refine lv_topi (fun y_2 hy_2 => ?_)
          obtain rfl : y_2 = nI ((plF w0 w1) (plN 5 y)) := hy_2.trans (nR_at (by omega))
          refine lv_topi (fun y_3 hy_3 => ?_)
          obtain rfl : y_3 = nI (vP w0 (plN 5 y)) := hy_3.trans (congrArg nI (plF_lo (by omega)))
          refine lv_topi (fun y_4 hy_4 => ?_)
          obtain rfl : y_4 = nI (vP w0 (plN 6 y)) := hy_4.trans (by rw [pl56])
          refine lv_aload_n hx hb dX4_torn_46 rfl (lv_at hl 1 rfl) ?_
          refine va_get (D := G.1) (ci := 4) (v := .ref q3) (C := RX4) (T := TX4) (N := 7) hx hb hts hq_0 hown hK.1 hP 0 rfl rfl 3 (by decide) hq_1 (fun _ h9 => h9) rfl dX4_torn_47 ?_
          refine lv_bipush (v := nI 6) hx hb dX4_torn_50 (by decide) ?_
          refine lv_iload_n hx hb dX4_torn_52 rfl (lv_at hl 3 rfl) ?_
          refine k_calli (fun _ => [kO q0 4 [.int (nI th), .ref q1, .ref q2, .ref q3, .ref q4, .ref q5, .ref q6], kC G q1 8 (nR (peF w0 w1)), kC G q2 120 (nR (knF w0 w1)), kC G q3 120 (nR (plF w0 w1)), kC G q4 80 (nR ru), kC G q5 8 (nR bf), kC G q6 2 (nR (nuF ho un))]) [kO q0 4 [.int (nI th), .ref q1, .ref q2, .ref q3, .ref q4, .ref q5, .ref q6], kC G q1 8 (nR (peF w0 w1)), kC G q2 120 (nR (knF w0 w1)), kC G q3 120 (nR (plF w0 w1)), kC G q4 80 (nR ru), kC G q5 8 (nR bf), kC G q6 2 (nR (nuF ho un))] (k_runS (As := [.int (nI 6), .int (nI y)]) (rest := [.ref q3, .int (nI (vP w0 (plN 6 y))), .int (nI 0), .int (nI z)]) (wc := []) ⟨hx, hb, hml, hown, hts⟩ (m_at l G 6 y (by decide) (by omega)) (va_cwS 2 hts gX4_torn_X4_at rfl rfl rfl (by decide +kernel) ⟨Nat.le_of_ble_eq_true rfl, Nat.le_of_ble_eq_true rfl⟩) hK hZ hP hD hS hA [] rfl rfl rfl hl.1 rfl (Nat.le_of_ble_eq_true rfl) dX4_torn_53 ⟨Nat.le_of_ble_eq_true rfl, Nat.le_of_ble_eq_true rfl⟩) hP hD hS hA [] [0, 1, 2, 3, 4, 5, 6] [0, 1, 2, 3, 4, 5, 6] rfl rfl rfl (by decide) (fun _ => rfl) rfl (fun r_53 u_53 H locs hp_53 hP hD hS => ?_)
          have hp_53 : r_53 = nI (60 + plN 6 y) := hp_53.trans (congrArg nI (atN_1 (by omega) (by omega)))
          subst hp_53
          have hi_5 : (60 + plN 6 y) < 120 := by omega
          refine va_iald (D := G.1) hx hb hK.1 hP 3 0 rfl rfl (vp_in_nI hi_5 (by omega)) dX4_torn_56 ?_
          refine lv_topi (fun y_6 hy_6 => ?_)
          obtain rfl : y_6 = nI ((plF w0 w1) (60 + plN 6 y)) := hy_6.trans (nR_at (by omega))
          refine lv_topi (fun y_7 hy_7 => ?_)
          obtain rfl : y_7 = nI (vP w1 (plN 6 y)) := hy_7.trans (congrArg nI (plF_hi))
          refine lv_icmp_ne (tgt := 64) hx hb dX4_torn_57 (by decide) (fun c_57 => ?_) (fun c_57 => ?_)
          · have c_57 : ¬ ((vP w0 (plN 6 y)) = (vP w1 (plN 6 y))) := fun h9 => c_57 ((nI_eq (a := (vP w0 (plN 6 y))) (b := (vP w1 (plN 6 y))) (by omega) (by omega)).mpr h9)
            refine lv_iconst (v := nI 0) hx hb dX4_torn_64 (by decide) ?_
            refine lv_icmp_ne (tgt := 72) hx hb dX4_torn_65 (by decide) (fun c_65 => absurd c_65 (by decide)) (fun c_65 => ?_)
            refine lv_iconst (v := nI 0) hx hb dX4_torn_68 (by decide) ?_
            refine lv_goto (tgt := 73) hx hb dX4_torn_69 (by decide) ?_
            refine lv_iadd hx hb dX4_torn_73 ?_
            refine lv_topi (fun y_8 hy_8 => ?_)
            obtain rfl : y_8 = nI (z + 0) := hy_8.trans (nI_add z 0)
            refine lv_istore_n (lv' := [(1, .int (nI (z + 0))), (3, .int (nI 0)), (0, .ref q0), (2, .int (nI y))]) hx hb dX4_torn_74 rfl hl (by decide) rfl (fun ls hl => ?_)
            refine lv_iinc (v := nI (y + 1)) (lv' := [(2, .int (nI (y + 1))), (1, .int (nI (z + 0))), (3, .int (nI 0)), (0, .ref q0)]) hx hb dX4_torn_75 hl (k := 3) rfl (nI_add y 1) (by decide) rfl (fun ls hl => ?_)
            refine lv_goto (tgt := 4) hx hb dX4_torn_78 (by decide) ?_
            exact ih_4 (y + 1) (z + 0) (by omega) (by rw [hz]; first | exact (tornN_e (iff_of_true c_25 c_57)).symm | exact (tornN_e (iff_of_false c_25 c_57)).symm | exact (tornN_n (fun q => c_57 (q.mp c_25))).symm | exact (tornN_n (fun q => c_25 (q.mpr c_57))).symm) (by omega) _ _ _ hP hD hS (lv_sub hl [3, 1, 0] rfl)
          · have c_57 : (vP w0 (plN 6 y)) = (vP w1 (plN 6 y)) := (nI_eq (a := (vP w0 (plN 6 y))) (b := (vP w1 (plN 6 y))) (by omega) (by omega)).mp c_57
            refine lv_iconst (v := nI 1) hx hb dX4_torn_60 (by decide) ?_
            refine lv_goto (tgt := 65) hx hb dX4_torn_61 (by decide) ?_
            refine lv_icmp_ne (tgt := 72) hx hb dX4_torn_65 (by decide) (fun c_65 => ?_) (fun c_65 => absurd c_65 (by decide))
            refine lv_iconst (v := nI 1) hx hb dX4_torn_72 (by decide) ?_
            refine lv_iadd hx hb dX4_torn_73 ?_
            refine lv_topi (fun y_9 hy_9 => ?_)
            obtain rfl : y_9 = nI (z + 1) := hy_9.trans (nI_add z 1)
            refine lv_istore_n (lv' := [(1, .int (nI (z + 1))), (3, .int (nI 0)), (0, .ref q0), (2, .int (nI y))]) hx hb dX4_torn_74 rfl hl (by decide) rfl (fun ls hl => ?_)
            refine lv_iinc (v := nI (y + 1)) (lv' := [(2, .int (nI (y + 1))), (1, .int (nI (z + 1))), (3, .int (nI 0)), (0, .ref q0)]) hx hb dX4_torn_75 hl (k := 3) rfl (nI_add y 1) (by decide) rfl (fun ls hl => ?_)
            refine lv_goto (tgt := 4) hx hb dX4_torn_78 (by decide) ?_
            exact ih_4 (y + 1) (z + 1) (by omega) (by rw [hz]; first | exact (tornN_e (iff_of_true c_25 c_57)).symm | exact (tornN_e (iff_of_false c_25 c_57)).symm | exact (tornN_n (fun q => c_57 (q.mp c_25))).symm | exact (tornN_n (fun q => c_25 (q.mpr c_57))).symm) (by omega) _ _ _ hP hD hS (lv_sub hl [3, 1, 0] rfl)
        · have c_25 : (vK w0 (plN 6 y)) = (vK w1 (plN 6 y)) := (nI_eq (a := (vK w0 (plN 6 y))) (b := (vK w1 (plN 6 y))) (by omega) (by omega)).mp c_25
          refine lv_iconst (v := nI 1) hx hb dX4_torn_28 (by decide) ?_
          refine lv_goto (tgt := 33) hx hb dX4_torn_29 (by decide) ?_
          refine lv_istore_n (lv' := [(3, .int (nI 1)), (0, .ref q0), (1, .int (nI z)), (2, .int (nI y))]) hx hb dX4_torn_33 rfl hl (by decide) rfl (fun ls hl => ?_)
          refine lv_iload_n hx hb dX4_torn_34 rfl (lv_at hl 2 rfl) ?_
          refine lv_iload_n hx hb dX4_torn_35 rfl (lv_at hl 0 rfl) ?_
          refine lv_aload_n hx hb dX4_torn_36 rfl (lv_at hl 1 rfl) ?_
          refine va_get (D := G.1) (ci := 4) (v := .ref q3) (C := RX4) (T := TX4) (N := 7) hx hb hts hq_0 hown hK.1 hP 0 rfl rfl 3 (by decide) hq_1 (fun _ h9 => h9) rfl dX4_torn_37 ?_
          refine lv_iconst (v := nI 5) hx hb dX4_torn_40 (by decide) ?_
          refine lv_iload_n hx hb dX4_torn_41 rfl (lv_at hl 3 rfl) ?_
          refine k_calli (fun _ => [kO q0 4 [.int (nI th), .ref q1, .ref q2, .ref q3, .ref q4, .ref q5, .ref q6], kC G q1 8 (nR (peF w0 w1)), kC G q2 120 (nR (knF w0 w1)), kC G q3 120 (nR (plF w0 w1)), kC G q4 80 (nR ru), kC G q5 8 (nR bf), kC G q6 2 (nR (nuF ho un))]) [kO q0 4 [.int (nI th), .ref q1, .ref q2, .ref q3, .ref q4, .ref q5, .ref q6], kC G q1 8 (nR (peF w0 w1)), kC G q2 120 (nR (knF w0 w1)), kC G q3 120 (nR (plF w0 w1)), kC G q4 80 (nR ru), kC G q5 8 (nR bf), kC G q6 2 (nR (nuF ho un))] (k_runS (As := [.int (nI 5), .int (nI y)]) (rest := [.ref q3, .int (nI 1), .int (nI z)]) (wc := []) ⟨hx, hb, hml, hown, hts⟩ (m_at l G 5 y (by decide) (by omega)) (va_cwS 2 hts gX4_torn_X4_at rfl rfl rfl (by decide +kernel) ⟨Nat.le_of_ble_eq_true rfl, Nat.le_of_ble_eq_true rfl⟩) hK hZ hP hD hS hA [] rfl rfl rfl hl.1 rfl (Nat.le_of_ble_eq_true rfl) dX4_torn_42 ⟨Nat.le_of_ble_eq_true rfl, Nat.le_of_ble_eq_true rfl⟩) hP hD hS hA [] [0, 1, 2, 3, 4, 5, 6] [0, 1, 2, 3, 4, 5, 6] rfl rfl rfl (by decide) (fun _ => rfl) rfl (fun r_42 u_42 H locs hp_42 hP hD hS => ?_)
          have hp_42 : r_42 = nI (plN 5 y) := hp_42.trans (congrArg nI (atN_0 (by omega)))
          subst hp_42
          have hi_10 : (plN 5 y) < 120 := by omega
          refine va_iald (D := G.1) hx hb hK.1 hP 3 0 rfl rfl (vp_in_nI hi_10 (by omega)) dX4_torn_45 ?_
          refine lv_topi (fun y_11 hy_11 => ?_)
          obtain rfl : y_11 = nI ((plF w0 w1) (plN 5 y)) := hy_11.trans (nR_at (by omega))
          refine lv_topi (fun y_12 hy_12 => ?_)
          obtain rfl : y_12 = nI (vP w0 (plN 5 y)) := hy_12.trans (congrArg nI (plF_lo (by omega)))
          refine lv_topi (fun y_13 hy_13 => ?_)
          obtain rfl : y_13 = nI (vP w0 (plN 6 y)) := hy_13.trans (by rw [pl56])
          refine lv_aload_n hx hb dX4_torn_46 rfl (lv_at hl 1 rfl) ?_
          refine va_get (D := G.1) (ci := 4) (v := .ref q3) (C := RX4) (T := TX4) (N := 7) hx hb hts hq_0 hown hK.1 hP 0 rfl rfl 3 (by decide) hq_1 (fun _ h9 => h9) rfl dX4_torn_47 ?_
          refine lv_bipush (v := nI 6) hx hb dX4_torn_50 (by decide) ?_
          refine lv_iload_n hx hb dX4_torn_52 rfl (lv_at hl 3 rfl) ?_
          refine k_calli (fun _ => [kO q0 4 [.int (nI th), .ref q1, .ref q2, .ref q3, .ref q4, .ref q5, .ref q6], kC G q1 8 (nR (peF w0 w1)), kC G q2 120 (nR (knF w0 w1)), kC G q3 120 (nR (plF w0 w1)), kC G q4 80 (nR ru), kC G q5 8 (nR bf), kC G q6 2 (nR (nuF ho un))]) [kO q0 4 [.int (nI th), .ref q1, .ref q2, .ref q3, .ref q4, .ref q5, .ref q6], kC G q1 8 (nR (peF w0 w1)), kC G q2 120 (nR (knF w0 w1)), kC G q3 120 (nR (plF w0 w1)), kC G q4 80 (nR ru), kC G q5 8 (nR bf), kC G q6 2 (nR (nuF ho un))] (k_runS (As := [.int (nI 6), .int (nI y)]) (rest := [.ref q3, .int (nI (vP w0 (plN 6 y))), .int (nI 1), .int (nI z)]) (wc := []) ⟨hx, hb, hml, hown, hts⟩ (m_at l G 6 y (by decide) (by omega)) (va_cwS 2 hts gX4_torn_X4_at rfl rfl rfl (by decide +kernel) ⟨Nat.le_of_ble_eq_true rfl, Nat.le_of_ble_eq_true rfl⟩) hK hZ hP hD hS hA [] rfl rfl rfl hl.1 rfl (Nat.le_of_ble_eq_true rfl) dX4_torn_53 ⟨Nat.le_of_ble_eq_true rfl, Nat.le_of_ble_eq_true rfl⟩) hP hD hS hA [] [0, 1, 2, 3, 4, 5, 6] [0, 1, 2, 3, 4, 5, 6] rfl rfl rfl (by decide) (fun _ => rfl) rfl (fun r_53 u_53 H locs hp_53 hP hD hS => ?_)
          have hp_53 : r_53 = nI (60 + plN 6 y) := hp_53.trans (congrArg nI (atN_1 (by omega) (by omega)))
          subst hp_53
          have hi_14 : (60 + plN 6 y) < 120 := by omega
          refine va_iald (D := G.1) hx hb hK.1 hP 3 0 rfl rfl (vp_in_nI hi_14 (by omega)) dX4_torn_56 ?_
          refine lv_topi (fun y_15 hy_15 => ?_)
          obtain rfl : y_15 = nI ((plF w0 w1) (60 + plN 6 y)) := hy_15.trans (nR_at (by omega))
          refine lv_topi (fun y_16 hy_16 => ?_)
          obtain rfl : y_16 = nI (vP w1 (plN 6 y)) := hy_16.trans (congrArg nI (plF_hi))
          refine lv_icmp_ne (tgt := 64) hx hb dX4_torn_57 (by decide) (fun c_57 => ?_) (fun c_57 => ?_)
          · have c_57 : ¬ ((vP w0 (plN 6 y)) = (vP w1 (plN 6 y))) := fun h9 => c_57 ((nI_eq (a := (vP w0 (plN 6 y))) (b := (vP w1 (plN 6 y))) (by omega) (by omega)).mpr h9)
            refine lv_iconst (v := nI 0) hx hb dX4_torn_64 (by decide) ?_
            refine lv_icmp_ne (tgt := 72) hx hb dX4_torn_65 (by decide) (fun c_65 => ?_) (fun c_65 => absurd c_65 (by decide))
            refine lv_iconst (v := nI 1) hx hb dX4_torn_72 (by decide) ?_
            refine lv_iadd hx hb dX4_torn_73 ?_
            refine lv_topi (fun y_17 hy_17 => ?_)
            obtain rfl : y_17 = nI (z + 1) := hy_17.trans (nI_add z 1)
            refine lv_istore_n (lv' := [(1, .int (nI (z + 1))), (3, .int (nI 1)), (0, .ref q0), (2, .int (nI y))]) hx hb dX4_torn_74 rfl hl (by decide) rfl (fun ls hl => ?_)
            refine lv_iinc (v := nI (y + 1)) (lv' := [(2, .int (nI (y + 1))), (1, .int (nI (z + 1))), (3, .int (nI 1)), (0, .ref q0)]) hx hb dX4_torn_75 hl (k := 3) rfl (nI_add y 1) (by decide) rfl (fun ls hl => ?_)
            refine lv_goto (tgt := 4) hx hb dX4_torn_78 (by decide) ?_
            exact ih_4 (y + 1) (z + 1) (by omega) (by rw [hz]; first | exact (tornN_e (iff_of_true c_25 c_57)).symm | exact (tornN_e (iff_of_false c_25 c_57)).symm | exact (tornN_n (fun q => c_57 (q.mp c_25))).symm | exact (tornN_n (fun q => c_25 (q.mpr c_57))).symm) (by omega) _ _ _ hP hD hS (lv_sub hl [3, 1, 0] rfl)
          · have c_57 : (vP w0 (plN 6 y)) = (vP w1 (plN 6 y)) := (nI_eq (a := (vP w0 (plN 6 y))) (b := (vP w1 (plN 6 y))) (by omega) (by omega)).mp c_57
            refine lv_iconst (v := nI 1) hx hb dX4_torn_60 (by decide) ?_
            refine lv_goto (tgt := 65) hx hb dX4_torn_61 (by decide) ?_
            refine lv_icmp_ne (tgt := 72) hx hb dX4_torn_65 (by decide) (fun c_65 => absurd c_65 (by decide)) (fun c_65 => ?_)
            refine lv_iconst (v := nI 0) hx hb dX4_torn_68 (by decide) ?_
            refine lv_goto (tgt := 73) hx hb dX4_torn_69 (by decide) ?_
            refine lv_iadd hx hb dX4_torn_73 ?_
            refine lv_topi (fun y_18 hy_18 => ?_)
            obtain rfl : y_18 = nI (z + 0) := hy_18.trans (nI_add z 0)
            refine lv_istore_n (lv' := [(1, .int (nI (z + 0))), (3, .int (nI 1)), (0, .ref q0), (2, .int (nI y))]) hx hb dX4_torn_74 rfl hl (by decide) rfl (fun ls hl => ?_)
            refine lv_iinc (v := nI (y + 1)) (lv' := [(2, .int (nI (y + 1))), (1, .int (nI (z + 0))), (3, .int (nI 1)), (0, .ref q0)]) hx hb dX4_torn_75 hl (k := 3) rfl (nI_add y 1) (by decide) rfl (fun ls hl => ?_)
            refine lv_goto (tgt := 4) hx hb dX4_torn_78 (by decide) ?_
            exact ih_4 (y + 1) (z + 0) (by omega) (by rw [hz]; first | exact (tornN_e (iff_of_true c_25 c_57)).symm | exact (tornN_e (iff_of_false c_25 c_57)).symm | exact (tornN_n (fun q => c_57 (q.mp c_25))).symm | exact (tornN_n (fun q => c_25 (q.mpr c_57))).symm) (by omega) _ _ _ hP hD hS (lv_sub hl [3, 1, 0] rfl)
  exact loop_4 (rwN w0 w1 + 1) 0 0 (by omega) rfl (by omega) H locs ls hP hD hS (lv_sub hl [2, 1, 0] rfl)
set_option maxHeartbeats 4000000 in
set_option maxRecDepth 100000 in
theorem m_counted (l : Launch) (G : kG) (q0 : Nat) (q1 : Nat) (q2 : Nat) (q3 : Nat) (q4 : Nat) (q5 : Nat) (q6 : Nat) (w0 : Wv) (w1 : Wv) (bf : Nat → Nat) (ho : Nat) (un : Nat) (ru : Nat → Nat) (th : Nat) (k : Nat) (hk : k < 8) (h0 : wOk w0) (h1 : wOk w1) (hB : bOk bf) (hru : ruOk w0 w1 ru) : kM l G yX4_counted wsX4_counted ({ frames := 3, cells := 0, slots := 0, locals := 68 } : Room) [.ref q0, .int (nI k)] [kO q0 4 [.int (nI th), .ref q1, .ref q2, .ref q3, .ref q4, .ref q5, .ref q6], kC G q1 8 (nR (peF w0 w1)), kC G q2 120 (nR (knF w0 w1)), kC G q3 120 (nR (plF w0 w1)), kC G q4 80 (nR ru), kC G q5 8 (nR bf), kC G q6 2 (nR (nuF ho un))] (kQi G [kO q0 4 [.int (nI th), .ref q1, .ref q2, .ref q3, .ref q4, .ref q5, .ref q6], kC G q1 8 (nR (peF w0 w1)), kC G q2 120 (nR (knF w0 w1)), kC G q3 120 (nR (plF w0 w1)), kC G q4 80 (nR ru), kC G q5 8 (nR bf), kC G q6 2 (nR (nuF ho un))] (fun (r : Int32) (_ : Unit) => r = nI (rNum w0 w1 bf ho un k)) (fun (_ : Unit) => [kO q0 4 [.int (nI th), .ref q1, .ref q2, .ref q3, .ref q4, .ref q5, .ref q6], kC G q1 8 (nR (peF w0 w1)), kC G q2 120 (nR (knF w0 w1)), kC G q3 120 (nR (plF w0 w1)), kC G q4 80 (nR ru), kC G q5 8 (nR bf), kC G q6 2 (nR (nuF ho un))])) := by
  refine k_ofW (cc := cX4_counted) (maxL := 7) (rt := (some .int)) (by decide) rfl (Nat.le_of_ble_eq_true rfl) ?_
  intro p e s m args below meth c A ls Qs H locs hQ hAe hx hb hr hml hts hown hlocks hin hK hZ hP hD hS hA hl
  have hown : s.vm.findClass RX4 = some m.cls := hown
  have hl : lv_has ls 7 [(0, .ref q0), (1, .int (nI k))] := hl
  have hq_0 : ∀ w ∈ wsX40, w ∈ wsX4_counted := by decide +kernel
  have hq_1 : (Cond.fieldLink RX4 25 "KnotRugsModel" "numbers" "[I").before args s = true := hts _ (by decide +kernel)
  have hq_2 : (Cond.fieldLink RX4 22 "KnotRugsModel" "baskets" "[I").before args s = true := hts _ (by decide +kernel)
  rcases (show k = 0 ∨ k = 1 ∨ k = 2 ∨ k = 3 ∨ k = 4 ∨ k = 5 ∨ k = 6 ∨ k = 7 by omega) with rfl | rfl | rfl | rfl | rfl | rfl | rfl | rfl
  · refine lv_iconst (v := nI 0) hx hb dX4_counted_0 (by decide) ?_
    refine lv_istore_n (lv' := [(2, .int (nI 0)), (0, .ref q0), (1, .int (nI 0))]) hx hb dX4_counted_1 rfl hl (by decide) rfl (fun ls hl => ?_)
    refine lv_iload_n hx hb dX4_counted_2 rfl (lv_at hl 2 rfl) ?_
    refine lv_tableIn (off := 45) (tgt := 48) hx hb dX4_counted_3 (by decide) (by decide) rfl (by decide) ?_
    refine lv_aload_n hx hb dX4_counted_48 rfl (lv_at hl 1 rfl) ?_
    refine va_get (D := G.1) (ci := 4) (v := .ref q6) (C := RX4) (T := TX4) (N := 7) hx hb hts hq_0 hown hK.1 hP 0 rfl rfl 6 (by decide) hq_1 (fun _ h9 => h9) rfl dX4_counted_49 ?_
    refine lv_iconst (v := nI 0) hx hb dX4_counted_52 (by decide) ?_
    have hi_1 : 0 < 2 := by omega
    refine va_iald (D := G.1) hx hb hK.1 hP 6 0 rfl rfl (vp_in_nI hi_1 (by omega)) dX4_counted_53 ?_
    refine lv_topi (fun y_2 hy_2 => ?_)
    obtain rfl : y_2 = nI ((nuF ho un) 0) := hy_2.trans (nR_at (by omega))
    refine lv_topi (fun y_3 hy_3 => ?_)
    obtain rfl : y_3 = nI ho := hy_3.trans (rfl)
    exact k_iret (ws := [kO q0 4 [.int (nI th), .ref q1, .ref q2, .ref q3, .ref q4, .ref q5, .ref q6], kC G q1 8 (nR (peF w0 w1)), kC G q2 120 (nR (knF w0 w1)), kC G q3 120 (nR (plF w0 w1)), kC G q4 80 (nR ru), kC G q5 8 (nR bf), kC G q6 2 (nR (nuF ho un))]) (()) hx hb hr hlocks hP hD hS hAe hQ (Nat.le_of_ble_eq_true rfl) (Nat.le_of_ble_eq_true rfl) dX4_counted_54 (rfl) (rfl)
  · refine lv_iconst (v := nI 0) hx hb dX4_counted_0 (by decide) ?_
    refine lv_istore_n (lv' := [(2, .int (nI 0)), (0, .ref q0), (1, .int (nI 1))]) hx hb dX4_counted_1 rfl hl (by decide) rfl (fun ls hl => ?_)
    refine lv_iload_n hx hb dX4_counted_2 rfl (lv_at hl 2 rfl) ?_
    refine lv_tableIn (off := 52) (tgt := 55) hx hb dX4_counted_3 (by decide) (by decide) rfl (by decide) ?_
    refine lv_aload_n hx hb dX4_counted_55 rfl (lv_at hl 1 rfl) ?_
    refine lv_iconst (v := nI 0) hx hb dX4_counted_56 (by decide) ?_
    refine lv_iconst (v := nI 1) hx hb dX4_counted_57 (by decide) ?_
    refine k_calli (fun _ => [kO q0 4 [.int (nI th), .ref q1, .ref q2, .ref q3, .ref q4, .ref q5, .ref q6], kC G q1 8 (nR (peF w0 w1)), kC G q2 120 (nR (knF w0 w1)), kC G q3 120 (nR (plF w0 w1)), kC G q4 80 (nR ru), kC G q5 8 (nR bf), kC G q6 2 (nR (nuF ho un))]) [kC G q2 120 (nR (knF w0 w1)), kC G q3 120 (nR (plF w0 w1)), kC G q4 80 (nR ru), kC G q5 8 (nR bf), kC G q6 2 (nR (nuF ho un))] (k_runV (As := [.int (nI 0), .int (nI 1)]) (rest := []) (wc := [kO q0 4 [.int (nI th), .ref q1, .ref q2, .ref q3, .ref q4, .ref q5, .ref q6], kC G q1 8 (nR (peF w0 w1))]) ⟨hx, hb, hml, hown, hts⟩ (m_pe l G q0 q1 q2 q3 q4 q5 q6 th (peF w0 w1) 0 1 (by decide) (by decide)) (cwV 2 hts gX4_counted_X4_pe rfl rfl rfl (by decide +kernel) ⟨Nat.le_of_ble_eq_true rfl, Nat.le_of_ble_eq_true rfl⟩) hK hZ hP hD hS hA [0, 1] rfl rfl 0 4 rfl rfl rfl rfl hl.1 rfl (Nat.le_of_ble_eq_true rfl) dX4_counted_58 ⟨Nat.le_of_ble_eq_true rfl, Nat.le_of_ble_eq_true rfl⟩) hP hD hS hA [0, 1] [2, 3, 4, 5, 6] [5, 6, 0, 1, 2, 3, 4] rfl rfl rfl (by decide) (fun _ => rfl) rfl (fun r_58 u_58 H locs hp_58 hP hD hS => ?_)
    have hp_58 : r_58 = nI (vM w0) := hp_58
    subst hp_58
    refine lv_aload_n hx hb dX4_counted_61 rfl (lv_at hl 1 rfl) ?_
    refine lv_iconst (v := nI 1) hx hb dX4_counted_62 (by decide) ?_
    refine lv_iconst (v := nI 1) hx hb dX4_counted_63 (by decide) ?_
    refine k_calli (fun _ => [kO q0 4 [.int (nI th), .ref q1, .ref q2, .ref q3, .ref q4, .ref q5, .ref q6], kC G q1 8 (nR (peF w0 w1)), kC G q2 120 (nR (knF w0 w1)), kC G q3 120 (nR (plF w0 w1)), kC G q4 80 (nR ru), kC G q5 8 (nR bf), kC G q6 2 (nR (nuF ho un))]) [kC G q2 120 (nR (knF w0 w1)), kC G q3 120 (nR (plF w0 w1)), kC G q4 80 (nR ru), kC G q5 8 (nR bf), kC G q6 2 (nR (nuF ho un))] (k_runV (As := [.int (nI 1), .int (nI 1)]) (rest := [.int (nI (vM w0))]) (wc := [kO q0 4 [.int (nI th), .ref q1, .ref q2, .ref q3, .ref q4, .ref q5, .ref q6], kC G q1 8 (nR (peF w0 w1))]) ⟨hx, hb, hml, hown, hts⟩ (m_pe l G q0 q1 q2 q3 q4 q5 q6 th (peF w0 w1) 1 1 (by decide) (by decide)) (cwV 2 hts gX4_counted_X4_pe rfl rfl rfl (by decide +kernel) ⟨Nat.le_of_ble_eq_true rfl, Nat.le_of_ble_eq_true rfl⟩) hK hZ hP hD hS hA [0, 1] rfl rfl 0 4 rfl rfl rfl rfl hl.1 rfl (Nat.le_of_ble_eq_true rfl) dX4_counted_64 ⟨Nat.le_of_ble_eq_true rfl, Nat.le_of_ble_eq_true rfl⟩) hP hD hS hA [0, 1] [2, 3, 4, 5, 6] [5, 6, 0, 1, 2, 3, 4] rfl rfl rfl (by decide) (fun _ => rfl) rfl (fun r_64 u_64 H locs hp_64 hP hD hS => ?_)
    have hp_64 : r_64 = nI (vM w1) := hp_64
    subst hp_64
    refine lv_iadd hx hb dX4_counted_67 ?_
    refine lv_topi (fun y_4 hy_4 => ?_)
    obtain rfl : y_4 = nI ((vM w0) + (vM w1)) := hy_4.trans (nI_add (vM w0) (vM w1))
    exact k_iret (ws := [kO q0 4 [.int (nI th), .ref q1, .ref q2, .ref q3, .ref q4, .ref q5, .ref q6], kC G q1 8 (nR (peF w0 w1)), kC G q2 120 (nR (knF w0 w1)), kC G q3 120 (nR (plF w0 w1)), kC G q4 80 (nR ru), kC G q5 8 (nR bf), kC G q6 2 (nR (nuF ho un))]) (()) hx hb hr hlocks hP hD hS hAe hQ (Nat.le_of_ble_eq_true rfl) (Nat.le_of_ble_eq_true rfl) dX4_counted_68 (rfl) (rfl)
  · refine lv_iconst (v := nI 0) hx hb dX4_counted_0 (by decide) ?_
    refine lv_istore_n (lv' := [(2, .int (nI 0)), (0, .ref q0), (1, .int (nI 2))]) hx hb dX4_counted_1 rfl hl (by decide) rfl (fun ls hl => ?_)
    refine lv_iload_n hx hb dX4_counted_2 rfl (lv_at hl 2 rfl) ?_
    refine lv_tableIn (off := 66) (tgt := 69) hx hb dX4_counted_3 (by decide) (by decide) rfl (by decide) ?_
    refine lv_aload_n hx hb dX4_counted_69 rfl (lv_at hl 1 rfl) ?_
    refine k_calli (fun _ => [kO q0 4 [.int (nI th), .ref q1, .ref q2, .ref q3, .ref q4, .ref q5, .ref q6], kC G q1 8 (nR (peF w0 w1)), kC G q2 120 (nR (knF w0 w1)), kC G q3 120 (nR (plF w0 w1)), kC G q4 80 (nR ru), kC G q5 8 (nR bf), kC G q6 2 (nR (nuF ho un))]) [] (k_runV (As := []) (rest := []) (wc := [kO q0 4 [.int (nI th), .ref q1, .ref q2, .ref q3, .ref q4, .ref q5, .ref q6], kC G q1 8 (nR (peF w0 w1)), kC G q2 120 (nR (knF w0 w1)), kC G q3 120 (nR (plF w0 w1)), kC G q4 80 (nR ru), kC G q5 8 (nR bf), kC G q6 2 (nR (nuF ho un))]) ⟨hx, hb, hml, hown, hts⟩ (m_differ l G q0 q1 q2 q3 q4 q5 q6 w0 w1 bf ho un ru th h0 h1 hru) (cwV 0 hts gX4_counted_X4_differ rfl rfl rfl (by decide +kernel) ⟨Nat.le_of_ble_eq_true rfl, Nat.le_of_ble_eq_true rfl⟩) hK hZ hP hD hS hA [0, 1, 2, 3, 4, 5, 6] rfl rfl 0 4 rfl rfl rfl rfl hl.1 rfl (Nat.le_of_ble_eq_true rfl) dX4_counted_70 ⟨Nat.le_of_ble_eq_true rfl, Nat.le_of_ble_eq_true rfl⟩) hP hD hS hA [0, 1, 2, 3, 4, 5, 6] [] [0, 1, 2, 3, 4, 5, 6] rfl rfl rfl (by decide) (fun _ => rfl) rfl (fun r_70 u_70 H locs hp_70 hP hD hS => ?_)
    have hp_70 : r_70 = nI (ofN w0 w1) := hp_70
    subst hp_70
    exact k_iret (ws := [kO q0 4 [.int (nI th), .ref q1, .ref q2, .ref q3, .ref q4, .ref q5, .ref q6], kC G q1 8 (nR (peF w0 w1)), kC G q2 120 (nR (knF w0 w1)), kC G q3 120 (nR (plF w0 w1)), kC G q4 80 (nR ru), kC G q5 8 (nR bf), kC G q6 2 (nR (nuF ho un))]) (()) hx hb hr hlocks hP hD hS hAe hQ (Nat.le_of_ble_eq_true rfl) (Nat.le_of_ble_eq_true rfl) dX4_counted_73 (rfl) (rfl)
  · refine lv_iconst (v := nI 0) hx hb dX4_counted_0 (by decide) ?_
    refine lv_istore_n (lv' := [(2, .int (nI 0)), (0, .ref q0), (1, .int (nI 3))]) hx hb dX4_counted_1 rfl hl (by decide) rfl (fun ls hl => ?_)
    refine lv_iload_n hx hb dX4_counted_2 rfl (lv_at hl 2 rfl) ?_
    refine lv_tableIn (off := 71) (tgt := 74) hx hb dX4_counted_3 (by decide) (by decide) rfl (by decide) ?_
    refine lv_aload_n hx hb dX4_counted_74 rfl (lv_at hl 1 rfl) ?_
    refine k_calli (fun _ => [kO q0 4 [.int (nI th), .ref q1, .ref q2, .ref q3, .ref q4, .ref q5, .ref q6], kC G q1 8 (nR (peF w0 w1)), kC G q2 120 (nR (knF w0 w1)), kC G q3 120 (nR (plF w0 w1)), kC G q4 80 (nR ru), kC G q5 8 (nR bf), kC G q6 2 (nR (nuF ho un))]) [] (k_runV (As := []) (rest := []) (wc := [kO q0 4 [.int (nI th), .ref q1, .ref q2, .ref q3, .ref q4, .ref q5, .ref q6], kC G q1 8 (nR (peF w0 w1)), kC G q2 120 (nR (knF w0 w1)), kC G q3 120 (nR (plF w0 w1)), kC G q4 80 (nR ru), kC G q5 8 (nR bf), kC G q6 2 (nR (nuF ho un))]) ⟨hx, hb, hml, hown, hts⟩ (m_doneRows l G q0 q1 q2 q3 q4 q5 q6 w0 w1 bf ho un ru th h0 h1 hru) (cwV 0 hts gX4_counted_X4_doneRows rfl rfl rfl (by decide +kernel) ⟨Nat.le_of_ble_eq_true rfl, Nat.le_of_ble_eq_true rfl⟩) hK hZ hP hD hS hA [0, 1, 2, 3, 4, 5, 6] rfl rfl 0 4 rfl rfl rfl rfl hl.1 rfl (Nat.le_of_ble_eq_true rfl) dX4_counted_75 ⟨Nat.le_of_ble_eq_true rfl, Nat.le_of_ble_eq_true rfl⟩) hP hD hS hA [0, 1, 2, 3, 4, 5, 6] [] [0, 1, 2, 3, 4, 5, 6] rfl rfl rfl (by decide) (fun _ => rfl) rfl (fun r_75 u_75 H locs hp_75 hP hD hS => ?_)
    have hp_75 : r_75 = nI (rwN w0 w1) := hp_75
    subst hp_75
    exact k_iret (ws := [kO q0 4 [.int (nI th), .ref q1, .ref q2, .ref q3, .ref q4, .ref q5, .ref q6], kC G q1 8 (nR (peF w0 w1)), kC G q2 120 (nR (knF w0 w1)), kC G q3 120 (nR (plF w0 w1)), kC G q4 80 (nR ru), kC G q5 8 (nR bf), kC G q6 2 (nR (nuF ho un))]) (()) hx hb hr hlocks hP hD hS hAe hQ (Nat.le_of_ble_eq_true rfl) (Nat.le_of_ble_eq_true rfl) dX4_counted_78 (rfl) (rfl)
  · refine lv_iconst (v := nI 0) hx hb dX4_counted_0 (by decide) ?_
    refine lv_istore_n (lv' := [(2, .int (nI 0)), (0, .ref q0), (1, .int (nI 4))]) hx hb dX4_counted_1 rfl hl (by decide) rfl (fun ls hl => ?_)
    refine lv_iload_n hx hb dX4_counted_2 rfl (lv_at hl 2 rfl) ?_
    refine lv_tableIn (off := 76) (tgt := 79) hx hb dX4_counted_3 (by decide) (by decide) rfl (by decide) ?_
    refine lv_aload_n hx hb dX4_counted_79 rfl (lv_at hl 1 rfl) ?_
    refine k_calli (fun _ => [kO q0 4 [.int (nI th), .ref q1, .ref q2, .ref q3, .ref q4, .ref q5, .ref q6], kC G q1 8 (nR (peF w0 w1)), kC G q2 120 (nR (knF w0 w1)), kC G q3 120 (nR (plF w0 w1)), kC G q4 80 (nR ru), kC G q5 8 (nR bf), kC G q6 2 (nR (nuF ho un))]) [] (k_runV (As := []) (rest := []) (wc := [kO q0 4 [.int (nI th), .ref q1, .ref q2, .ref q3, .ref q4, .ref q5, .ref q6], kC G q1 8 (nR (peF w0 w1)), kC G q2 120 (nR (knF w0 w1)), kC G q3 120 (nR (plF w0 w1)), kC G q4 80 (nR ru), kC G q5 8 (nR bf), kC G q6 2 (nR (nuF ho un))]) ⟨hx, hb, hml, hown, hts⟩ (m_torn l G q0 q1 q2 q3 q4 q5 q6 w0 w1 bf ho un ru th h0 h1 hru) (cwV 0 hts gX4_counted_X4_torn rfl rfl rfl (by decide +kernel) ⟨Nat.le_of_ble_eq_true rfl, Nat.le_of_ble_eq_true rfl⟩) hK hZ hP hD hS hA [0, 1, 2, 3, 4, 5, 6] rfl rfl 0 4 rfl rfl rfl rfl hl.1 rfl (Nat.le_of_ble_eq_true rfl) dX4_counted_80 ⟨Nat.le_of_ble_eq_true rfl, Nat.le_of_ble_eq_true rfl⟩) hP hD hS hA [0, 1, 2, 3, 4, 5, 6] [] [0, 1, 2, 3, 4, 5, 6] rfl rfl rfl (by decide) (fun _ => rfl) rfl (fun r_80 u_80 H locs hp_80 hP hD hS => ?_)
    have hp_80 : r_80 = nI (tornN w0 w1 (rwN w0 w1)) := hp_80
    subst hp_80
    exact k_iret (ws := [kO q0 4 [.int (nI th), .ref q1, .ref q2, .ref q3, .ref q4, .ref q5, .ref q6], kC G q1 8 (nR (peF w0 w1)), kC G q2 120 (nR (knF w0 w1)), kC G q3 120 (nR (plF w0 w1)), kC G q4 80 (nR ru), kC G q5 8 (nR bf), kC G q6 2 (nR (nuF ho un))]) (()) hx hb hr hlocks hP hD hS hAe hQ (Nat.le_of_ble_eq_true rfl) (Nat.le_of_ble_eq_true rfl) dX4_counted_83 (rfl) (rfl)
  · refine lv_iconst (v := nI 0) hx hb dX4_counted_0 (by decide) ?_
    refine lv_istore_n (lv' := [(2, .int (nI 0)), (0, .ref q0), (1, .int (nI 5))]) hx hb dX4_counted_1 rfl hl (by decide) rfl (fun ls hl => ?_)
    refine lv_iload_n hx hb dX4_counted_2 rfl (lv_at hl 2 rfl) ?_
    refine lv_tableIn (off := 88) (tgt := 91) hx hb dX4_counted_3 (by decide) (by decide) rfl (by decide) ?_
    refine lv_aload_n hx hb dX4_counted_91 rfl (lv_at hl 1 rfl) ?_
    refine va_get (D := G.1) (ci := 4) (v := .ref q5) (C := RX4) (T := TX4) (N := 7) hx hb hts hq_0 hown hK.1 hP 0 rfl rfl 5 (by decide) hq_2 (fun _ h9 => h9) rfl dX4_counted_92 ?_
    refine lv_astore_n (lv' := [(3, .ref q5), (2, .int (nI 0)), (0, .ref q0), (1, .int (nI 5))]) hx hb dX4_counted_95 rfl hl (by decide) rfl (fun ls hl => ?_)
    refine lv_aload_n hx hb dX4_counted_96 rfl (lv_at hl 0 rfl) ?_
    refine va_alen (D := G.1) (v := nI 8) hx hb hK.1 hP 5 0 rfl rfl rfl dX4_counted_97 ?_
    refine lv_istore (lv' := [(4, .int (nI 8)), (3, .ref q5), (2, .int (nI 0)), (0, .ref q0), (1, .int (nI 5))]) hx hb dX4_counted_98 hl (by decide) rfl (fun ls hl => ?_)
    refine lv_iconst (v := nI 0) hx hb dX4_counted_100 (by decide) ?_
    refine lv_istore (lv' := [(5, .int (nI 0)), (4, .int (nI 8)), (3, .ref q5), (2, .int (nI 0)), (0, .ref q0), (1, .int (nI 5))]) hx hb dX4_counted_101 hl (by decide) rfl (fun ls hl => ?_)
    have loop_1035 : ∀ (fu_103 : Nat) (i : Nat) (z : Nat), i ≤ 8 → z = sumN bf i → 8 < i + fu_103 → ∀ (H : Heap) (locs : List Loc) (ls : Array Slot), va_P G.1 vwCl [kO q0 4 [.int (nI th), .ref q1, .ref q2, .ref q3, .ref q4, .ref q5, .ref q6], kC G q1 8 (nR (peF w0 w1)), kC G q2 120 (nR (knF w0 w1)), kC G q3 120 (nR (plF w0 w1)), kC G q4 80 (nR ru), kC G q5 8 (nR bf), kC G q6 2 (nR (nuF ho un))] H → va_D A [kO q0 4 [.int (nI th), .ref q1, .ref q2, .ref q3, .ref q4, .ref q5, .ref q6], kC G q1 8 (nR (peF w0 w1)), kC G q2 120 (nR (knF w0 w1)), kC G q3 120 (nR (plF w0 w1)), kC G q4 80 (nR ru), kC G q5 8 (nR bf), kC G q6 2 (nR (nuF ho un))] → va_S A s.heap H locs → lv_has ls 7 [(0, .ref q0), (1, .int (nI 5)), (2, .int (nI z)), (3, .ref q5), (4, .int (nI 8)), (5, .int (nI i))] → W p l e ({ frames := 3, cells := 0, slots := 0, locals := 68 } : Room) s m args below meth c H locs 0 0 Qs (F0 m 103 ls []) := by
      intro fu_103
      induction fu_103 with
      | zero =>
        intro i z hi hz hf
        exact absurd hf (by omega)
      | succ fu_103 ih_103 =>
        intro i z hi hz hf H locs ls hP hD hS hl
        refine lv_iload hx hb dX4_counted_103 (lv_at hl 5 rfl) ?_
        refine lv_iload hx hb dX4_counted_105 (lv_at hl 4 rfl) ?_
        refine lv_icmp_ge (tgt := 145) hx hb dX4_counted_107 (by decide) (fun c_107 => ?_) (fun c_107 => ?_)
        · have c_107 : 8 ≤ i := (nI_leI (a := 8) (b := i) (by omega) (by omega)).mp c_107
          have hi9 : i = 8 := by omega
          refine lv_iload_n hx hb dX4_counted_145 rfl (lv_at hl 2 rfl) ?_
          exact k_iret (ws := [kO q0 4 [.int (nI th), .ref q1, .ref q2, .ref q3, .ref q4, .ref q5, .ref q6], kC G q1 8 (nR (peF w0 w1)), kC G q2 120 (nR (knF w0 w1)), kC G q3 120 (nR (plF w0 w1)), kC G q4 80 (nR ru), kC G q5 8 (nR bf), kC G q6 2 (nR (nuF ho un))]) (()) hx hb hr hlocks hP hD hS hAe hQ (Nat.le_of_ble_eq_true rfl) (Nat.le_of_ble_eq_true rfl) dX4_counted_146 (rfl) (by rw [hz, hi9]; rfl)
        · have c_107 : ¬ (8 ≤ i) := fun h9 => c_107 ((nI_leI (a := 8) (b := i) (by omega) (by omega)).mpr h9)
          refine lv_aload_n hx hb dX4_counted_110 rfl (lv_at hl 3 rfl) ?_
          refine lv_iload hx hb dX4_counted_111 (lv_at hl 5 rfl) ?_
          have hi_5 : i < 8 := by omega
          refine va_iald (D := G.1) hx hb hK.1 hP 5 0 rfl rfl (vp_in_nI hi_5 (by omega)) dX4_counted_113 ?_
          refine lv_topi (fun y_6 hy_6 => ?_)
          obtain rfl : y_6 = nI (bf i) := hy_6.trans (nR_at (by omega))
          refine lv_istore (lv' := [(6, .int (nI (bf i))), (0, .ref q0), (1, .int (nI 5)), (2, .int (nI z)), (3, .ref q5), (4, .int (nI 8)), (5, .int (nI i))]) hx hb dX4_counted_114 hl (by decide) rfl (fun ls hl => ?_)
          refine lv_iload_n hx hb dX4_counted_116 rfl (lv_at hl 3 rfl) ?_
          refine lv_iload_n hx hb dX4_counted_117 rfl (lv_at hl 2 rfl) ?_
          refine lv_iconst (v := nI 5) hx hb dX4_counted_118 (by decide) ?_
          refine lv_icmp_ne (tgt := 127) hx hb dX4_counted_119 (by decide) (fun c_119 => absurd c_119 (by decide)) (fun c_119 => ?_)
          refine lv_iload hx hb dX4_counted_122 (lv_at hl 0 rfl) ?_
          refine lv_goto (tgt := 137) hx hb dX4_counted_124 (by decide) ?_
          refine lv_iadd hx hb dX4_counted_137 ?_
          refine lv_topi (fun y_7 hy_7 => ?_)
          obtain rfl : y_7 = nI (z + (bf i)) := hy_7.trans (nI_add z (bf i))
          refine lv_istore_n (lv' := [(2, .int (nI (z + (bf i)))), (6, .int (nI (bf i))), (0, .ref q0), (1, .int (nI 5)), (3, .ref q5), (4, .int (nI 8)), (5, .int (nI i))]) hx hb dX4_counted_138 rfl hl (by decide) rfl (fun ls hl => ?_)
          refine lv_iinc (v := nI (i + 1)) (lv' := [(5, .int (nI (i + 1))), (2, .int (nI (z + (bf i)))), (6, .int (nI (bf i))), (0, .ref q0), (1, .int (nI 5)), (3, .ref q5), (4, .int (nI 8))]) hx hb dX4_counted_139 hl (k := 6) rfl (nI_add i 1) (by decide) rfl (fun ls hl => ?_)
          refine lv_goto (tgt := 103) hx hb dX4_counted_142 (by decide) ?_
          exact ih_103 (i + 1) (z + (bf i)) (by omega) (by rw [hz]; first | rfl | exact (zeroN_z c_129).symm | exact (zeroN_n c_129).symm) (by omega) _ _ _ hP hD hS (lv_sub hl [3, 4, 1, 5, 6, 0] rfl)
    exact loop_1035 9 0 0 (by omega) rfl (by omega) H locs ls hP hD hS (lv_sub hl [4, 5, 3, 2, 1, 0] rfl)
  · refine lv_iconst (v := nI 0) hx hb dX4_counted_0 (by decide) ?_
    refine lv_istore_n (lv' := [(2, .int (nI 0)), (0, .ref q0), (1, .int (nI 6))]) hx hb dX4_counted_1 rfl hl (by decide) rfl (fun ls hl => ?_)
    refine lv_iload_n hx hb dX4_counted_2 rfl (lv_at hl 2 rfl) ?_
    refine lv_tableIn (off := 88) (tgt := 91) hx hb dX4_counted_3 (by decide) (by decide) rfl (by decide) ?_
    refine lv_aload_n hx hb dX4_counted_91 rfl (lv_at hl 1 rfl) ?_
    refine va_get (D := G.1) (ci := 4) (v := .ref q5) (C := RX4) (T := TX4) (N := 7) hx hb hts hq_0 hown hK.1 hP 0 rfl rfl 5 (by decide) hq_2 (fun _ h9 => h9) rfl dX4_counted_92 ?_
    refine lv_astore_n (lv' := [(3, .ref q5), (2, .int (nI 0)), (0, .ref q0), (1, .int (nI 6))]) hx hb dX4_counted_95 rfl hl (by decide) rfl (fun ls hl => ?_)
    refine lv_aload_n hx hb dX4_counted_96 rfl (lv_at hl 0 rfl) ?_
    refine va_alen (D := G.1) (v := nI 8) hx hb hK.1 hP 5 0 rfl rfl rfl dX4_counted_97 ?_
    refine lv_istore (lv' := [(4, .int (nI 8)), (3, .ref q5), (2, .int (nI 0)), (0, .ref q0), (1, .int (nI 6))]) hx hb dX4_counted_98 hl (by decide) rfl (fun ls hl => ?_)
    refine lv_iconst (v := nI 0) hx hb dX4_counted_100 (by decide) ?_
    refine lv_istore (lv' := [(5, .int (nI 0)), (4, .int (nI 8)), (3, .ref q5), (2, .int (nI 0)), (0, .ref q0), (1, .int (nI 6))]) hx hb dX4_counted_101 hl (by decide) rfl (fun ls hl => ?_)
    have loop_1036 : ∀ (fu_103 : Nat) (i : Nat) (z : Nat), i ≤ 8 → z = zeroN bf i → 8 < i + fu_103 → ∀ (H : Heap) (locs : List Loc) (ls : Array Slot), va_P G.1 vwCl [kO q0 4 [.int (nI th), .ref q1, .ref q2, .ref q3, .ref q4, .ref q5, .ref q6], kC G q1 8 (nR (peF w0 w1)), kC G q2 120 (nR (knF w0 w1)), kC G q3 120 (nR (plF w0 w1)), kC G q4 80 (nR ru), kC G q5 8 (nR bf), kC G q6 2 (nR (nuF ho un))] H → va_D A [kO q0 4 [.int (nI th), .ref q1, .ref q2, .ref q3, .ref q4, .ref q5, .ref q6], kC G q1 8 (nR (peF w0 w1)), kC G q2 120 (nR (knF w0 w1)), kC G q3 120 (nR (plF w0 w1)), kC G q4 80 (nR ru), kC G q5 8 (nR bf), kC G q6 2 (nR (nuF ho un))] → va_S A s.heap H locs → lv_has ls 7 [(0, .ref q0), (1, .int (nI 6)), (2, .int (nI z)), (3, .ref q5), (4, .int (nI 8)), (5, .int (nI i))] → W p l e ({ frames := 3, cells := 0, slots := 0, locals := 68 } : Room) s m args below meth c H locs 0 0 Qs (F0 m 103 ls []) := by
      intro fu_103
      induction fu_103 with
      | zero =>
        intro i z hi hz hf
        exact absurd hf (by omega)
      | succ fu_103 ih_103 =>
        intro i z hi hz hf H locs ls hP hD hS hl
        refine lv_iload hx hb dX4_counted_103 (lv_at hl 5 rfl) ?_
        refine lv_iload hx hb dX4_counted_105 (lv_at hl 4 rfl) ?_
        refine lv_icmp_ge (tgt := 145) hx hb dX4_counted_107 (by decide) (fun c_107 => ?_) (fun c_107 => ?_)
        · have c_107 : 8 ≤ i := (nI_leI (a := 8) (b := i) (by omega) (by omega)).mp c_107
          have hi9 : i = 8 := by omega
          refine lv_iload_n hx hb dX4_counted_145 rfl (lv_at hl 2 rfl) ?_
          exact k_iret (ws := [kO q0 4 [.int (nI th), .ref q1, .ref q2, .ref q3, .ref q4, .ref q5, .ref q6], kC G q1 8 (nR (peF w0 w1)), kC G q2 120 (nR (knF w0 w1)), kC G q3 120 (nR (plF w0 w1)), kC G q4 80 (nR ru), kC G q5 8 (nR bf), kC G q6 2 (nR (nuF ho un))]) (()) hx hb hr hlocks hP hD hS hAe hQ (Nat.le_of_ble_eq_true rfl) (Nat.le_of_ble_eq_true rfl) dX4_counted_146 (rfl) (by rw [hz, hi9]; rfl)
        · have c_107 : ¬ (8 ≤ i) := fun h9 => c_107 ((nI_leI (a := 8) (b := i) (by omega) (by omega)).mpr h9)
          refine lv_aload_n hx hb dX4_counted_110 rfl (lv_at hl 3 rfl) ?_
          refine lv_iload hx hb dX4_counted_111 (lv_at hl 5 rfl) ?_
          have hi_8 : i < 8 := by omega
          refine va_iald (D := G.1) hx hb hK.1 hP 5 0 rfl rfl (vp_in_nI hi_8 (by omega)) dX4_counted_113 ?_
          refine lv_topi (fun y_9 hy_9 => ?_)
          obtain rfl : y_9 = nI (bf i) := hy_9.trans (nR_at (by omega))
          refine lv_istore (lv' := [(6, .int (nI (bf i))), (0, .ref q0), (1, .int (nI 6)), (2, .int (nI z)), (3, .ref q5), (4, .int (nI 8)), (5, .int (nI i))]) hx hb dX4_counted_114 hl (by decide) rfl (fun ls hl => ?_)
          refine lv_iload_n hx hb dX4_counted_116 rfl (lv_at hl 3 rfl) ?_
          refine lv_iload_n hx hb dX4_counted_117 rfl (lv_at hl 2 rfl) ?_
          refine lv_iconst (v := nI 5) hx hb dX4_counted_118 (by decide) ?_
          refine lv_icmp_ne (tgt := 127) hx hb dX4_counted_119 (by decide) (fun c_119 => ?_) (fun c_119 => absurd c_119 (by decide))
          refine lv_iload hx hb dX4_counted_127 (lv_at hl 0 rfl) ?_
          have hbi : bf i ≤ 200 := hB i (by omega)
          refine lv_if_ne (tgt := 136) hx hb dX4_counted_129 (by decide) (fun c_129 => ?_) (fun c_129 => ?_)
          · have c_129 : ¬ ((bf i) = 0) := fun h9 => c_129 ((k_eq0 (a := (bf i)) (by omega)).mpr h9)
            refine lv_iconst (v := nI 0) hx hb dX4_counted_136 (by decide) ?_
            refine lv_iadd hx hb dX4_counted_137 ?_
            refine lv_topi (fun y_10 hy_10 => ?_)
            obtain rfl : y_10 = nI (z + 0) := hy_10.trans (nI_add z 0)
            refine lv_istore_n (lv' := [(2, .int (nI (z + 0))), (6, .int (nI (bf i))), (0, .ref q0), (1, .int (nI 6)), (3, .ref q5), (4, .int (nI 8)), (5, .int (nI i))]) hx hb dX4_counted_138 rfl hl (by decide) rfl (fun ls hl => ?_)
            refine lv_iinc (v := nI (i + 1)) (lv' := [(5, .int (nI (i + 1))), (2, .int (nI (z + 0))), (6, .int (nI (bf i))), (0, .ref q0), (1, .int (nI 6)), (3, .ref q5), (4, .int (nI 8))]) hx hb dX4_counted_139 hl (k := 6) rfl (nI_add i 1) (by decide) rfl (fun ls hl => ?_)
            refine lv_goto (tgt := 103) hx hb dX4_counted_142 (by decide) ?_
            exact ih_103 (i + 1) (z + 0) (by omega) (by rw [hz]; first | rfl | exact (zeroN_z c_129).symm | exact (zeroN_n c_129).symm) (by omega) _ _ _ hP hD hS (lv_sub hl [3, 4, 1, 5, 6, 0] rfl)
          · have c_129 : (bf i) = 0 := (k_eq0 (a := (bf i)) (by omega)).mp c_129
            refine lv_iconst (v := nI 1) hx hb dX4_counted_132 (by decide) ?_
            refine lv_goto (tgt := 137) hx hb dX4_counted_133 (by decide) ?_
            refine lv_iadd hx hb dX4_counted_137 ?_
            refine lv_topi (fun y_11 hy_11 => ?_)
            obtain rfl : y_11 = nI (z + 1) := hy_11.trans (nI_add z 1)
            refine lv_istore_n (lv' := [(2, .int (nI (z + 1))), (6, .int (nI (bf i))), (0, .ref q0), (1, .int (nI 6)), (3, .ref q5), (4, .int (nI 8)), (5, .int (nI i))]) hx hb dX4_counted_138 rfl hl (by decide) rfl (fun ls hl => ?_)
            refine lv_iinc (v := nI (i + 1)) (lv' := [(5, .int (nI (i + 1))), (2, .int (nI (z + 1))), (6, .int (nI (bf i))), (0, .ref q0), (1, .int (nI 6)), (3, .ref q5), (4, .int (nI 8))]) hx hb dX4_counted_139 hl (k := 6) rfl (nI_add i 1) (by decide) rfl (fun ls hl => ?_)
            refine lv_goto (tgt := 103) hx hb dX4_counted_142 (by decide) ?_
            exact ih_103 (i + 1) (z + 1) (by omega) (by rw [hz]; first | rfl | exact (zeroN_z c_129).symm | exact (zeroN_n c_129).symm) (by omega) _ _ _ hP hD hS (lv_sub hl [3, 4, 1, 5, 6, 0] rfl)
    exact loop_1036 9 0 0 (by omega) rfl (by omega) H locs ls hP hD hS (lv_sub hl [4, 5, 3, 2, 1, 0] rfl)
  · refine lv_iconst (v := nI 0) hx hb dX4_counted_0 (by decide) ?_
    refine lv_istore_n (lv' := [(2, .int (nI 0)), (0, .ref q0), (1, .int (nI 7))]) hx hb dX4_counted_1 rfl hl (by decide) rfl (fun ls hl => ?_)
    refine lv_iload_n hx hb dX4_counted_2 rfl (lv_at hl 2 rfl) ?_
    refine lv_tableIn (off := 81) (tgt := 84) hx hb dX4_counted_3 (by decide) (by decide) rfl (by decide) ?_
    refine lv_aload_n hx hb dX4_counted_84 rfl (lv_at hl 1 rfl) ?_
    refine va_get (D := G.1) (ci := 4) (v := .ref q6) (C := RX4) (T := TX4) (N := 7) hx hb hts hq_0 hown hK.1 hP 0 rfl rfl 6 (by decide) hq_1 (fun _ h9 => h9) rfl dX4_counted_85 ?_
    refine lv_iconst (v := nI 1) hx hb dX4_counted_88 (by decide) ?_
    have hi_12 : 1 < 2 := by omega
    refine va_iald (D := G.1) hx hb hK.1 hP 6 0 rfl rfl (vp_in_nI hi_12 (by omega)) dX4_counted_89 ?_
    refine lv_topi (fun y_13 hy_13 => ?_)
    obtain rfl : y_13 = nI ((nuF ho un) 1) := hy_13.trans (nR_at (by omega))
    refine lv_topi (fun y_14 hy_14 => ?_)
    obtain rfl : y_14 = nI un := hy_14.trans (rfl)
    exact k_iret (ws := [kO q0 4 [.int (nI th), .ref q1, .ref q2, .ref q3, .ref q4, .ref q5, .ref q6], kC G q1 8 (nR (peF w0 w1)), kC G q2 120 (nR (knF w0 w1)), kC G q3 120 (nR (plF w0 w1)), kC G q4 80 (nR ru), kC G q5 8 (nR bf), kC G q6 2 (nR (nuF ho un))]) (()) hx hb hr hlocks hP hD hS hAe hQ (Nat.le_of_ble_eq_true rfl) (Nat.le_of_ble_eq_true rfl) dX4_counted_90 (rfl) (rfl)
