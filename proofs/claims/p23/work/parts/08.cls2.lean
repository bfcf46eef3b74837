set_option maxHeartbeats 4000000 in
set_option maxRecDepth 100000 in
theorem c_fill (l : Launch) (G : kG) (a0 : Nat) (a1 : Nat) (bf : Nat → Nat) (co : Nat) (k : Nat) (hc : co < 8) (hB : bOk bf) (hk : k ≤ 200) : kM l G yX0_fill wsX0_fill ({ frames := 1, cells := 0, slots := 0, locals := 22 } : Room) [.ref a0, .int (nI co), .int (nI k)] [kO a0 0 [.ref a1], kC G a1 8 (nR bf)] (kQi G [kO a0 0 [.ref a1], kC G a1 8 (nR bf)] (fun (r : Int32) (_ : Unit) => r = nI (min 200 (bf co + k))) (fun (_ : Unit) => [kO a0 0 [.ref a1], kC G a1 8 (nR (updN bf co (min 200 (bf co + k))))])) := by
  refine k_ofW (cc := cX0_fill) (maxL := 4) (rt := (some .int)) (by decide) rfl (Nat.le_of_ble_eq_true rfl) ?_
  intro p e s m args below meth c A ls Qs H locs hQ hAe hx hb hr hml hts hown hlocks hin hK hZ hP hD hS hA hl
  have hown : s.vm.findClass RX0 = some m.cls := hown
  have hl : lv_has ls 4 [(0, .ref a0), (1, .int (nI co)), (2, .int (nI k))] := hl
  have hbc : bf co ≤ 200 := hB co hc
  have hq_0 : ∀ w ∈ wsX00, w ∈ wsX0_fill := by decide +kernel
  have hq_1 : (Cond.fieldLink RX0 9 "KnotRugs$Baskets" "left" "[I").before args s = true := hts _ (by decide +kernel)
  have hq_2 : va_Nw (.methodLinkNest RX0 15 yX3_at RX3) s := hK.2.1 (RX0, 15, yX3_at) (List.mem_of_getElem? (i := 1) rfl)
  have hq_3 : (Cond.initialized RX3).before args s = true := hts _ (by decide +kernel)
  have hq_4 : (Cond.static yX3_at).before args s = true := hts _ (by decide +kernel)
  have hq_5 : (Cond.methodLink RX0 19 Lib.Math.min.name).before args s = true := hts _ (by decide +kernel)
  have hq_6 : (Cond.static Lib.Math.min.name).before args s = true := hts _ (by decide +kernel)
  have hq_7 : (Cond.initialized "java/lang/Math").before args s = true := hts _ (by decide +kernel)
  have hq_8 : (Cond.code Lib.Math.min.name Lib.Math.min.code 2 (some .int)).before args s = true := hts _ (by decide +kernel)
  have hq_9 : va_Nw (.methodLinkNest RX0 25 yX3_put RX3) s := hK.2.1 (RX0, 25, yX3_put) (List.mem_of_getElem? (i := 2) rfl)
  have hq_10 : (Cond.static yX3_put).before args s = true := hts _ (by decide +kernel)
  refine lv_sipush (v := nI 200) hx hb dX0_fill_0 (by decide) ?_
  refine lv_aload_n hx hb dX0_fill_3 rfl (lv_at hl 0 rfl) ?_
  refine va_get (D := G.1) (ci := 0) (v := .ref a1) (C := RX0) (T := TX0) (N := 1) hx hb hts hq_0 hown hK.1 hP 0 rfl rfl 0 (by decide) hq_1 (fun _ h9 => h9) rfl dX0_fill_4 ?_
  refine lv_iload_n hx hb dX0_fill_7 rfl (lv_at hl 1 rfl) ?_
  refine k_calli (fun _ => [kO a0 0 [.ref a1], kC G a1 8 (nR bf)]) [kO a0 0 [.ref a1]] (k_runSN (As := [.ref a1, .int (nI co)]) (rest := [.int (nI 200)]) (wc := [kC G a1 8 (nR bf)]) ⟨hx, hb, hml, hown, hts⟩ (c_at l G a1 8 bf co hc (by decide)) ⟨va_cnB (host := RX3) (index := 15) (own := RX0) 2 hts gX0_fill_X3_at_n15 rfl rfl rfl hq_2 hq_3 (by decide +kernel) ⟨Nat.le_of_ble_eq_true rfl, Nat.le_of_ble_eq_true rfl⟩, hq_4, trivial⟩ hK hZ hP hD hS hA [1] rfl rfl rfl hl.1 rfl (Nat.le_of_ble_eq_true rfl) dX0_fill_8 ⟨Nat.le_of_ble_eq_true rfl, Nat.le_of_ble_eq_true rfl⟩) hP hD hS hA [1] [0] [0, 1] rfl rfl rfl (by decide) (fun _ => rfl) rfl (fun r_8 u_8 H locs hp_8 hP hD hS => ?_)
  have hp_8 : r_8 = nI (bf co) := hp_8
  subst hp_8
  refine lv_iload_n hx hb dX0_fill_11 rfl (lv_at hl 2 rfl) ?_
  refine lv_iadd hx hb dX0_fill_12 ?_
  refine lv_topi (fun y_1 hy_1 => ?_)
  obtain rfl : y_1 = nI ((bf co) + k) := hy_1.trans (nI_add (bf co) k)
  refine va_mmin hx hb (hml.trans hl.1.symm) hown hq_5 hq_6 hq_7 hq_8 (Nat.le_of_ble_eq_true rfl) (Nat.le_of_ble_eq_true rfl) (Nat.le_of_ble_eq_true rfl) (Nat.le_of_ble_eq_true rfl) dX0_fill_13 ?_
  refine lv_topi (fun y_2 hy_2 => ?_)
  obtain rfl : y_2 = nI (min 200 ((bf co) + k)) := hy_2.trans (k_min (a := 200) (b := ((bf co) + k)) (by omega) (by omega))
  refine lv_istore_n (lv' := [(3, .int (nI (min 200 ((bf co) + k)))), (0, .ref a0), (1, .int (nI co)), (2, .int (nI k))]) hx hb dX0_fill_16 rfl hl (by decide) rfl (fun ls hl => ?_)
  refine lv_aload_n hx hb dX0_fill_17 rfl (lv_at hl 1 rfl) ?_
  refine va_get (D := G.1) (ci := 0) (v := .ref a1) (C := RX0) (T := TX0) (N := 1) hx hb hts hq_0 hown hK.1 hP 0 rfl rfl 0 (by decide) hq_1 (fun _ h9 => h9) rfl dX0_fill_18 ?_
  refine lv_iload_n hx hb dX0_fill_21 rfl (lv_at hl 2 rfl) ?_
  refine lv_iload_n hx hb dX0_fill_22 rfl (lv_at hl 0 rfl) ?_
  refine k_callv (fun _ => [kO a0 0 [.ref a1], kC G a1 8 (nR (updN bf co (min 200 ((bf co) + k))))]) [kO a0 0 [.ref a1]] (k_runSN (As := [.ref a1, .int (nI co), .int (nI (min 200 ((bf co) + k)))]) (rest := []) (wc := [kC G a1 8 (nR bf)]) ⟨hx, hb, hml, hown, hts⟩ (c_put l G a1 8 bf co (min 200 ((bf co) + k)) hc (by decide)) ⟨va_cnB (host := RX3) (index := 25) (own := RX0) 3 hts gX0_fill_X3_put_n25 rfl rfl rfl hq_9 hq_3 (by decide +kernel) ⟨Nat.le_of_ble_eq_true rfl, Nat.le_of_ble_eq_true rfl⟩, hq_10, trivial⟩ hK hZ hP hD hS hA [1] rfl rfl rfl hl.1 rfl (Nat.le_of_ble_eq_true rfl) dX0_fill_23 ⟨Nat.le_of_ble_eq_true rfl, Nat.le_of_ble_eq_true rfl⟩) hP hD hS hA [1] [0] [0, 1] rfl rfl rfl (by decide) (fun _ => rfl) rfl (fun u_23 H locs hp_23 hP hD hS => ?_)
  refine lv_iload_n hx hb dX0_fill_26 rfl (lv_at hl 0 rfl) ?_
  exact k_iret (ws := [kO a0 0 [.ref a1], kC G a1 8 (nR bf)]) (()) hx hb hr hlocks hP hD hS hAe hQ (Nat.le_of_ble_eq_true rfl) (Nat.le_of_ble_eq_true rfl) dX0_fill_27 (rfl) (rfl)
set_option maxHeartbeats 4000000 in
set_option maxRecDepth 100000 in
theorem c_take (l : Launch) (G : kG) (a0 : Nat) (a1 : Nat) (bf : Nat → Nat) (co : Nat) (hc : co < 8) (hB : bOk bf) : kM l G yX0_take wsX0_take ({ frames := 1, cells := 0, slots := 0, locals := 22 } : Room) [.ref a0, .int (nI co)] [kO a0 0 [.ref a1], kC G a1 8 (nR bf)] (kQi G [kO a0 0 [.ref a1], kC G a1 8 (nR bf)] (fun (r : Int32) (_ : Unit) => r = takeR bf co) (fun (_ : Unit) => [kO a0 0 [.ref a1], kC G a1 8 (nR (takeB bf co))])) := by
  refine k_ofW (cc := cX0_take) (maxL := 5) (rt := (some .int)) (by decide) rfl (Nat.le_of_ble_eq_true rfl) ?_
  intro p e s m args below meth c A ls Qs H locs hQ hAe hx hb hr hml hts hown hlocks hin hK hZ hP hD hS hA hl
  have hown : s.vm.findClass RX0 = some m.cls := hown
  have hl : lv_has ls 5 [(0, .ref a0), (1, .int (nI co))] := hl
  have hq_0 : ∀ w ∈ wsX00, w ∈ wsX0_take := by decide +kernel
  have hq_1 : (Cond.fieldLink RX0 9 "KnotRugs$Baskets" "left" "[I").before args s = true := hts _ (by decide +kernel)
  have hq_2 : va_Nw (.methodLinkNest RX0 15 yX3_at RX3) s := hK.2.1 (RX0, 15, yX3_at) (List.mem_of_getElem? (i := 1) rfl)
  have hq_3 : (Cond.initialized RX3).before args s = true := hts _ (by decide +kernel)
  have hq_4 : (Cond.static yX3_at).before args s = true := hts _ (by decide +kernel)
  have hq_5 : va_Nw (.methodLinkNest RX0 25 yX3_put RX3) s := hK.2.1 (RX0, 25, yX3_put) (List.mem_of_getElem? (i := 2) rfl)
  have hq_6 : (Cond.static yX3_put).before args s = true := hts _ (by decide +kernel)
  refine lv_iconst (v := nI 0) hx hb dX0_take_0 (by decide) ?_
  refine lv_istore_n (lv' := [(2, .int (nI 0)), (0, .ref a0), (1, .int (nI co))]) hx hb dX0_take_1 rfl hl (by decide) rfl (fun ls hl => ?_)
  have loop_2 : ∀ (fu_2 : Nat) (b : Nat), b ≤ 8 → tkB bf co (8 - b) b = takeBy bf co → 8 < b + fu_2 → ∀ (H : Heap) (locs : List Loc) (ls : Array Slot), va_P G.1 vwCl [kO a0 0 [.ref a1], kC G a1 8 (nR bf)] H → va_D A [kO a0 0 [.ref a1], kC G a1 8 (nR bf)] → va_S A s.heap H locs → lv_has ls 5 [(0, .ref a0), (1, .int (nI co)), (2, .int (nI b))] → W p l e ({ frames := 1, cells := 0, slots := 0, locals := 22 } : Room) s m args below meth c H locs 0 0 Qs (F0 m 2 ls []) := by
    intro fu_2
    induction fu_2 with
    | zero =>
      intro b hb8 hv hf
      exact absurd hf (by omega)
    | succ fu_2 ih_2 =>
      intro b hb8 hv hf H locs ls hP hD hS hl
      refine lv_iload_n hx hb dX0_take_2 rfl (lv_at hl 2 rfl) ?_
      refine lv_bipush (v := nI 8) hx hb dX0_take_3 (by decide) ?_
      refine lv_icmp_ge (tgt := 50) hx hb dX0_take_5 (by decide) (fun c_5 => ?_) (fun c_5 => ?_)
      · have c_5 : 8 ≤ b := (nI_leI (a := 8) (b := b) (by omega) (by omega)).mp c_5
        have hby : takeBy bf co = 8 := tk_end (by omega) hv
        refine lv_iconst (v := (-1)) hx hb dX0_take_50 (by decide) ?_
        exact k_iret (ws := [kO a0 0 [.ref a1], kC G a1 8 (nR bf)]) (()) hx hb hr hlocks hP hD hS hAe hQ (Nat.le_of_ble_eq_true rfl) (Nat.le_of_ble_eq_true rfl) dX0_take_51 (by rw [← takeB_f hby]) (takeR_f hby)
      · have c_5 : ¬ (8 ≤ b) := fun h9 => c_5 ((nI_leI (a := 8) (b := b) (by omega) (by omega)).mpr h9)
        refine lv_iload_n hx hb dX0_take_8 rfl (lv_at hl 1 rfl) ?_
        refine lv_iload_n hx hb dX0_take_9 rfl (lv_at hl 2 rfl) ?_
        refine lv_iadd hx hb dX0_take_10 ?_
        refine lv_topi (fun y_1 hy_1 => ?_)
        obtain rfl : y_1 = nI (co + b) := hy_1.trans (nI_add co b)
        refine lv_bipush (v := nI 8) hx hb dX0_take_11 (by decide) ?_
        refine lv_irem hx hb dX0_take_13 (by first | decide | (intro h; exact absurd ((nI_eq (by omega) (by omega)).mp h) (by omega))) ?_
        refine lv_topi (fun y_2 hy_2 => ?_)
        obtain rfl : y_2 = nI ((co + b) % 8) := hy_2.trans (pk_rem (a := (co + b)) (d := 8) (by omega) (by omega) (by omega))
        have hcb : (co + b) % 8 < 8 := by omega
        have hbc : bf ((co + b) % 8) ≤ 200 := hB _ hcb
        refine lv_istore_n (lv' := [(3, .int (nI ((co + b) % 8))), (0, .ref a0), (1, .int (nI co)), (2, .int (nI b))]) hx hb dX0_take_14 rfl hl (by decide) rfl (fun ls hl => ?_)
        refine lv_aload_n hx hb dX0_take_15 rfl (lv_at hl 1 rfl) ?_
        refine va_get (D := G.1) (ci := 0) (v := .ref a1) (C := RX0) (T := TX0) (N := 1) hx hb hts hq_0 hown hK.1 hP 0 rfl rfl 0 (by decide) hq_1 (fun _ h9 => h9) rfl dX0_take_16 ?_
        refine lv_iload_n hx hb dX0_take_19 rfl (lv_at hl 0 rfl) ?_
        refine k_calli (fun _ => [kO a0 0 [.ref a1], kC G a1 8 (nR bf)]) [kO a0 0 [.ref a1]] (k_runSN (As := [.ref a1, .int (nI ((co + b) % 8))]) (rest := []) (wc := [kC G a1 8 (nR bf)]) ⟨hx, hb, hml, hown, hts⟩ (c_at l G a1 8 bf ((co + b) % 8) hcb (by decide)) ⟨va_cnB (host := RX3) (index := 15) (own := RX0) 2 hts gX0_take_X3_at_n15 rfl rfl rfl hq_2 hq_3 (by decide +kernel) ⟨Nat.le_of_ble_eq_true rfl, Nat.le_of_ble_eq_true rfl⟩, hq_4, trivial⟩ hK hZ hP hD hS hA [1] rfl rfl rfl hl.1 rfl (Nat.le_of_ble_eq_true rfl) dX0_take_20 ⟨Nat.le_of_ble_eq_true rfl, Nat.le_of_ble_eq_true rfl⟩) hP hD hS hA [1] [0] [0, 1] rfl rfl rfl (by decide) (fun _ => rfl) rfl (fun r_20 u_20 H locs hp_20 hP hD hS => ?_)
        have hp_20 : r_20 = nI (bf ((co + b) % 8)) := hp_20
        subst hp_20
        refine lv_istore (lv' := [(4, .int (nI (bf ((co + b) % 8)))), (3, .int (nI ((co + b) % 8))), (0, .ref a0), (1, .int (nI co)), (2, .int (nI b))]) hx hb dX0_take_23 hl (by decide) rfl (fun ls hl => ?_)
        refine lv_iload hx hb dX0_take_25 (lv_at hl 0 rfl) ?_
        refine lv_if_le (tgt := 44) hx hb dX0_take_27 (by decide) (fun c_27 => ?_) (fun c_27 => ?_)
        · have c_27 : (bf ((co + b) % 8)) = 0 := (k_le0 (a := (bf ((co + b) % 8))) (by omega)).mp c_27
          refine lv_iinc (v := nI (b + 1)) (lv' := [(2, .int (nI (b + 1))), (4, .int (nI (bf ((co + b) % 8)))), (3, .int (nI ((co + b) % 8))), (0, .ref a0), (1, .int (nI co))]) hx hb dX0_take_44 hl (k := 4) rfl (nI_add b 1) (by decide) rfl (fun ls hl => ?_)
          refine lv_goto (tgt := 2) hx hb dX0_take_47 (by decide) ?_
          exact ih_2 (b + 1) (by omega) (tk_miss (by omega) hv c_27) (by omega) _ _ _ hP hD hS (lv_sub hl [3, 4, 0] rfl)
        · have c_27 : ¬ ((bf ((co + b) % 8)) = 0) := fun h9 => c_27 ((k_le0 (a := (bf ((co + b) % 8))) (by omega)).mpr h9)
          have hby : takeBy bf co = b := (tk_hit (by omega) hv c_27)
          refine lv_aload_n hx hb dX0_take_30 rfl (lv_at hl 2 rfl) ?_
          refine va_get (D := G.1) (ci := 0) (v := .ref a1) (C := RX0) (T := TX0) (N := 1) hx hb hts hq_0 hown hK.1 hP 0 rfl rfl 0 (by decide) hq_1 (fun _ h9 => h9) rfl dX0_take_31 ?_
          refine lv_iload_n hx hb dX0_take_34 rfl (lv_at hl 1 rfl) ?_
          refine lv_iload hx hb dX0_take_35 (lv_at hl 0 rfl) ?_
          refine lv_iconst (v := nI 1) hx hb dX0_take_37 (by decide) ?_
          refine lv_isub hx hb dX0_take_38 ?_
          refine lv_topi (fun y_3 hy_3 => ?_)
          obtain rfl : y_3 = nI ((bf ((co + b) % 8)) - 1) := hy_3.trans (pk_sub (a := (bf ((co + b) % 8))) (b := 1) (by omega))
          refine k_callv (fun _ => [kO a0 0 [.ref a1], kC G a1 8 (nR (updN bf ((co + b) % 8) ((bf ((co + b) % 8)) - 1)))]) [kO a0 0 [.ref a1]] (k_runSN (As := [.ref a1, .int (nI ((co + b) % 8)), .int (nI ((bf ((co + b) % 8)) - 1))]) (rest := []) (wc := [kC G a1 8 (nR bf)]) ⟨hx, hb, hml, hown, hts⟩ (c_put l G a1 8 bf ((co + b) % 8) ((bf ((co + b) % 8)) - 1) hcb (by decide)) ⟨va_cnB (host := RX3) (index := 25) (own := RX0) 3 hts gX0_take_X3_put_n25 rfl rfl rfl hq_5 hq_3 (by decide +kernel) ⟨Nat.le_of_ble_eq_true rfl, Nat.le_of_ble_eq_true rfl⟩, hq_6, trivial⟩ hK hZ hP hD hS hA [1] rfl rfl rfl hl.1 rfl (Nat.le_of_ble_eq_true rfl) dX0_take_39 ⟨Nat.le_of_ble_eq_true rfl, Nat.le_of_ble_eq_true rfl⟩) hP hD hS hA [1] [0] [0, 1] rfl rfl rfl (by decide) (fun _ => rfl) rfl (fun u_39 H locs hp_39 hP hD hS => ?_)
          refine lv_iload_n hx hb dX0_take_42 rfl (lv_at hl 1 rfl) ?_
          exact k_iret (ws := [kO a0 0 [.ref a1], kC G a1 8 (nR bf)]) (()) hx hb hr hlocks hP hD hS hAe hQ (Nat.le_of_ble_eq_true rfl) (Nat.le_of_ble_eq_true rfl) dX0_take_43 (by rw [takeB_t (by omega) hby]) (takeR_t (by omega) hby)
  exact loop_2 9 0 (by omega) rfl (by omega) H locs ls hP hD hS (lv_sub hl [1, 2, 0] rfl)
set_option maxHeartbeats 4000000 in
set_option maxRecDepth 100000 in
theorem c_inAll (l : Launch) (G : kG) (a0 : Nat) (a1 : Nat) (bf : Nat → Nat)  : kM l G yX0_inAll wsX0_inAll ({ frames := 1, cells := 0, slots := 0, locals := 21 } : Room) [.ref a0] [kO a0 0 [.ref a1], kC G a1 8 (nR bf)] (kQi G [kO a0 0 [.ref a1], kC G a1 8 (nR bf)] (fun (r : Int32) (_ : Unit) => r = nI (sumN bf 8)) (fun (_ : Unit) => [kO a0 0 [.ref a1], kC G a1 8 (nR bf)])) := by
  refine k_ofW (cc := cX0_inAll) (maxL := 3) (rt := (some .int)) (by decide) rfl (Nat.le_of_ble_eq_true rfl) ?_
  intro p e s m args below meth c A ls Qs H locs hQ hAe hx hb hr hml hts hown hlocks hin hK hZ hP hD hS hA hl
  have hown : s.vm.findClass RX0 = some m.cls := hown
  have hl : lv_has ls 3 [(0, .ref a0)] := hl
  have hq_0 : ∀ w ∈ wsX00, w ∈ wsX0_inAll := by decide +kernel
  have hq_1 : (Cond.fieldLink RX0 9 "KnotRugs$Baskets" "left" "[I").before args s = true := hts _ (by decide +kernel)
  have hq_2 : va_Nw (.methodLinkNest RX0 15 yX3_at RX3) s := hK.2.1 (RX0, 15, yX3_at) (List.mem_of_getElem? (i := 1) rfl)
  have hq_3 : (Cond.initialized RX3).before args s = true := hts _ (by decide +kernel)
  have hq_4 : (Cond.static yX3_at).before args s = true := hts _ (by decide +kernel)
  refine lv_iconst (v := nI 0) hx hb dX0_inAll_0 (by decide) ?_
  refine lv_istore_n (lv' := [(1, .int (nI 0)), (0, .ref a0)]) hx hb dX0_inAll_1 rfl hl (by decide) rfl (fun ls hl => ?_)
  refine lv_iconst (v := nI 0) hx hb dX0_inAll_2 (by decide) ?_
  refine lv_istore_n (lv' := [(2, .int (nI 0)), (1, .int (nI 0)), (0, .ref a0)]) hx hb dX0_inAll_3 rfl hl (by decide) rfl (fun ls hl => ?_)
  have loop_4 : ∀ (fu_4 : Nat) (i : Nat), i ≤ 8 → 8 < i + fu_4 → ∀ (H : Heap) (locs : List Loc) (ls : Array Slot), va_P G.1 vwCl [kO a0 0 [.ref a1], kC G a1 8 (nR bf)] H → va_D A [kO a0 0 [.ref a1], kC G a1 8 (nR bf)] → va_S A s.heap H locs → lv_has ls 3 [(0, .ref a0), (1, .int (nI (sumN bf i))), (2, .int (nI i))] → W p l e ({ frames := 1, cells := 0, slots := 0, locals := 21 } : Room) s m args below meth c H locs 0 0 Qs (F0 m 4 ls []) := by
    intro fu_4
    induction fu_4 with
    | zero =>
      intro i hi hf
      exact absurd hf (by omega)
    | succ fu_4 ih_4 =>
      intro i hi hf H locs ls hP hD hS hl
      refine lv_iload_n hx hb dX0_inAll_4 rfl (lv_at hl 2 rfl) ?_
      refine lv_bipush (v := nI 8) hx hb dX0_inAll_5 (by decide) ?_
      refine lv_icmp_ge (tgt := 27) hx hb dX0_inAll_7 (by decide) (fun c_7 => ?_) (fun c_7 => ?_)
      · have c_7 : 8 ≤ i := (nI_leI (a := 8) (b := i) (by omega) (by omega)).mp c_7
        have hi9 : i = 8 := by omega
        refine lv_iload_n hx hb dX0_inAll_27 rfl (lv_at hl 1 rfl) ?_
        exact k_iret (ws := [kO a0 0 [.ref a1], kC G a1 8 (nR bf)]) (()) hx hb hr hlocks hP hD hS hAe hQ (Nat.le_of_ble_eq_true rfl) (Nat.le_of_ble_eq_true rfl) dX0_inAll_28 (rfl) (by rw [hi9])
      · have c_7 : ¬ (8 ≤ i) := fun h9 => c_7 ((nI_leI (a := 8) (b := i) (by omega) (by omega)).mpr h9)
        refine lv_iload_n hx hb dX0_inAll_10 rfl (lv_at hl 1 rfl) ?_
        refine lv_aload_n hx hb dX0_inAll_11 rfl (lv_at hl 0 rfl) ?_
        refine va_get (D := G.1) (ci := 0) (v := .ref a1) (C := RX0) (T := TX0) (N := 1) hx hb hts hq_0 hown hK.1 hP 0 rfl rfl 0 (by decide) hq_1 (fun _ h9 => h9) rfl dX0_inAll_12 ?_
        refine lv_iload_n hx hb dX0_inAll_15 rfl (lv_at hl 2 rfl) ?_
        refine k_calli (fun _ => [kO a0 0 [.ref a1], kC G a1 8 (nR bf)]) [kO a0 0 [.ref a1]] (k_runSN (As := [.ref a1, .int (nI i)]) (rest := [.int (nI (sumN bf i))]) (wc := [kC G a1 8 (nR bf)]) ⟨hx, hb, hml, hown, hts⟩ (c_at l G a1 8 bf i (by omega) (by decide)) ⟨va_cnB (host := RX3) (index := 15) (own := RX0) 2 hts gX0_inAll_X3_at_n15 rfl rfl rfl hq_2 hq_3 (by decide +kernel) ⟨Nat.le_of_ble_eq_true rfl, Nat.le_of_ble_eq_true rfl⟩, hq_4, trivial⟩ hK hZ hP hD hS hA [1] rfl rfl rfl hl.1 rfl (Nat.le_of_ble_eq_true rfl) dX0_inAll_16 ⟨Nat.le_of_ble_eq_true rfl, Nat.le_of_ble_eq_true rfl⟩) hP hD hS hA [1] [0] [0, 1] rfl rfl rfl (by decide) (fun _ => rfl) rfl (fun r_16 u_16 H locs hp_16 hP hD hS => ?_)
        have hp_16 : r_16 = nI (bf i) := hp_16
        subst hp_16
        refine lv_iadd hx hb dX0_inAll_19 ?_
        refine lv_topi (fun y_1 hy_1 => ?_)
        obtain rfl : y_1 = nI ((sumN bf i) + (bf i)) := hy_1.trans (nI_add (sumN bf i) (bf i))
        refine lv_istore_n (lv' := [(1, .int (nI ((sumN bf i) + (bf i)))), (0, .ref a0), (2, .int (nI i))]) hx hb dX0_inAll_20 rfl hl (by decide) rfl (fun ls hl => ?_)
        refine lv_iinc (v := nI (i + 1)) (lv' := [(2, .int (nI (i + 1))), (1, .int (nI ((sumN bf i) + (bf i)))), (0, .ref a0)]) hx hb dX0_inAll_21 hl (k := 2) rfl (nI_add i 1) (by decide) rfl (fun ls hl => ?_)
        refine lv_goto (tgt := 4) hx hb dX0_inAll_24 (by decide) ?_
        exact ih_4 (i + 1) (by omega) (by omega) _ _ _ hP hD hS (lv_sub hl [2, 1, 0] rfl)
  exact loop_4 9 0 (by omega) (by omega) H locs ls hP hD hS (lv_sub hl [2, 1, 0] rfl)
set_option maxHeartbeats 4000000 in
set_option maxRecDepth 100000 in
theorem c_empty (l : Launch) (G : kG) (a0 : Nat) (a1 : Nat) (bf : Nat → Nat) (hB : bOk bf) : kM l G yX0_empty wsX0_empty ({ frames := 1, cells := 0, slots := 0, locals := 21 } : Room) [.ref a0] [kO a0 0 [.ref a1], kC G a1 8 (nR bf)] (kQi G [kO a0 0 [.ref a1], kC G a1 8 (nR bf)] (fun (r : Int32) (_ : Unit) => r = nI (zeroN bf 8)) (fun (_ : Unit) => [kO a0 0 [.ref a1], kC G a1 8 (nR bf)])) := by
  refine k_ofW (cc := cX0_empty) (maxL := 3) (rt := (some .int)) (by decide) rfl (Nat.le_of_ble_eq_true rfl) ?_
  intro p e s m args below meth c A ls Qs H locs hQ hAe hx hb hr hml hts hown hlocks hin hK hZ hP hD hS hA hl
  have hown : s.vm.findClass RX0 = some m.cls := hown
  have hl : lv_has ls 3 [(0, .ref a0)] := hl
  have hq_0 : ∀ w ∈ wsX00, w ∈ wsX0_empty := by decide +kernel
  have hq_1 : (Cond.fieldLink RX0 9 "KnotRugs$Baskets" "left" "[I").before args s = true := hts _ (by decide +kernel)
  have hq_2 : va_Nw (.methodLinkNest RX0 15 yX3_at RX3) s := hK.2.1 (RX0, 15, yX3_at) (List.mem_of_getElem? (i := 1) rfl)
  have hq_3 : (Cond.initialized RX3).before args s = true := hts _ (by decide +kernel)
  have hq_4 : (Cond.static yX3_at).before args s = true := hts _ (by decide +kernel)
  refine lv_iconst (v := nI 0) hx hb dX0_empty_0 (by decide) ?_
  refine lv_istore_n (lv' := [(1, .int (nI 0)), (0, .ref a0)]) hx hb dX0_empty_1 rfl hl (by decide) rfl (fun ls hl => ?_)
  refine lv_iconst (v := nI 0) hx hb dX0_empty_2 (by decide) ?_
  refine lv_istore_n (lv' := [(2, .int (nI 0)), (1, .int (nI 0)), (0, .ref a0)]) hx hb dX0_empty_3 rfl hl (by decide) rfl (fun ls hl => ?_)
  have loop_4 : ∀ (fu_4 : Nat) (i : Nat) (z : Nat), i ≤ 8 → z = zeroN bf i → 8 < i + fu_4 → ∀ (H : Heap) (locs : List Loc) (ls : Array Slot), va_P G.1 vwCl [kO a0 0 [.ref a1], kC G a1 8 (nR bf)] H → va_D A [kO a0 0 [.ref a1], kC G a1 8 (nR bf)] → va_S A s.heap H locs → lv_has ls 3 [(0, .ref a0), (1, .int (nI z)), (2, .int (nI i))] → W p l e ({ frames := 1, cells := 0, slots := 0, locals := 21 } : Room) s m args below meth c H locs 0 0 Qs (F0 m 4 ls []) := by
    intro fu_4
    induction fu_4 with
    | zero =>
      intro i z hi hz hf
      exact absurd hf (by omega)
    | succ fu_4 ih_4 =>
      intro i z hi hz hf H locs ls hP hD hS hl
      refine lv_iload_n hx hb dX0_empty_4 rfl (lv_at hl 2 rfl) ?_
      refine lv_bipush (v := nI 8) hx hb dX0_empty_5 (by decide) ?_
      refine lv_icmp_ge (tgt := 30) hx hb dX0_empty_7 (by decide) (fun c_7 => ?_) (fun c_7 => ?_)
      · have c_7 : 8 ≤ i := (nI_leI (a := 8) (b := i) (by omega) (by omega)).mp c_7
        have hi9 : i = 8 := by omega
        refine lv_iload_n hx hb dX0_empty_30 rfl (lv_at hl 1 rfl) ?_
        exact k_iret (ws := [kO a0 0 [.ref a1], kC G a1 8 (nR bf)]) (()) hx hb hr hlocks hP hD hS hAe hQ (Nat.le_of_ble_eq_true rfl) (Nat.le_of_ble_eq_true rfl) dX0_empty_31 (rfl) (by rw [hz, hi9])
      · have c_7 : ¬ (8 ≤ i) := fun h9 => c_7 ((nI_leI (a := 8) (b := i) (by omega) (by omega)).mpr h9)
        refine lv_aload_n hx hb dX0_empty_10 rfl (lv_at hl 0 rfl) ?_
        refine va_get (D := G.1) (ci := 0) (v := .ref a1) (C := RX0) (T := TX0) (N := 1) hx hb hts hq_0 hown hK.1 hP 0 rfl rfl 0 (by decide) hq_1 (fun _ h9 => h9) rfl dX0_empty_11 ?_
        refine lv_iload_n hx hb dX0_empty_14 rfl (lv_at hl 2 rfl) ?_
        refine k_calli (fun _ => [kO a0 0 [.ref a1], kC G a1 8 (nR bf)]) [kO a0 0 [.ref a1]] (k_runSN (As := [.ref a1, .int (nI i)]) (rest := []) (wc := [kC G a1 8 (nR bf)]) ⟨hx, hb, hml, hown, hts⟩ (c_at l G a1 8 bf i (by omega) (by decide)) ⟨va_cnB (host := RX3) (index := 15) (own := RX0) 2 hts gX0_empty_X3_at_n15 rfl rfl rfl hq_2 hq_3 (by decide +kernel) ⟨Nat.le_of_ble_eq_true rfl, Nat.le_of_ble_eq_true rfl⟩, hq_4, trivial⟩ hK hZ hP hD hS hA [1] rfl rfl rfl hl.1 rfl (Nat.le_of_ble_eq_true rfl) dX0_empty_15 ⟨Nat.le_of_ble_eq_true rfl, Nat.le_of_ble_eq_true rfl⟩) hP hD hS hA [1] [0] [0, 1] rfl rfl rfl (by decide) (fun _ => rfl) rfl (fun r_15 u_15 H locs hp_15 hP hD hS => ?_)
        have hp_15 : r_15 = nI (bf i) := hp_15
        subst hp_15
        have hbi : bf i ≤ 200 := hB i (by omega)
        refine lv_if_ne (tgt := 24) hx hb dX0_empty_18 (by decide) (fun c_18 => ?_) (fun c_18 => ?_)
        · have c_18 : ¬ ((bf i) = 0) := fun h9 => c_18 ((k_eq0 (a := (bf i)) (by omega)).mpr h9)
          refine lv_iinc (v := nI (i + 1)) (lv' := [(2, .int (nI (i + 1))), (0, .ref a0), (1, .int (nI z))]) hx hb dX0_empty_24 hl (k := 2) rfl (nI_add i 1) (by decide) rfl (fun ls hl => ?_)
          refine lv_goto (tgt := 4) hx hb dX0_empty_27 (by decide) ?_
          exact ih_4 (i + 1) z (by omega) (by rw [hz]; first | exact (zeroN_z c_18).symm | exact (zeroN_n c_18).symm) (by omega) _ _ _ hP hD hS (lv_sub hl [1, 2, 0] rfl)
        · have c_18 : (bf i) = 0 := (k_eq0 (a := (bf i)) (by omega)).mp c_18
          refine lv_iinc (v := nI (z + 1)) (lv' := [(1, .int (nI (z + 1))), (0, .ref a0), (2, .int (nI i))]) hx hb dX0_empty_21 hl (k := 1) rfl (nI_add z 1) (by decide) rfl (fun ls hl => ?_)
          refine lv_iinc (v := nI (i + 1)) (lv' := [(2, .int (nI (i + 1))), (1, .int (nI (z + 1))), (0, .ref a0)]) hx hb dX0_empty_24 hl (k := 2) rfl (nI_add i 1) (by decide) rfl (fun ls hl => ?_)
          refine lv_goto (tgt := 4) hx hb dX0_empty_27 (by decide) ?_
          exact ih_4 (i + 1) (z + 1) (by omega) (by rw [hz]; first | exact (zeroN_z c_18).symm | exact (zeroN_n c_18).symm) (by omega) _ _ _ hP hD hS (lv_sub hl [2, 1, 0] rfl)
  exact loop_4 9 0 0 (by omega) rfl (by omega) H locs ls hP hD hS (lv_sub hl [2, 1, 0] rfl)
set_option maxHeartbeats 4000000 in
set_option maxRecDepth 100000 in
theorem c_becomeLike (l : Launch) (G : kG) (a0 : Nat) (a1 : Nat) (a2 : Nat) (a3 : Nat) (a4 : Nat) (sd : Nat) (pf : Nat → Nat) (kf : Nat → Nat) (cf : Nat → Nat) (nf : Nat → Nat) (sp : Nat) (td : Nat) (md : Nat) (ot : Nat) (b0 : Nat) (b1 : Nat) (b2 : Nat) (b3 : Nat) (b4 : Nat) (sd2 : Nat) (pg : Nat → Nat) (kg : Nat → Nat) (cg : Nat → Nat) (ng : Nat → Nat) (sp2 : Nat) (td2 : Nat) (md2 : Nat) (ot2 : Nat)  : kM l G yX2_becomeLike wsX2_becomeLike ({ frames := 1, cells := 0, slots := 0, locals := 22 } : Room) [.ref a0, .ref b0] [kO a0 2 [.int (nI sd), .ref a1, .ref a2, .ref a3, .ref a4, .int (nI sp), .int (nI td), .int (nI md), .int (nI ot)], kC G a1 60 (nR pf), kC G a2 60 (nR kf), kC G a3 20 (nR cf), kC G a4 20 (nR nf), kO b0 2 [.int (nI sd2), .ref b1, .ref b2, .ref b3, .ref b4, .int (nI sp2), .int (nI td2), .int (nI md2), .int (nI ot2)], kC G b1 60 (nR pg), kC G b2 60 (nR kg), kC G b3 20 (nR cg), kC G b4 20 (nR ng)] (kQv G [kO a0 2 [.int (nI sd), .ref a1, .ref a2, .ref a3, .ref a4, .int (nI sp), .int (nI td), .int (nI md), .int (nI ot)], kC G a1 60 (nR pf), kC G a2 60 (nR kf), kC G a3 20 (nR cf), kC G a4 20 (nR nf), kO b0 2 [.int (nI sd2), .ref b1, .ref b2, .ref b3, .ref b4, .int (nI sp2), .int (nI td2), .int (nI md2), .int (nI ot2)], kC G b1 60 (nR pg), kC G b2 60 (nR kg), kC G b3 20 (nR cg), kC G b4 20 (nR ng)] (fun (_ : Unit) => True) (fun (_ : Unit) => [kO a0 2 [.int (nI sd), .ref a1, .ref a2, .ref a3, .ref a4, .int (nI sp2), .int (nI td2), .int (nI md2), .int (nI ot2)], kC G a1 60 (nR pg), kC G a2 60 (nR kg), kC G a3 20 (nR cg), kC G a4 20 (nR ng), kO b0 2 [.int (nI sd2), .ref b1, .ref b2, .ref b3, .ref b4, .int (nI sp2), .int (nI td2), .int (nI md2), .int (nI ot2)], kC G b1 60 (nR pg), kC G b2 60 (nR kg), kC G b3 20 (nR cg), kC G b4 20 (nR ng)])) := by
  refine k_ofW (cc := cX2_becomeLike) (maxL := 2) (rt := none) (by decide) rfl (Nat.le_of_ble_eq_true rfl) ?_
  intro p e s m args below meth c A ls Qs H locs hQ hAe hx hb hr hml hts hown hlocks hin hK hZ hP hD hS hA hl
  have hown : s.vm.findClass RX2 = some m.cls := hown
  have hl : lv_has ls 2 [(0, .ref a0), (1, .ref b0)] := hl
  have hq_0 : ∀ w ∈ wsX20, w ∈ wsX2_becomeLike := by decide +kernel
  have hq_1 : (Cond.fieldLink RX2 9 "KnotRugs$Weaver" "planned" "[I").before args s = true := hts _ (by decide +kernel)
  have hq_2 : va_Nw (.methodLinkNest RX2 40 yX3_copyRow RX3) s := hK.2.1 (RX2, 40, yX3_copyRow) (List.mem_of_getElem? (i := 7) rfl)
  have hq_3 : (Cond.initialized RX3).before args s = true := hts _ (by decide +kernel)
  have hq_4 : (Cond.static yX3_copyRow).before args s = true := hts _ (by decide +kernel)
  have hq_5 : (Cond.fieldLink RX2 15 "KnotRugs$Weaver" "knotted" "[I").before args s = true := hts _ (by decide +kernel)
  have hq_6 : (Cond.fieldLink RX2 18 "KnotRugs$Weaver" "toldColours" "[I").before args s = true := hts _ (by decide +kernel)
  have hq_7 : (Cond.fieldLink RX2 21 "KnotRugs$Weaver" "toldKnots" "[I").before args s = true := hts _ (by decide +kernel)
  have hq_8 : (Cond.fieldLink RX2 24 "KnotRugs$Weaver" "speed" "I").before args s = true := hts _ (by decide +kernel)
  have hq_9 : (Cond.fieldLink RX2 28 "KnotRugs$Weaver" "told" "I").before args s = true := hts _ (by decide +kernel)
  have hq_10 : (Cond.fieldLink RX2 31 "KnotRugs$Weaver" "made" "I").before args s = true := hts _ (by decide +kernel)
  have hq_11 : (Cond.fieldLink RX2 34 "KnotRugs$Weaver" "inAnotherColour" "I").before args s = true := hts _ (by decide +kernel)
  refine lv_aload_n hx hb dX2_becomeLike_0 rfl (lv_at hl 1 rfl) ?_
  refine va_get (D := G.1) (ci := 2) (v := .ref b1) (C := RX2) (T := TX2) (N := 9) hx hb hts hq_0 hown hK.1 hP 5 rfl rfl 1 (by decide) hq_1 (fun _ h9 => h9) rfl dX2_becomeLike_1 ?_
  refine lv_aload_n hx hb dX2_becomeLike_4 rfl (lv_at hl 0 rfl) ?_
  refine va_get (D := G.1) (ci := 2) (v := .ref a1) (C := RX2) (T := TX2) (N := 9) hx hb hts hq_0 hown hK.1 hP 0 rfl rfl 1 (by decide) hq_1 (fun _ h9 => h9) rfl dX2_becomeLike_5 ?_
  refine k_callv (fun _ => [kO a0 2 [.int (nI sd), .ref a1, .ref a2, .ref a3, .ref a4, .int (nI sp), .int (nI td), .int (nI md), .int (nI ot)], kC G a1 60 (nR pg), kC G a2 60 (nR kf), kC G a3 20 (nR cf), kC G a4 20 (nR nf), kO b0 2 [.int (nI sd2), .ref b1, .ref b2, .ref b3, .ref b4, .int (nI sp2), .int (nI td2), .int (nI md2), .int (nI ot2)], kC G b1 60 (nR pg), kC G b2 60 (nR kg), kC G b3 20 (nR cg), kC G b4 20 (nR ng)]) [kO a0 2 [.int (nI sd), .ref a1, .ref a2, .ref a3, .ref a4, .int (nI sp), .int (nI td), .int (nI md), .int (nI ot)], kC G a2 60 (nR kf), kC G a3 20 (nR cf), kC G a4 20 (nR nf), kO b0 2 [.int (nI sd2), .ref b1, .ref b2, .ref b3, .ref b4, .int (nI sp2), .int (nI td2), .int (nI md2), .int (nI ot2)], kC G b2 60 (nR kg), kC G b3 20 (nR cg), kC G b4 20 (nR ng)] (k_runSN (As := [.ref b1, .ref a1]) (rest := []) (wc := [kC G b1 60 (nR pg), kC G a1 60 (nR pf)]) ⟨hx, hb, hml, hown, hts⟩ (c_copyRow l G b1 a1 60 pg pf (by decide)) ⟨va_cnB (host := RX3) (index := 40) (own := RX2) 2 hts gX2_becomeLike_X3_copyRow_n40 rfl rfl rfl hq_2 hq_3 (by decide +kernel) ⟨Nat.le_of_ble_eq_true rfl, Nat.le_of_ble_eq_true rfl⟩, hq_4, trivial⟩ hK hZ hP hD hS hA [6, 1] rfl rfl rfl hl.1 rfl (Nat.le_of_ble_eq_true rfl) dX2_becomeLike_8 ⟨Nat.le_of_ble_eq_true rfl, Nat.le_of_ble_eq_true rfl⟩) hP hD hS hA [6, 1] [0, 2, 3, 4, 5, 7, 8, 9] [0, 9, 1, 2, 3, 4, 8, 5, 6, 7] rfl rfl rfl (by decide) (fun _ => rfl) rfl (fun u_8 H locs hp_8 hP hD hS => ?_)
  refine lv_aload_n hx hb dX2_becomeLike_11 rfl (lv_at hl 1 rfl) ?_
  refine va_get (D := G.1) (ci := 2) (v := .ref b2) (C := RX2) (T := TX2) (N := 9) hx hb hts hq_0 hown hK.1 hP 5 rfl rfl 2 (by decide) hq_5 (fun _ h9 => h9) rfl dX2_becomeLike_12 ?_
  refine lv_aload_n hx hb dX2_becomeLike_15 rfl (lv_at hl 0 rfl) ?_
  refine va_get (D := G.1) (ci := 2) (v := .ref a2) (C := RX2) (T := TX2) (N := 9) hx hb hts hq_0 hown hK.1 hP 0 rfl rfl 2 (by decide) hq_5 (fun _ h9 => h9) rfl dX2_becomeLike_16 ?_
  refine k_callv (fun _ => [kO a0 2 [.int (nI sd), .ref a1, .ref a2, .ref a3, .ref a4, .int (nI sp), .int (nI td), .int (nI md), .int (nI ot)], kC G a1 60 (nR pg), kC G a2 60 (nR kg), kC G a3 20 (nR cf), kC G a4 20 (nR nf), kO b0 2 [.int (nI sd2), .ref b1, .ref b2, .ref b3, .ref b4, .int (nI sp2), .int (nI td2), .int (nI md2), .int (nI ot2)], kC G b1 60 (nR pg), kC G b2 60 (nR kg), kC G b3 20 (nR cg), kC G b4 20 (nR ng)]) [kO a0 2 [.int (nI sd), .ref a1, .ref a2, .ref a3, .ref a4, .int (nI sp), .int (nI td), .int (nI md), .int (nI ot)], kC G a1 60 (nR pg), kC G a3 20 (nR cf), kC G a4 20 (nR nf), kO b0 2 [.int (nI sd2), .ref b1, .ref b2, .ref b3, .ref b4, .int (nI sp2), .int (nI td2), .int (nI md2), .int (nI ot2)], kC G b1 60 (nR pg), kC G b3 20 (nR cg), kC G b4 20 (nR ng)] (k_runSN (As := [.ref b2, .ref a2]) (rest := []) (wc := [kC G b2 60 (nR kg), kC G a2 60 (nR kf)]) ⟨hx, hb, hml, hown, hts⟩ (c_copyRow l G b2 a2 60 kg kf (by decide)) ⟨va_cnB (host := RX3) (index := 40) (own := RX2) 2 hts gX2_becomeLike_X3_copyRow_n40 rfl rfl rfl hq_2 hq_3 (by decide +kernel) ⟨Nat.le_of_ble_eq_true rfl, Nat.le_of_ble_eq_true rfl⟩, hq_4, trivial⟩ hK hZ hP hD hS hA [7, 2] rfl rfl rfl hl.1 rfl (Nat.le_of_ble_eq_true rfl) dX2_becomeLike_19 ⟨Nat.le_of_ble_eq_true rfl, Nat.le_of_ble_eq_true rfl⟩) hP hD hS hA [7, 2] [0, 1, 3, 4, 5, 6, 8, 9] [0, 1, 9, 2, 3, 4, 5, 8, 6, 7] rfl rfl rfl (by decide) (fun _ => rfl) rfl (fun u_19 H locs hp_19 hP hD hS => ?_)
  refine lv_aload_n hx hb dX2_becomeLike_22 rfl (lv_at hl 1 rfl) ?_
  refine va_get (D := G.1) (ci := 2) (v := .ref b3) (C := RX2) (T := TX2) (N := 9) hx hb hts hq_0 hown hK.1 hP 5 rfl rfl 3 (by decide) hq_6 (fun _ h9 => h9) rfl dX2_becomeLike_23 ?_
  refine lv_aload_n hx hb dX2_becomeLike_26 rfl (lv_at hl 0 rfl) ?_
  refine va_get (D := G.1) (ci := 2) (v := .ref a3) (C := RX2) (T := TX2) (N := 9) hx hb hts hq_0 hown hK.1 hP 0 rfl rfl 3 (by decide) hq_6 (fun _ h9 => h9) rfl dX2_becomeLike_27 ?_
  refine k_callv (fun _ => [kO a0 2 [.int (nI sd), .ref a1, .ref a2, .ref a3, .ref a4, .int (nI sp), .int (nI td), .int (nI md), .int (nI ot)], kC G a1 60 (nR pg), kC G a2 60 (nR kg), kC G a3 20 (nR cg), kC G a4 20 (nR nf), kO b0 2 [.int (nI sd2), .ref b1, .ref b2, .ref b3, .ref b4, .int (nI sp2), .int (nI td2), .int (nI md2), .int (nI ot2)], kC G b1 60 (nR pg), kC G b2 60 (nR kg), kC G b3 20 (nR cg), kC G b4 20 (nR ng)]) [kO a0 2 [.int (nI sd), .ref a1, .ref a2, .ref a3, .ref a4, .int (nI sp), .int (nI td), .int (nI md), .int (nI ot)], kC G a1 60 (nR pg), kC G a2 60 (nR kg), kC G a4 20 (nR nf), kO b0 2 [.int (nI sd2), .ref b1, .ref b2, .ref b3, .ref b4, .int (nI sp2), .int (nI td2), .int (nI md2), .int (nI ot2)], kC G b1 60 (nR pg), kC G b2 60 (nR kg), kC G b4 20 (nR ng)] (k_runSN (As := [.ref b3, .ref a3]) (rest := []) (wc := [kC G b3 20 (nR cg), kC G a3 20 (nR cf)]) ⟨hx, hb, hml, hown, hts⟩ (c_copyRow l G b3 a3 20 cg cf (by decide)) ⟨va_cnB (host := RX3) (index := 40) (own := RX2) 2 hts gX2_becomeLike_X3_copyRow_n40 rfl rfl rfl hq_2 hq_3 (by decide +kernel) ⟨Nat.le_of_ble_eq_true rfl, Nat.le_of_ble_eq_true rfl⟩, hq_4, trivial⟩ hK hZ hP hD hS hA [8, 3] rfl rfl rfl hl.1 rfl (Nat.le_of_ble_eq_true rfl) dX2_becomeLike_30 ⟨Nat.le_of_ble_eq_true rfl, Nat.le_of_ble_eq_true rfl⟩) hP hD hS hA [8, 3] [0, 1, 2, 4, 5, 6, 7, 9] [0, 1, 2, 9, 3, 4, 5, 6, 8, 7] rfl rfl rfl (by decide) (fun _ => rfl) rfl (fun u_30 H locs hp_30 hP hD hS => ?_)
  refine lv_aload_n hx hb dX2_becomeLike_33 rfl (lv_at hl 1 rfl) ?_
  refine va_get (D := G.1) (ci := 2) (v := .ref b4) (C := RX2) (T := TX2) (N := 9) hx hb hts hq_0 hown hK.1 hP 5 rfl rfl 4 (by decide) hq_7 (fun _ h9 => h9) rfl dX2_becomeLike_34 ?_
  refine lv_aload_n hx hb dX2_becomeLike_37 rfl (lv_at hl 0 rfl) ?_
  refine va_get (D := G.1) (ci := 2) (v := .ref a4) (C := RX2) (T := TX2) (N := 9) hx hb hts hq_0 hown hK.1 hP 0 rfl rfl 4 (by decide) hq_7 (fun _ h9 => h9) rfl dX2_becomeLike_38 ?_
  refine k_callv (fun _ => [kO a0 2 [.int (nI sd), .ref a1, .ref a2, .ref a3, .ref a4, .int (nI sp), .int (nI td), .int (nI md), .int (nI ot)], kC G a1 60 (nR pg), kC G a2 60 (nR kg), kC G a3 20 (nR cg), kC G a4 20 (nR ng), kO b0 2 [.int (nI sd2), .ref b1, .ref b2, .ref b3, .ref b4, .int (nI sp2), .int (nI td2), .int (nI md2), .int (nI ot2)], kC G b1 60 (nR pg), kC G b2 60 (nR kg), kC G b3 20 (nR cg), kC G b4 20 (nR ng)]) [kO a0 2 [.int (nI sd), .ref a1, .ref a2, .ref a3, .ref a4, .int (nI sp), .int (nI td), .int (nI md), .int (nI ot)], kC G a1 60 (nR pg), kC G a2 60 (nR kg), kC G a3 20 (nR cg), kO b0 2 [.int (nI sd2), .ref b1, .ref b2, .ref b3, .ref b4, .int (nI sp2), .int (nI td2), .int (nI md2), .int (nI ot2)], kC G b1 60 (nR pg), kC G b2 60 (nR kg), kC G b3 20 (nR cg)] (k_runSN (As := [.ref b4, .ref a4]) (rest := []) (wc := [kC G b4 20 (nR ng), kC G a4 20 (nR nf)]) ⟨hx, hb, hml, hown, hts⟩ (c_copyRow l G b4 a4 20 ng nf (by decide)) ⟨va_cnB (host := RX3) (index := 40) (own := RX2) 2 hts gX2_becomeLike_X3_copyRow_n40 rfl rfl rfl hq_2 hq_3 (by decide +kernel) ⟨Nat.le_of_ble_eq_true rfl, Nat.le_of_ble_eq_true rfl⟩, hq_4, trivial⟩ hK hZ hP hD hS hA [9, 4] rfl rfl rfl hl.1 rfl (Nat.le_of_ble_eq_true rfl) dX2_becomeLike_41 ⟨Nat.le_of_ble_eq_true rfl, Nat.le_of_ble_eq_true rfl⟩) hP hD hS hA [9, 4] [0, 1, 2, 3, 5, 6, 7, 8] [0, 1, 2, 3, 9, 4, 5, 6, 7, 8] rfl rfl rfl (by decide) (fun _ => rfl) rfl (fun u_41 H locs hp_41 hP hD hS => ?_)
  refine lv_aload_n hx hb dX2_becomeLike_44 rfl (lv_at hl 0 rfl) ?_
  refine lv_aload_n hx hb dX2_becomeLike_45 rfl (lv_at hl 1 rfl) ?_
  refine va_get (D := G.1) (ci := 2) (v := .int (nI sp2)) (C := RX2) (T := TX2) (N := 9) hx hb hts hq_0 hown hK.1 hP 5 rfl rfl 5 (by decide) hq_8 (fun _ h9 => h9) rfl dX2_becomeLike_46 ?_
  refine va_put (D := G.1) (ci := 2) (v := .int (nI sp2)) (ty := .int) (C := RX2) (T := TX2) (N := 9) hx hb hts hq_0 tyX2 tyX2_ok nmX2 hown hK.1 hP hD hS 0 rfl rfl 5 (by decide) hq_8 (fun _ h9 => h9) rfl (by decide +kernel) rfl rfl (Nat.le_of_ble_eq_true rfl) dX2_becomeLike_49 (fun H locs hP hD hS => ?_)
  have hP : va_P G.1 vwCl [kO a0 2 [.int (nI sd), .ref a1, .ref a2, .ref a3, .ref a4, .int (nI sp2), .int (nI td), .int (nI md), .int (nI ot)], kC G a1 60 (nR pg), kC G a2 60 (nR kg), kC G a3 20 (nR cg), kC G a4 20 (nR ng), kO b0 2 [.int (nI sd2), .ref b1, .ref b2, .ref b3, .ref b4, .int (nI sp2), .int (nI td2), .int (nI md2), .int (nI ot2)], kC G b1 60 (nR pg), kC G b2 60 (nR kg), kC G b3 20 (nR cg), kC G b4 20 (nR ng)] H := hP
  have hD : va_D A [kO a0 2 [.int (nI sd), .ref a1, .ref a2, .ref a3, .ref a4, .int (nI sp2), .int (nI td), .int (nI md), .int (nI ot)], kC G a1 60 (nR pg), kC G a2 60 (nR kg), kC G a3 20 (nR cg), kC G a4 20 (nR ng), kO b0 2 [.int (nI sd2), .ref b1, .ref b2, .ref b3, .ref b4, .int (nI sp2), .int (nI td2), .int (nI md2), .int (nI ot2)], kC G b1 60 (nR pg), kC G b2 60 (nR kg), kC G b3 20 (nR cg), kC G b4 20 (nR ng)] := hD
  refine lv_aload_n hx hb dX2_becomeLike_52 rfl (lv_at hl 0 rfl) ?_
  refine lv_aload_n hx hb dX2_becomeLike_53 rfl (lv_at hl 1 rfl) ?_
  refine va_get (D := G.1) (ci := 2) (v := .int (nI td2)) (C := RX2) (T := TX2) (N := 9) hx hb hts hq_0 hown hK.1 hP 5 rfl rfl 6 (by decide) hq_9 (fun _ h9 => h9) rfl dX2_becomeLike_54 ?_
  refine va_put (D := G.1) (ci := 2) (v := .int (nI td2)) (ty := .int) (C := RX2) (T := TX2) (N := 9) hx hb hts hq_0 tyX2 tyX2_ok nmX2 hown hK.1 hP hD hS 0 rfl rfl 6 (by decide) hq_9 (fun _ h9 => h9) rfl (by decide +kernel) rfl rfl (Nat.le_of_ble_eq_true rfl) dX2_becomeLike_57 (fun H locs hP hD hS => ?_)
  have hP : va_P G.1 vwCl [kO a0 2 [.int (nI sd), .ref a1, .ref a2, .ref a3, .ref a4, .int (nI sp2), .int (nI td2), .int (nI md), .int (nI ot)], kC G a1 60 (nR pg), kC G a2 60 (nR kg), kC G a3 20 (nR cg), kC G a4 20 (nR ng), kO b0 2 [.int (nI sd2), .ref b1, .ref b2, .ref b3, .ref b4, .int (nI sp2), .int (nI td2), .int (nI md2), .int (nI ot2)], kC G b1 60 (nR pg), kC G b2 60 (nR kg), kC G b3 20 (nR cg), kC G b4 20 (nR ng)] H := hP
  have hD : va_D A [kO a0 2 [.int (nI sd), .ref a1, .ref a2, .ref a3, .ref a4, .int (nI sp2), .int (nI td2), .int (nI md), .int (nI ot)], kC G a1 60 (nR pg), kC G a2 60 (nR kg), kC G a3 20 (nR cg), kC G a4 20 (nR ng), kO b0 2 [.int (nI sd2), .ref b1, .ref b2, .ref b3, .ref b4, .int (nI sp2), .int (nI td2), .int (nI md2), .int (nI ot2)], kC G b1 60 (nR pg), kC G b2 60 (nR kg), kC G b3 20 (nR cg), kC G b4 20 (nR ng)] := hD
  refine lv_aload_n hx hb dX2_becomeLike_60 rfl (lv_at hl 0 rfl) ?_
  refine lv_aload_n hx hb dX2_becomeLike_61 rfl (lv_at hl 1 rfl) ?_
  refine va_get (D := G.1) (ci := 2) (v := .int (nI md2)) (C := RX2) (T := TX2) (N := 9) hx hb hts hq_0 hown hK.1 hP 5 rfl rfl 7 (by decide) hq_10 (fun _ h9 => h9) rfl dX2_becomeLike_62 ?_
  refine va_put (D := G.1) (ci := 2) (v := .int (nI md2)) (ty := .int) (C := RX2) (T := TX2) (N := 9) hx hb hts hq_0 tyX2 tyX2_ok nmX2 hown hK.1 hP hD hS 0 rfl rfl 7 (by decide) hq_10 (fun _ h9 => h9) rfl (by decide +kernel) rfl rfl (Nat.le_of_ble_eq_true rfl) dX2_becomeLike_65 (fun H locs hP hD hS => ?_)
  have hP : va_P G.1 vwCl [kO a0 2 [.int (nI sd), .ref a1, .ref a2, .ref a3, .ref a4, .int (nI sp2), .int (nI td2), .int (nI md2), .int (nI ot)], kC G a1 60 (nR pg), kC G a2 60 (nR kg), kC G a3 20 (nR cg), kC G a4 20 (nR ng), kO b0 2 [.int (nI sd2), .ref b1, .ref b2, .ref b3, .ref b4, .int (nI sp2), .int (nI td2), .int (nI md2), .int (nI ot2)], kC G b1 60 (nR pg), kC G b2 60 (nR kg), kC G b3 20 (nR cg), kC G b4 20 (nR ng)] H := hP
  have hD : va_D A [kO a0 2 [.int (nI sd), .ref a1, .ref a2, .ref a3, .ref a4, .int (nI sp2), .int (nI td2), .int (nI md2), .int (nI ot)], kC G a1 60 (nR pg), kC G a2 60 (nR kg), kC G a3 20 (nR cg), kC G a4 20 (nR ng), kO b0 2 [.int (nI sd2), .ref b1, .ref b2, .ref b3, .ref b4, .int (nI sp2), .int (nI td2), .int (nI md2), .int (nI ot2)], kC G b1 60 (nR pg), kC G b2 60 (nR kg), kC G b3 20 (nR cg), kC G b4 20 (nR ng)] := hD
  refine lv_aload_n hx hb dX2_becomeLike_68 rfl (lv_at hl 0 rfl) ?_
  refine lv_aload_n hx hb dX2_becomeLike_69 rfl (lv_at hl 1 rfl) ?_
  refine va_get (D := G.1) (ci := 2) (v := .int (nI ot2)) (C := RX2) (T := TX2) (N := 9) hx hb hts hq_0 hown hK.1 hP 5 rfl rfl 8 (by decide) hq_11 (fun _ h9 => h9) rfl dX2_becomeLike_70 ?_
  refine va_put (D := G.1) (ci := 2) (v := .int (nI ot2)) (ty := .int) (C := RX2) (T := TX2) (N := 9) hx hb hts hq_0 tyX2 tyX2_ok nmX2 hown hK.1 hP hD hS 0 rfl rfl 8 (by decide) hq_11 (fun _ h9 => h9) rfl (by decide +kernel) rfl rfl (Nat.le_of_ble_eq_true rfl) dX2_becomeLike_73 (fun H locs hP hD hS => ?_)
  have hP : va_P G.1 vwCl [kO a0 2 [.int (nI sd), .ref a1, .ref a2, .ref a3, .ref a4, .int (nI sp2), .int (nI td2), .int (nI md2), .int (nI ot2)], kC G a1 60 (nR pg), kC G a2 60 (nR kg), kC G a3 20 (nR cg), kC G a4 20 (nR ng), kO b0 2 [.int (nI sd2), .ref b1, .ref b2, .ref b3, .ref b4, .int (nI sp2), .int (nI td2), .int (nI md2), .int (nI ot2)], kC G b1 60 (nR pg), kC G b2 60 (nR kg), kC G b3 20 (nR cg), kC G b4 20 (nR ng)] H := hP
  have hD : va_D A [kO a0 2 [.int (nI sd), .ref a1, .ref a2, .ref a3, .ref a4, .int (nI sp2), .int (nI td2), .int (nI md2), .int (nI ot2)], kC G a1 60 (nR pg), kC G a2 60 (nR kg), kC G a3 20 (nR cg), kC G a4 20 (nR ng), kO b0 2 [.int (nI sd2), .ref b1, .ref b2, .ref b3, .ref b4, .int (nI sp2), .int (nI td2), .int (nI md2), .int (nI ot2)], kC G b1 60 (nR pg), kC G b2 60 (nR kg), kC G b3 20 (nR cg), kC G b4 20 (nR ng)] := hD
  exact k_vret (ws := [kO a0 2 [.int (nI sd), .ref a1, .ref a2, .ref a3, .ref a4, .int (nI sp), .int (nI td), .int (nI md), .int (nI ot)], kC G a1 60 (nR pf), kC G a2 60 (nR kf), kC G a3 20 (nR cf), kC G a4 20 (nR nf), kO b0 2 [.int (nI sd2), .ref b1, .ref b2, .ref b3, .ref b4, .int (nI sp2), .int (nI td2), .int (nI md2), .int (nI ot2)], kC G b1 60 (nR pg), kC G b2 60 (nR kg), kC G b3 20 (nR cg), kC G b4 20 (nR ng)]) (()) hx hb hr hlocks hP hD hS hAe hQ (Nat.le_of_ble_eq_true rfl) (Nat.le_of_ble_eq_true rfl) dX2_becomeLike_76 (rfl) (trivial)
set_option maxHeartbeats 4000000 in
set_option maxRecDepth 100000 in
theorem c_planCell (l : Launch) (G : kG) (a0 : Nat) (a1 : Nat) (a2 : Nat) (a3 : Nat) (a4 : Nat) (sd : Nat) (pf : Nat → Nat) (kf : Nat → Nat) (cf : Nat → Nat) (nf : Nat → Nat) (sp : Nat) (td : Nat) (md : Nat) (ot : Nat) (k : Nat) (x : Nat) (hk : k < 60) (hx8 : x < 8) (hw : wOk (pf, kf, cf, nf, sp, td, md, ot)) : kM l G yX2_planCell wsX2_planCell ({ frames := 1, cells := 0, slots := 0, locals := 22 } : Room) [.ref a0, .int (nI k), .int (nI x)] [kO a0 2 [.int (nI sd), .ref a1, .ref a2, .ref a3, .ref a4, .int (nI sp), .int (nI td), .int (nI md), .int (nI ot)], kC G a1 60 (nR pf), kC G a2 60 (nR kf), kC G a3 20 (nR cf), kC G a4 20 (nR nf)] (kQi G [kO a0 2 [.int (nI sd), .ref a1, .ref a2, .ref a3, .ref a4, .int (nI sp), .int (nI td), .int (nI md), .int (nI ot)], kC G a1 60 (nR pf), kC G a2 60 (nR kf), kC G a3 20 (nR cf), kC G a4 20 (nR nf)] (fun (r : Int32) (_ : Unit) => (r = nI 1 ∧ (¬ pf k = x)) ∨ (r = nI 0 ∧ ¬ (¬ pf k = x))) (fun (_ : Unit) => [kO a0 2 [.int (nI sd), .ref a1, .ref a2, .ref a3, .ref a4, .int (nI sp), .int (nI td), .int (nI md), .int (nI ot)], kC G a1 60 (nR (updN pf k x)), kC G a2 60 (nR kf), kC G a3 20 (nR cf), kC G a4 20 (nR nf)])) := by
  refine k_ofW (cc := cX2_planCell) (maxL := 4) (rt := (some .boolean)) (by decide) rfl (Nat.le_of_ble_eq_true rfl) ?_
  intro p e s m args below meth c A ls Qs H locs hQ hAe hx hb hr hml hts hown hlocks hin hK hZ hP hD hS hA hl
  have hown : s.vm.findClass RX2 = some m.cls := hown
  have hl : lv_has ls 4 [(0, .ref a0), (1, .int (nI k)), (2, .int (nI x))] := hl
  have ws1 : 1 ≤ sp := hw.1
  have ws2 : sp ≤ 6 := hw.2.1
  have wt : td ≤ 20 := hw.2.2.1
  have wm : md ≤ 60 := hw.2.2.2.1
  have wpb : ∀ i, i < 60 → pf i < 8 := hw.2.2.2.2.1
  have wkb : ∀ i, i < 60 → kf i < 8 := hw.2.2.2.2.2.1
  have wcb : ∀ i, i < td → cf i < 8 := hw.2.2.2.2.2.2.1
  have wnb : ∀ i, i < td → 1 ≤ nf i ∧ nf i ≤ 60 := hw.2.2.2.2.2.2.2
  have hpk : pf k < 8 := wpb k hk
  have hq_0 : ∀ w ∈ wsX20, w ∈ wsX2_planCell := by decide +kernel
  have hq_1 : (Cond.fieldLink RX2 9 "KnotRugs$Weaver" "planned" "[I").before args s = true := hts _ (by decide +kernel)
  have hq_2 : va_Nw (.methodLinkNest RX2 44 yX3_at RX3) s := hK.2.1 (RX2, 44, yX3_at) (List.mem_of_getElem? (i := 8) rfl)
  have hq_3 : (Cond.initialized RX3).before args s = true := hts _ (by decide +kernel)
  have hq_4 : (Cond.static yX3_at).before args s = true := hts _ (by decide +kernel)
  have hq_5 : va_Nw (.methodLinkNest RX2 48 yX3_put RX3) s := hK.2.1 (RX2, 48, yX3_put) (List.mem_of_getElem? (i := 9) rfl)
  have hq_6 : (Cond.static yX3_put).before args s = true := hts _ (by decide +kernel)
  refine lv_aload_n hx hb dX2_planCell_0 rfl (lv_at hl 0 rfl) ?_
  refine va_get (D := G.1) (ci := 2) (v := .ref a1) (C := RX2) (T := TX2) (N := 9) hx hb hts hq_0 hown hK.1 hP 0 rfl rfl 1 (by decide) hq_1 (fun _ h9 => h9) rfl dX2_planCell_1 ?_
  refine lv_iload_n hx hb dX2_planCell_4 rfl (lv_at hl 1 rfl) ?_
  refine k_calli (fun _ => [kO a0 2 [.int (nI sd), .ref a1, .ref a2, .ref a3, .ref a4, .int (nI sp), .int (nI td), .int (nI md), .int (nI ot)], kC G a1 60 (nR pf), kC G a2 60 (nR kf), kC G a3 20 (nR cf), kC G a4 20 (nR nf)]) [kO a0 2 [.int (nI sd), .ref a1, .ref a2, .ref a3, .ref a4, .int (nI sp), .int (nI td), .int (nI md), .int (nI ot)], kC G a2 60 (nR kf), kC G a3 20 (nR cf), kC G a4 20 (nR nf)] (k_runSN (As := [.ref a1, .int (nI k)]) (rest := []) (wc := [kC G a1 60 (nR pf)]) ⟨hx, hb, hml, hown, hts⟩ (c_at l G a1 60 pf k hk (by decide)) ⟨va_cnB (host := RX3) (index := 44) (own := RX2) 2 hts gX2_planCell_X3_at_n44 rfl rfl rfl hq_2 hq_3 (by decide +kernel) ⟨Nat.le_of_ble_eq_true rfl, Nat.le_of_ble_eq_true rfl⟩, hq_4, trivial⟩ hK hZ hP hD hS hA [1] rfl rfl rfl hl.1 rfl (Nat.le_of_ble_eq_true rfl) dX2_planCell_5 ⟨Nat.le_of_ble_eq_true rfl, Nat.le_of_ble_eq_true rfl⟩) hP hD hS hA [1] [0, 2, 3, 4] [0, 4, 1, 2, 3] rfl rfl rfl (by decide) (fun _ => rfl) rfl (fun r_5 u_5 H locs hp_5 hP hD hS => ?_)
  have hp_5 : r_5 = nI (pf k) := hp_5
  subst hp_5
  refine lv_iload_n hx hb dX2_planCell_8 rfl (lv_at hl 2 rfl) ?_
  refine lv_icmp_eq (tgt := 16) hx hb dX2_planCell_9 (by decide) (fun c_9 => ?_) (fun c_9 => ?_)
  · have c_9 : (pf k) = x := (nI_eq (a := (pf k)) (b := x) (by omega) (by omega)).mp c_9
    refine lv_iconst (v := nI 0) hx hb dX2_planCell_16 (by decide) ?_
    refine lv_istore_n (lv' := [(3, .int (nI 0)), (0, .ref a0), (1, .int (nI k)), (2, .int (nI x))]) hx hb dX2_planCell_17 rfl hl (by decide) rfl (fun ls hl => ?_)
    refine lv_aload_n hx hb dX2_planCell_18 rfl (lv_at hl 1 rfl) ?_
    refine va_get (D := G.1) (ci := 2) (v := .ref a1) (C := RX2) (T := TX2) (N := 9) hx hb hts hq_0 hown hK.1 hP 0 rfl rfl 1 (by decide) hq_1 (fun _ h9 => h9) rfl dX2_planCell_19 ?_
    refine lv_iload_n hx hb dX2_planCell_22 rfl (lv_at hl 2 rfl) ?_
    refine lv_iload_n hx hb dX2_planCell_23 rfl (lv_at hl 3 rfl) ?_
    refine k_callv (fun _ => [kO a0 2 [.int (nI sd), .ref a1, .ref a2, .ref a3, .ref a4, .int (nI sp), .int (nI td), .int (nI md), .int (nI ot)], kC G a1 60 (nR (updN pf k x)), kC G a2 60 (nR kf), kC G a3 20 (nR cf), kC G a4 20 (nR nf)]) [kO a0 2 [.int (nI sd), .ref a1, .ref a2, .ref a3, .ref a4, .int (nI sp), .int (nI td), .int (nI md), .int (nI ot)], kC G a2 60 (nR kf), kC G a3 20 (nR cf), kC G a4 20 (nR nf)] (k_runSN (As := [.ref a1, .int (nI k), .int (nI x)]) (rest := []) (wc := [kC G a1 60 (nR pf)]) ⟨hx, hb, hml, hown, hts⟩ (c_put l G a1 60 pf k x hk (by decide)) ⟨va_cnB (host := RX3) (index := 48) (own := RX2) 3 hts gX2_planCell_X3_put_n48 rfl rfl rfl hq_5 hq_3 (by decide +kernel) ⟨Nat.le_of_ble_eq_true rfl, Nat.le_of_ble_eq_true rfl⟩, hq_6, trivial⟩ hK hZ hP hD hS hA [1] rfl rfl rfl hl.1 rfl (Nat.le_of_ble_eq_true rfl) dX2_planCell_24 ⟨Nat.le_of_ble_eq_true rfl, Nat.le_of_ble_eq_true rfl⟩) hP hD hS hA [1] [0, 2, 3, 4] [0, 4, 1, 2, 3] rfl rfl rfl (by decide) (fun _ => rfl) rfl (fun u_24 H locs hp_24 hP hD hS => ?_)
    refine lv_iload_n hx hb dX2_planCell_27 rfl (lv_at hl 0 rfl) ?_
    exact k_zret (ws := [kO a0 2 [.int (nI sd), .ref a1, .ref a2, .ref a3, .ref a4, .int (nI sp), .int (nI td), .int (nI md), .int (nI ot)], kC G a1 60 (nR pf), kC G a2 60 (nR kf), kC G a3 20 (nR cf), kC G a4 20 (nR nf)]) (()) hx hb hr rfl hlocks hP hD hS hAe hQ (Nat.le_of_ble_eq_true rfl) (Nat.le_of_ble_eq_true rfl) dX2_planCell_28 (rfl) (Or.inr ⟨rfl, fun h9 => h9 c_9⟩)
  · have c_9 : ¬ ((pf k) = x) := fun h9 => c_9 ((nI_eq (a := (pf k)) (b := x) (by omega) (by omega)).mpr h9)
    refine lv_iconst (v := nI 1) hx hb dX2_planCell_12 (by decide) ?_
    refine lv_goto (tgt := 17) hx hb dX2_planCell_13 (by decide) ?_
    refine lv_istore_n (lv' := [(3, .int (nI 1)), (0, .ref a0), (1, .int (nI k)), (2, .int (nI x))]) hx hb dX2_planCell_17 rfl hl (by decide) rfl (fun ls hl => ?_)
    refine lv_aload_n hx hb dX2_planCell_18 rfl (lv_at hl 1 rfl) ?_
    refine va_get (D := G.1) (ci := 2) (v := .ref a1) (C := RX2) (T := TX2) (N := 9) hx hb hts hq_0 hown hK.1 hP 0 rfl rfl 1 (by decide) hq_1 (fun _ h9 => h9) rfl dX2_planCell_19 ?_
    refine lv_iload_n hx hb dX2_planCell_22 rfl (lv_at hl 2 rfl) ?_
    refine lv_iload_n hx hb dX2_planCell_23 rfl (lv_at hl 3 rfl) ?_
    refine k_callv (fun _ => [kO a0 2 [.int (nI sd), .ref a1, .ref a2, .ref a3, .ref a4, .int (nI sp), .int (nI td), .int (nI md), .int (nI ot)], kC G a1 60 (nR (updN pf k x)), kC G a2 60 (nR kf), kC G a3 20 (nR cf), kC G a4 20 (nR nf)]) [kO a0 2 [.int (nI sd), .ref a1, .ref a2, .ref a3, .ref a4, .int (nI sp), .int (nI td), .int (nI md), .int (nI ot)], kC G a2 60 (nR kf), kC G a3 20 (nR cf), kC G a4 20 (nR nf)] (k_runSN (As := [.ref a1, .int (nI k), .int (nI x)]) (rest := []) (wc := [kC G a1 60 (nR pf)]) ⟨hx, hb, hml, hown, hts⟩ (c_put l G a1 60 pf k x hk (by decide)) ⟨va_cnB (host := RX3) (index := 48) (own := RX2) 3 hts gX2_planCell_X3_put_n48 rfl rfl rfl hq_5 hq_3 (by decide +kernel) ⟨Nat.le_of_ble_eq_true rfl, Nat.le_of_ble_eq_true rfl⟩, hq_6, trivial⟩ hK hZ hP hD hS hA [1] rfl rfl rfl hl.1 rfl (Nat.le_of_ble_eq_true rfl) dX2_planCell_24 ⟨Nat.le_of_ble_eq_true rfl, Nat.le_of_ble_eq_true rfl⟩) hP hD hS hA [1] [0, 2, 3, 4] [0, 4, 1, 2, 3] rfl rfl rfl (by decide) (fun _ => rfl) rfl (fun u_24 H locs hp_24 hP hD hS => ?_)
    refine lv_iload_n hx hb dX2_planCell_27 rfl (lv_at hl 0 rfl) ?_
    exact k_zret (ws := [kO a0 2 [.int (nI sd), .ref a1, .ref a2, .ref a3, .ref a4, .int (nI sp), .int (nI td), .int (nI md), .int (nI ot)], kC G a1 60 (nR pf), kC G a2 60 (nR kf), kC G a3 20 (nR cf), kC G a4 20 (nR nf)]) (()) hx hb hr rfl hlocks hP hD hS hAe hQ (Nat.le_of_ble_eq_true rfl) (Nat.le_of_ble_eq_true rfl) dX2_planCell_28 (rfl) (Or.inl ⟨rfl, c_9⟩)
set_option maxHeartbeats 4000000 in
set_option maxRecDepth 100000 in
theorem c_knotAtPlace (l : Launch) (G : kG) (a0 : Nat) (a1 : Nat) (a2 : Nat) (a3 : Nat) (a4 : Nat) (sd : Nat) (pf : Nat → Nat) (kf : Nat → Nat) (cf : Nat → Nat) (nf : Nat → Nat) (sp : Nat) (td : Nat) (md : Nat) (ot : Nat) (k : Nat) (hk : k < 60) (hw : wOk (pf, kf, cf, nf, sp, td, md, ot)) : kM l G yX2_knotAtPlace wsX2_knotAtPlace ({ frames := 1, cells := 0, slots := 0, locals := 21 } : Room) [.ref a0, .int (nI k)] [kO a0 2 [.int (nI sd), .ref a1, .ref a2, .ref a3, .ref a4, .int (nI sp), .int (nI td), .int (nI md), .int (nI ot)], kC G a1 60 (nR pf), kC G a2 60 (nR kf), kC G a3 20 (nR cf), kC G a4 20 (nR nf)] (kQi G [kO a0 2 [.int (nI sd), .ref a1, .ref a2, .ref a3, .ref a4, .int (nI sp), .int (nI td), .int (nI md), .int (nI ot)], kC G a1 60 (nR pf), kC G a2 60 (nR kf), kC G a3 20 (nR cf), kC G a4 20 (nR nf)] (fun (r : Int32) (_ : Unit) => r = kaN kf md k) (fun (_ : Unit) => [kO a0 2 [.int (nI sd), .ref a1, .ref a2, .ref a3, .ref a4, .int (nI sp), .int (nI td), .int (nI md), .int (nI ot)], kC G a1 60 (nR pf), kC G a2 60 (nR kf), kC G a3 20 (nR cf), kC G a4 20 (nR nf)])) := by
  refine k_ofW (cc := cX2_knotAtPlace) (maxL := 2) (rt := (some .int)) (by decide) rfl (Nat.le_of_ble_eq_true rfl) ?_
  intro p e s m args below meth c A ls Qs H locs hQ hAe hx hb hr hml hts hown hlocks hin hK hZ hP hD hS hA hl
  have hown : s.vm.findClass RX2 = some m.cls := hown
  have hl : lv_has ls 2 [(0, .ref a0), (1, .int (nI k))] := hl
  have ws1 : 1 ≤ sp := hw.1
  have ws2 : sp ≤ 6 := hw.2.1
  have wt : td ≤ 20 := hw.2.2.1
  have wm : md ≤ 60 := hw.2.2.2.1
  have wpb : ∀ i, i < 60 → pf i < 8 := hw.2.2.2.2.1
  have wkb : ∀ i, i < 60 → kf i < 8 := hw.2.2.2.2.2.1
  have wcb : ∀ i, i < td → cf i < 8 := hw.2.2.2.2.2.2.1
  have wnb : ∀ i, i < td → 1 ≤ nf i ∧ nf i ≤ 60 := hw.2.2.2.2.2.2.2
  have hq_0 : ∀ w ∈ wsX20, w ∈ wsX2_knotAtPlace := by decide +kernel
  have hq_1 : (Cond.fieldLink RX2 31 "KnotRugs$Weaver" "made" "I").before args s = true := hts _ (by decide +kernel)
  have hq_2 : (Cond.fieldLink RX2 15 "KnotRugs$Weaver" "knotted" "[I").before args s = true := hts _ (by decide +kernel)
  have hq_3 : va_Nw (.methodLinkNest RX2 44 yX3_at RX3) s := hK.2.1 (RX2, 44, yX3_at) (List.mem_of_getElem? (i := 8) rfl)
  have hq_4 : (Cond.initialized RX3).before args s = true := hts _ (by decide +kernel)
  have hq_5 : (Cond.static yX3_at).before args s = true := hts _ (by decide +kernel)
  refine lv_iload_n hx hb dX2_knotAtPlace_0 rfl (lv_at hl 1 rfl) ?_
  refine lv_aload_n hx hb dX2_knotAtPlace_1 rfl (lv_at hl 0 rfl) ?_
  refine va_get (D := G.1) (ci := 2) (v := .int (nI md)) (C := RX2) (T := TX2) (N := 9) hx hb hts hq_0 hown hK.1 hP 0 rfl rfl 7 (by decide) hq_1 (fun _ h9 => h9) rfl dX2_knotAtPlace_2 ?_
  refine lv_icmp_ge (tgt := 19) hx hb dX2_knotAtPlace_5 (by decide) (fun c_5 => ?_) (fun c_5 => ?_)
  · have c_5 : md ≤ k := (nI_leI (a := md) (b := k) (by omega) (by omega)).mp c_5
    refine lv_iconst (v := (-1)) hx hb dX2_knotAtPlace_19 (by decide) ?_
    exact k_iret (ws := [kO a0 2 [.int (nI sd), .ref a1, .ref a2, .ref a3, .ref a4, .int (nI sp), .int (nI td), .int (nI md), .int (nI ot)], kC G a1 60 (nR pf), kC G a2 60 (nR kf), kC G a3 20 (nR cf), kC G a4 20 (nR nf)]) (()) hx hb hr hlocks hP hD hS hAe hQ (Nat.le_of_ble_eq_true rfl) (Nat.le_of_ble_eq_true rfl) dX2_knotAtPlace_20 (rfl) (kaN_f (by omega))
  · have c_5 : ¬ (md ≤ k) := fun h9 => c_5 ((nI_leI (a := md) (b := k) (by omega) (by omega)).mpr h9)
    refine lv_aload_n hx hb dX2_knotAtPlace_8 rfl (lv_at hl 0 rfl) ?_
    refine va_get (D := G.1) (ci := 2) (v := .ref a2) (C := RX2) (T := TX2) (N := 9) hx hb hts hq_0 hown hK.1 hP 0 rfl rfl 2 (by decide) hq_2 (fun _ h9 => h9) rfl dX2_knotAtPlace_9 ?_
    refine lv_iload_n hx hb dX2_knotAtPlace_12 rfl (lv_at hl 1 rfl) ?_
    refine k_calli (fun _ => [kO a0 2 [.int (nI sd), .ref a1, .ref a2, .ref a3, .ref a4, .int (nI sp), .int (nI td), .int (nI md), .int (nI ot)], kC G a1 60 (nR pf), kC G a2 60 (nR kf), kC G a3 20 (nR cf), kC G a4 20 (nR nf)]) [kO a0 2 [.int (nI sd), .ref a1, .ref a2, .ref a3, .ref a4, .int (nI sp), .int (nI td), .int (nI md), .int (nI ot)], kC G a1 60 (nR pf), kC G a3 20 (nR cf), kC G a4 20 (nR nf)] (k_runSN (As := [.ref a2, .int (nI k)]) (rest := []) (wc := [kC G a2 60 (nR kf)]) ⟨hx, hb, hml, hown, hts⟩ (c_at l G a2 60 kf k hk (by decide)) ⟨va_cnB (host := RX3) (index := 44) (own := RX2) 2 hts gX2_knotAtPlace_X3_at_n44 rfl rfl rfl hq_3 hq_4 (by decide +kernel) ⟨Nat.le_of_ble_eq_true rfl, Nat.le_of_ble_eq_true rfl⟩, hq_5, trivial⟩ hK hZ hP hD hS hA [2] rfl rfl rfl hl.1 rfl (Nat.le_of_ble_eq_true rfl) dX2_knotAtPlace_13 ⟨Nat.le_of_ble_eq_true rfl, Nat.le_of_ble_eq_true rfl⟩) hP hD hS hA [2] [0, 1, 3, 4] [0, 1, 4, 2, 3] rfl rfl rfl (by decide) (fun _ => rfl) rfl (fun r_13 u_13 H locs hp_13 hP hD hS => ?_)
    have hp_13 : r_13 = nI (kf k) := hp_13
    subst hp_13
    refine lv_goto (tgt := 20) hx hb dX2_knotAtPlace_16 (by decide) ?_
    exact k_iret (ws := [kO a0 2 [.int (nI sd), .ref a1, .ref a2, .ref a3, .ref a4, .int (nI sp), .int (nI td), .int (nI md), .int (nI ot)], kC G a1 60 (nR pf), kC G a2 60 (nR kf), kC G a3 20 (nR cf), kC G a4 20 (nR nf)]) (()) hx hb hr hlocks hP hD hS hAe hQ (Nat.le_of_ble_eq_true rfl) (Nat.le_of_ble_eq_true rfl) dX2_knotAtPlace_20 (rfl) (kaN_t (by omega))
set_option maxHeartbeats 4000000 in
set_option maxRecDepth 100000 in
theorem c_isHalfDone (l : Launch) (G : kG) (a0 : Nat) (a1 : Nat) (a2 : Nat) (a3 : Nat) (a4 : Nat) (sd : Nat) (pf : Nat → Nat) (kf : Nat → Nat) (cf : Nat → Nat) (nf : Nat → Nat) (sp : Nat) (td : Nat) (md : Nat) (ot : Nat) (wm : md ≤ 60) : kM l G yX2_isHalfDone wsX2_isHalfDone ({ frames := 0, cells := 0, slots := 0, locals := 0 } : Room) [.ref a0] [kO a0 2 [.int (nI sd), .ref a1, .ref a2, .ref a3, .ref a4, .int (nI sp), .int (nI td), .int (nI md), .int (nI ot)], kC G a1 60 (nR pf), kC G a2 60 (nR kf), kC G a3 20 (nR cf), kC G a4 20 (nR nf)] (kQi G [kO a0 2 [.int (nI sd), .ref a1, .ref a2, .ref a3, .ref a4, .int (nI sp), .int (nI td), .int (nI md), .int (nI ot)], kC G a1 60 (nR pf), kC G a2 60 (nR kf), kC G a3 20 (nR cf), kC G a4 20 (nR nf)] (fun (r : Int32) (_ : Unit) => (r = nI 1 ∧ (60 ≤ md)) ∨ (r = nI 0 ∧ ¬ (60 ≤ md))) (fun (_ : Unit) => [kO a0 2 [.int (nI sd), .ref a1, .ref a2, .ref a3, .ref a4, .int (nI sp), .int (nI td), .int (nI md), .int (nI ot)], kC G a1 60 (nR pf), kC G a2 60 (nR kf), kC G a3 20 (nR cf), kC G a4 20 (nR nf)])) := by
  refine k_ofW (cc := cX2_isHalfDone) (maxL := 1) (rt := (some .boolean)) (by decide) rfl (Nat.le_of_ble_eq_true rfl) ?_
  intro p e s m args below meth c A ls Qs H locs hQ hAe hx hb hr hml hts hown hlocks hin hK hZ hP hD hS hA hl
  have hown : s.vm.findClass RX2 = some m.cls := hown
  have hl : lv_has ls 1 [(0, .ref a0)] := hl
  have hq_0 : ∀ w ∈ wsX20, w ∈ wsX2_isHalfDone := by decide +kernel
  have hq_1 : (Cond.fieldLink RX2 31 "KnotRugs$Weaver" "made" "I").before args s = true := hts _ (by decide +kernel)
  refine lv_aload_n hx hb dX2_isHalfDone_0 rfl (lv_at hl 0 rfl) ?_
  refine va_get (D := G.1) (ci := 2) (v := .int (nI md)) (C := RX2) (T := TX2) (N := 9) hx hb hts hq_0 hown hK.1 hP 0 rfl rfl 7 (by decide) hq_1 (fun _ h9 => h9) rfl dX2_isHalfDone_1 ?_
  refine lv_bipush (v := nI 60) hx hb dX2_isHalfDone_4 (by decide) ?_
  refine lv_icmp_lt (tgt := 13) hx hb dX2_isHalfDone_6 (by decide) (fun c_6 => ?_) (fun c_6 => ?_)
  · have c_6 : md < 60 := (nI_ltI (a := md) (b := 60) (by omega) (by omega)).mp c_6
    refine lv_iconst (v := nI 0) hx hb dX2_isHalfDone_13 (by decide) ?_
    exact k_zret (ws := [kO a0 2 [.int (nI sd), .ref a1, .ref a2, .ref a3, .ref a4, .int (nI sp), .int (nI td), .int (nI md), .int (nI ot)], kC G a1 60 (nR pf), kC G a2 60 (nR kf), kC G a3 20 (nR cf), kC G a4 20 (nR nf)]) (()) hx hb hr rfl hlocks hP hD hS hAe hQ (Nat.le_of_ble_eq_true rfl) (Nat.le_of_ble_eq_true rfl) dX2_isHalfDone_14 (rfl) (Or.inr ⟨rfl, by omega⟩)
  · have c_6 : ¬ (md < 60) := fun h9 => c_6 ((nI_ltI (a := md) (b := 60) (by omega) (by omega)).mpr h9)
    refine lv_iconst (v := nI 1) hx hb dX2_isHalfDone_9 (by decide) ?_
    refine lv_goto (tgt := 14) hx hb dX2_isHalfDone_10 (by decide) ?_
    exact k_zret (ws := [kO a0 2 [.int (nI sd), .ref a1, .ref a2, .ref a3, .ref a4, .int (nI sp), .int (nI td), .int (nI md), .int (nI ot)], kC G a1 60 (nR pf), kC G a2 60 (nR kf), kC G a3 20 (nR cf), kC G a4 20 (nR nf)]) (()) hx hb hr rfl hlocks hP hD hS hAe hQ (Nat.le_of_ble_eq_true rfl) (Nat.le_of_ble_eq_true rfl) dX2_isHalfDone_14 (rfl) (Or.inl ⟨rfl, by omega⟩)
set_option maxHeartbeats 4000000 in
set_option maxRecDepth 100000 in
theorem c_hasWork (l : Launch) (G : kG) (a0 : Nat) (a1 : Nat) (a2 : Nat) (a3 : Nat) (a4 : Nat) (sd : Nat) (pf : Nat → Nat) (kf : Nat → Nat) (cf : Nat → Nat) (nf : Nat → Nat) (sp : Nat) (td : Nat) (md : Nat) (ot : Nat) (wt : td ≤ 20) (wm : md ≤ 60) : kM l G yX2_hasWork wsX2_hasWork ({ frames := 1, cells := 0, slots := 0, locals := 20 } : Room) [.ref a0] [kO a0 2 [.int (nI sd), .ref a1, .ref a2, .ref a3, .ref a4, .int (nI sp), .int (nI td), .int (nI md), .int (nI ot)], kC G a1 60 (nR pf), kC G a2 60 (nR kf), kC G a3 20 (nR cf), kC G a4 20 (nR nf)] (kQi G [kO a0 2 [.int (nI sd), .ref a1, .ref a2, .ref a3, .ref a4, .int (nI sp), .int (nI td), .int (nI md), .int (nI ot)], kC G a1 60 (nR pf), kC G a2 60 (nR kf), kC G a3 20 (nR cf), kC G a4 20 (nR nf)] (fun (r : Int32) (_ : Unit) => (r = nI 1 ∧ (0 < td ∧ md < 60)) ∨ (r = nI 0 ∧ ¬ (0 < td ∧ md < 60))) (fun (_ : Unit) => [kO a0 2 [.int (nI sd), .ref a1, .ref a2, .ref a3, .ref a4, .int (nI sp), .int (nI td), .int (nI md), .int (nI ot)], kC G a1 60 (nR pf), kC G a2 60 (nR kf), kC G a3 20 (nR cf), kC G a4 20 (nR nf)])) := by
  refine k_ofW (cc := cX2_hasWork) (maxL := 1) (rt := (some .boolean)) (by decide) rfl (Nat.le_of_ble_eq_true rfl) ?_
  intro p e s m args below meth c A ls Qs H locs hQ hAe hx hb hr hml hts hown hlocks hin hK hZ hP hD hS hA hl
  have hown : s.vm.findClass RX2 = some m.cls := hown
  have hl : lv_has ls 1 [(0, .ref a0)] := hl
  have hq_0 : ∀ w ∈ wsX20, w ∈ wsX2_hasWork := by decide +kernel
  have hq_1 : (Cond.fieldLink RX2 28 "KnotRugs$Weaver" "told" "I").before args s = true := hts _ (by decide +kernel)
  refine lv_aload_n hx hb dX2_hasWork_0 rfl (lv_at hl 0 rfl) ?_
  refine va_get (D := G.1) (ci := 2) (v := .int (nI td)) (C := RX2) (T := TX2) (N := 9) hx hb hts hq_0 hown hK.1 hP 0 rfl rfl 6 (by decide) hq_1 (fun _ h9 => h9) rfl dX2_hasWork_1 ?_
  refine lv_if_le (tgt := 18) hx hb dX2_hasWork_4 (by decide) (fun c_4 => ?_) (fun c_4 => ?_)
  · have c_4 : td = 0 := (k_le0 (a := td) (by omega)).mp c_4
    refine lv_iconst (v := nI 0) hx hb dX2_hasWork_18 (by decide) ?_
    exact k_zret (ws := [kO a0 2 [.int (nI sd), .ref a1, .ref a2, .ref a3, .ref a4, .int (nI sp), .int (nI td), .int (nI md), .int (nI ot)], kC G a1 60 (nR pf), kC G a2 60 (nR kf), kC G a3 20 (nR cf), kC G a4 20 (nR nf)]) (()) hx hb hr rfl hlocks hP hD hS hAe hQ (Nat.le_of_ble_eq_true rfl) (Nat.le_of_ble_eq_true rfl) dX2_hasWork_19 (rfl) (Or.inr ⟨rfl, by omega⟩)
  · have c_4 : ¬ (td = 0) := fun h9 => c_4 ((k_le0 (a := td) (by omega)).mpr h9)
    refine lv_aload_n hx hb dX2_hasWork_7 rfl (lv_at hl 0 rfl) ?_
    refine k_calli (fun u_8 => [kO a0 2 [.int (nI sd), .ref a1, .ref a2, .ref a3, .ref a4, .int (nI sp), .int (nI td), .int (nI md), .int (nI ot)], kC G a1 60 (nR pf), kC G a2 60 (nR kf), kC G a3 20 (nR cf), kC G a4 20 (nR nf)]) [] (k_runV (As := []) (rest := []) (wc := [kO a0 2 [.int (nI sd), .ref a1, .ref a2, .ref a3, .ref a4, .int (nI sp), .int (nI td), .int (nI md), .int (nI ot)], kC G a1 60 (nR pf), kC G a2 60 (nR kf), kC G a3 20 (nR cf), kC G a4 20 (nR nf)]) ⟨hx, hb, hml, hown, hts⟩ (c_isHalfDone l G a0 a1 a2 a3 a4 sd pf kf cf nf sp td md ot wm) (cwV 0 hts gX2_hasWork_X2_isHalfDone rfl rfl rfl (by decide +kernel) ⟨Nat.le_of_ble_eq_true rfl, Nat.le_of_ble_eq_true rfl⟩) hK hZ hP hD hS hA [0, 1, 2, 3, 4] rfl rfl 0 2 rfl rfl rfl rfl hl.1 rfl (Nat.le_of_ble_eq_true rfl) dX2_hasWork_8 ⟨Nat.le_of_ble_eq_true rfl, Nat.le_of_ble_eq_true rfl⟩) hP hD hS hA [0, 1, 2, 3, 4] [] [0, 1, 2, 3, 4] rfl rfl rfl (by decide) (fun _ => rfl) rfl (fun r_8 u_8 H locs hp_8 hP hD hS => ?_)
    rcases hp_8 with ⟨rfl, hp_8⟩ | ⟨rfl, hp_8⟩
    · refine lv_if_ne (tgt := 18) hx hb dX2_hasWork_11 (by decide) (fun c_11 => ?_) (fun c_11 => absurd c_11 (by decide))
      refine lv_iconst (v := nI 0) hx hb dX2_hasWork_18 (by decide) ?_
      exact k_zret (ws := [kO a0 2 [.int (nI sd), .ref a1, .ref a2, .ref a3, .ref a4, .int (nI sp), .int (nI td), .int (nI md), .int (nI ot)], kC G a1 60 (nR pf), kC G a2 60 (nR kf), kC G a3 20 (nR cf), kC G a4 20 (nR nf)]) (()) hx hb hr rfl hlocks hP hD hS hAe hQ (Nat.le_of_ble_eq_true rfl) (Nat.le_of_ble_eq_true rfl) dX2_hasWork_19 (rfl) (Or.inr ⟨rfl, by omega⟩)
    · refine lv_if_ne (tgt := 18) hx hb dX2_hasWork_11 (by decide) (fun c_11 => absurd c_11 (by decide)) (fun c_11 => ?_)
      refine lv_iconst (v := nI 1) hx hb dX2_hasWork_14 (by decide) ?_
      refine lv_goto (tgt := 19) hx hb dX2_hasWork_15 (by decide) ?_
      exact k_zret (ws := [kO a0 2 [.int (nI sd), .ref a1, .ref a2, .ref a3, .ref a4, .int (nI sp), .int (nI td), .int (nI md), .int (nI ot)], kC G a1 60 (nR pf), kC G a2 60 (nR kf), kC G a3 20 (nR cf), kC G a4 20 (nR nf)]) (()) hx hb hr rfl hlocks hP hD hS hAe hQ (Nat.le_of_ble_eq_true rfl) (Nat.le_of_ble_eq_true rfl) dX2_hasWork_19 (rfl) (Or.inl ⟨rfl, by omega⟩)
set_option maxHeartbeats 4000000 in
set_option maxRecDepth 100000 in
theorem c_rowsDone (l : Launch) (G : kG) (a0 : Nat) (a1 : Nat) (a2 : Nat) (a3 : Nat) (a4 : Nat) (sd : Nat) (pf : Nat → Nat) (kf : Nat → Nat) (cf : Nat → Nat) (nf : Nat → Nat) (sp : Nat) (td : Nat) (md : Nat) (ot : Nat) (wm : md ≤ 60) : kM l G yX2_rowsDone wsX2_rowsDone ({ frames := 0, cells := 0, slots := 0, locals := 0 } : Room) [.ref a0] [kO a0 2 [.int (nI sd), .ref a1, .ref a2, .ref a3, .ref a4, .int (nI sp), .int (nI td), .int (nI md), .int (nI ot)], kC G a1 60 (nR pf), kC G a2 60 (nR kf), kC G a3 20 (nR cf), kC G a4 20 (nR nf)] (kQi G [kO a0 2 [.int (nI sd), .ref a1, .ref a2, .ref a3, .ref a4, .int (nI sp), .int (nI td), .int (nI md), .int (nI ot)], kC G a1 60 (nR pf), kC G a2 60 (nR kf), kC G a3 20 (nR cf), kC G a4 20 (nR nf)] (fun (r : Int32) (_ : Unit) => r = nI (md / 6)) (fun (_ : Unit) => [kO a0 2 [.int (nI sd), .ref a1, .ref a2, .ref a3, .ref a4, .int (nI sp), .int (nI td), .int (nI md), .int (nI ot)], kC G a1 60 (nR pf), kC G a2 60 (nR kf), kC G a3 20 (nR cf), kC G a4 20 (nR nf)])) := by
  refine k_ofW (cc := cX2_rowsDone) (maxL := 1) (rt := (some .int)) (by decide) rfl (Nat.le_of_ble_eq_true rfl) ?_
  intro p e s m args below meth c A ls Qs H locs hQ hAe hx hb hr hml hts hown hlocks hin hK hZ hP hD hS hA hl
  have hown : s.vm.findClass RX2 = some m.cls := hown
  have hl : lv_has ls 1 [(0, .ref a0)] := hl
  have hq_0 : ∀ w ∈ wsX20, w ∈ wsX2_rowsDone := by decide +kernel
  have hq_1 : (Cond.fieldLink RX2 31 "KnotRugs$Weaver" "made" "I").before args s = true := hts _ (by decide +kernel)
  refine lv_aload_n hx hb dX2_rowsDone_0 rfl (lv_at hl 0 rfl) ?_
  refine va_get (D := G.1) (ci := 2) (v := .int (nI md)) (C := RX2) (T := TX2) (N := 9) hx hb hts hq_0 hown hK.1 hP 0 rfl rfl 7 (by decide) hq_1 (fun _ h9 => h9) rfl dX2_rowsDone_1 ?_
  refine lv_bipush (v := nI 6) hx hb dX2_rowsDone_4 (by decide) ?_
  refine lv_idiv hx hb dX2_rowsDone_6 (by first | decide | (intro h; exact absurd ((nI_eq (by omega) (by omega)).mp h) (by omega))) ?_
  refine lv_topi (fun y_1 hy_1 => ?_)
  obtain rfl : y_1 = nI (md / 6) := hy_1.trans (pk_div (a := md) (d := 6) (by omega) (by omega) (by omega))
  exact k_iret (ws := [kO a0 2 [.int (nI sd), .ref a1, .ref a2, .ref a3, .ref a4, .int (nI sp), .int (nI td), .int (nI md), .int (nI ot)], kC G a1 60 (nR pf), kC G a2 60 (nR kf), kC G a3 20 (nR cf), kC G a4 20 (nR nf)]) (()) hx hb hr hlocks hP hD hS hAe hQ (Nat.le_of_ble_eq_true rfl) (Nat.le_of_ble_eq_true rfl) dX2_rowsDone_7 (rfl) (rfl)
set_option maxHeartbeats 4000000 in
set_option maxRecDepth 100000 in
theorem c_addRun (l : Launch) (G : kG) (a0 : Nat) (a1 : Nat) (a2 : Nat) (a3 : Nat) (a4 : Nat) (sd : Nat) (pf : Nat → Nat) (kf : Nat → Nat) (cf : Nat → Nat) (nf : Nat → Nat) (sp : Nat) (td : Nat) (md : Nat) (ot : Nat) (x : Nat) (k : Nat) (ht : td < 20) : kM l G yX2_addRun wsX2_addRun ({ frames := 1, cells := 0, slots := 0, locals := 22 } : Room) [.ref a0, .int (nI x), .int (nI k)] [kO a0 2 [.int (nI sd), .ref a1, .ref a2, .ref a3, .ref a4, .int (nI sp), .int (nI td), .int (nI md), .int (nI ot)], kC G a1 60 (nR pf), kC G a2 60 (nR kf), kC G a3 20 (nR cf), kC G a4 20 (nR nf)] (kQv G [kO a0 2 [.int (nI sd), .ref a1, .ref a2, .ref a3, .ref a4, .int (nI sp), .int (nI td), .int (nI md), .int (nI ot)], kC G a1 60 (nR pf), kC G a2 60 (nR kf), kC G a3 20 (nR cf), kC G a4 20 (nR nf)] (fun (_ : Unit) => True) (fun (_ : Unit) => [kO a0 2 [.int (nI sd), .ref a1, .ref a2, .ref a3, .ref a4, .int (nI sp), .int (nI (td + 1)), .int (nI md), .int (nI ot)], kC G a1 60 (nR pf), kC G a2 60 (nR kf), kC G a3 20 (nR (updN cf td x)), kC G a4 20 (nR (updN nf td k))])) := by
  refine k_ofW (cc := cX2_addRun) (maxL := 3) (rt := none) (by decide) rfl (Nat.le_of_ble_eq_true rfl) ?_
  intro p e s m args below meth c A ls Qs H locs hQ hAe hx hb hr hml hts hown hlocks hin hK hZ hP hD hS hA hl
  have hown : s.vm.findClass RX2 = some m.cls := hown
  have hl : lv_has ls 3 [(0, .ref a0), (1, .int (nI x)), (2, .int (nI k))] := hl
  have hq_0 : ∀ w ∈ wsX20, w ∈ wsX2_addRun := by decide +kernel
  have hq_1 : (Cond.fieldLink RX2 18 "KnotRugs$Weaver" "toldColours" "[I").before args s = true := hts _ (by decide +kernel)
  have hq_2 : (Cond.fieldLink RX2 28 "KnotRugs$Weaver" "told" "I").before args s = true := hts _ (by decide +kernel)
  have hq_3 : va_Nw (.methodLinkNest RX2 48 yX3_put RX3) s := hK.2.1 (RX2, 48, yX3_put) (List.mem_of_getElem? (i := 9) rfl)
  have hq_4 : (Cond.initialized RX3).before args s = true := hts _ (by decide +kernel)
  have hq_5 : (Cond.static yX3_put).before args s = true := hts _ (by decide +kernel)
  have hq_6 : (Cond.fieldLink RX2 21 "KnotRugs$Weaver" "toldKnots" "[I").before args s = true := hts _ (by decide +kernel)
  refine lv_aload_n hx hb dX2_addRun_0 rfl (lv_at hl 0 rfl) ?_
  refine va_get (D := G.1) (ci := 2) (v := .ref a3) (C := RX2) (T := TX2) (N := 9) hx hb hts hq_0 hown hK.1 hP 0 rfl rfl 3 (by decide) hq_1 (fun _ h9 => h9) rfl dX2_addRun_1 ?_
  refine lv_aload_n hx hb dX2_addRun_4 rfl (lv_at hl 0 rfl) ?_
  refine va_get (D := G.1) (ci := 2) (v := .int (nI td)) (C := RX2) (T := TX2) (N := 9) hx hb hts hq_0 hown hK.1 hP 0 rfl rfl 6 (by decide) hq_2 (fun _ h9 => h9) rfl dX2_addRun_5 ?_
  refine lv_iload_n hx hb dX2_addRun_8 rfl (lv_at hl 1 rfl) ?_
  refine k_callv (fun _ => [kO a0 2 [.int (nI sd), .ref a1, .ref a2, .ref a3, .ref a4, .int (nI sp), .int (nI td), .int (nI md), .int (nI ot)], kC G a1 60 (nR pf), kC G a2 60 (nR kf), kC G a3 20 (nR (updN cf td x)), kC G a4 20 (nR nf)]) [kO a0 2 [.int (nI sd), .ref a1, .ref a2, .ref a3, .ref a4, .int (nI sp), .int (nI td), .int (nI md), .int (nI ot)], kC G a1 60 (nR pf), kC G a2 60 (nR kf), kC G a4 20 (nR nf)] (k_runSN (As := [.ref a3, .int (nI td), .int (nI x)]) (rest := []) (wc := [kC G a3 20 (nR cf)]) ⟨hx, hb, hml, hown, hts⟩ (c_put l G a3 20 cf td x ht (by decide)) ⟨va_cnB (host := RX3) (index := 48) (own := RX2) 3 hts gX2_addRun_X3_put_n48 rfl rfl rfl hq_3 hq_4 (by decide +kernel) ⟨Nat.le_of_ble_eq_true rfl, Nat.le_of_ble_eq_true rfl⟩, hq_5, trivial⟩ hK hZ hP hD hS hA [3] rfl rfl rfl hl.1 rfl (Nat.le_of_ble_eq_true rfl) dX2_addRun_9 ⟨Nat.le_of_ble_eq_true rfl, Nat.le_of_ble_eq_true rfl⟩) hP hD hS hA [3] [0, 1, 2, 4] [0, 1, 2, 4, 3] rfl rfl rfl (by decide) (fun _ => rfl) rfl (fun u_9 H locs hp_9 hP hD hS => ?_)
  refine lv_aload_n hx hb dX2_addRun_12 rfl (lv_at hl 0 rfl) ?_
  refine va_get (D := G.1) (ci := 2) (v := .ref a4) (C := RX2) (T := TX2) (N := 9) hx hb hts hq_0 hown hK.1 hP 0 rfl rfl 4 (by decide) hq_6 (fun _ h9 => h9) rfl dX2_addRun_13 ?_
  refine lv_aload_n hx hb dX2_addRun_16 rfl (lv_at hl 0 rfl) ?_
  refine va_get (D := G.1) (ci := 2) (v := .int (nI td)) (C := RX2) (T := TX2) (N := 9) hx hb hts hq_0 hown hK.1 hP 0 rfl rfl 6 (by decide) hq_2 (fun _ h9 => h9) rfl dX2_addRun_17 ?_
  refine lv_iload_n hx hb dX2_addRun_20 rfl (lv_at hl 2 rfl) ?_
  refine k_callv (fun _ => [kO a0 2 [.int (nI sd), .ref a1, .ref a2, .ref a3, .ref a4, .int (nI sp), .int (nI td), .int (nI md), .int (nI ot)], kC G a1 60 (nR pf), kC G a2 60 (nR kf), kC G a3 20 (nR (updN cf td x)), kC G a4 20 (nR (updN nf td k))]) [kO a0 2 [.int (nI sd), .ref a1, .ref a2, .ref a3, .ref a4, .int (nI sp), .int (nI td), .int (nI md), .int (nI ot)], kC G a1 60 (nR pf), kC G a2 60 (nR kf), kC G a3 20 (nR (updN cf td x))] (k_runSN (As := [.ref a4, .int (nI td), .int (nI k)]) (rest := []) (wc := [kC G a4 20 (nR nf)]) ⟨hx, hb, hml, hown, hts⟩ (c_put l G a4 20 nf td k ht (by decide)) ⟨va_cnB (host := RX3) (index := 48) (own := RX2) 3 hts gX2_addRun_X3_put_n48 rfl rfl rfl hq_3 hq_4 (by decide +kernel) ⟨Nat.le_of_ble_eq_true rfl, Nat.le_of_ble_eq_true rfl⟩, hq_5, trivial⟩ hK hZ hP hD hS hA [4] rfl rfl rfl hl.1 rfl (Nat.le_of_ble_eq_true rfl) dX2_addRun_21 ⟨Nat.le_of_ble_eq_true rfl, Nat.le_of_ble_eq_true rfl⟩) hP hD hS hA [4] [0, 1, 2, 3] [0, 1, 2, 3, 4] rfl rfl rfl (by decide) (fun _ => rfl) rfl (fun u_21 H locs hp_21 hP hD hS => ?_)
  refine lv_aload_n hx hb dX2_addRun_24 rfl (lv_at hl 0 rfl) ?_
  refine lv_dup hx hb dX2_addRun_25 rfl ?_
  refine va_get (D := G.1) (ci := 2) (v := .int (nI td)) (C := RX2) (T := TX2) (N := 9) hx hb hts hq_0 hown hK.1 hP 0 rfl rfl 6 (by decide) hq_2 (fun _ h9 => h9) rfl dX2_addRun_26 ?_
  refine lv_iconst (v := nI 1) hx hb dX2_addRun_29 (by decide) ?_
  refine lv_iadd hx hb dX2_addRun_30 ?_
  refine lv_topi (fun y_1 hy_1 => ?_)
  obtain rfl : y_1 = nI (td + 1) := hy_1.trans (nI_add td 1)
  refine va_put (D := G.1) (ci := 2) (v := .int (nI (td + 1))) (ty := .int) (C := RX2) (T := TX2) (N := 9) hx hb hts hq_0 tyX2 tyX2_ok nmX2 hown hK.1 hP hD hS 0 rfl rfl 6 (by decide) hq_2 (fun _ h9 => h9) rfl (by decide +kernel) rfl rfl (Nat.le_of_ble_eq_true rfl) dX2_addRun_31 (fun H locs hP hD hS => ?_)
  have hP : va_P G.1 vwCl [kO a0 2 [.int (nI sd), .ref a1, .ref a2, .ref a3, .ref a4, .int (nI sp), .int (nI (td + 1)), .int (nI md), .int (nI ot)], kC G a1 60 (nR pf), kC G a2 60 (nR kf), kC G a3 20 (nR (updN cf td x)), kC G a4 20 (nR (updN nf td k))] H := hP
  have hD : va_D A [kO a0 2 [.int (nI sd), .ref a1, .ref a2, .ref a3, .ref a4, .int (nI sp), .int (nI (td + 1)), .int (nI md), .int (nI ot)], kC G a1 60 (nR pf), kC G a2 60 (nR kf), kC G a3 20 (nR (updN cf td x)), kC G a4 20 (nR (updN nf td k))] := hD
  exact k_vret (ws := [kO a0 2 [.int (nI sd), .ref a1, .ref a2, .ref a3, .ref a4, .int (nI sp), .int (nI td), .int (nI md), .int (nI ot)], kC G a1 60 (nR pf), kC G a2 60 (nR kf), kC G a3 20 (nR cf), kC G a4 20 (nR nf)]) (()) hx hb hr hlocks hP hD hS hAe hQ (Nat.le_of_ble_eq_true rfl) (Nat.le_of_ble_eq_true rfl) dX2_addRun_34 (rfl) (trivial)
set_option maxHeartbeats 4000000 in
set_option maxRecDepth 100000 in
theorem c_toldInAll (l : Launch) (G : kG) (a0 : Nat) (a1 : Nat) (a2 : Nat) (a3 : Nat) (a4 : Nat) (sd : Nat) (pf : Nat → Nat) (kf : Nat → Nat) (cf : Nat → Nat) (nf : Nat → Nat) (sp : Nat) (td : Nat) (md : Nat) (ot : Nat) (wt : td ≤ 20) : kM l G yX2_toldInAll wsX2_toldInAll ({ frames := 1, cells := 0, slots := 0, locals := 21 } : Room) [.ref a0] [kO a0 2 [.int (nI sd), .ref a1, .ref a2, .ref a3, .ref a4, .int (nI sp), .int (nI td), .int (nI md), .int (nI ot)], kC G a1 60 (nR pf), kC G a2 60 (nR kf), kC G a3 20 (nR cf), kC G a4 20 (nR nf)] (kQi G [kO a0 2 [.int (nI sd), .ref a1, .ref a2, .ref a3, .ref a4, .int (nI sp), .int (nI td), .int (nI md), .int (nI ot)], kC G a1 60 (nR pf), kC G a2 60 (nR kf), kC G a3 20 (nR cf), kC G a4 20 (nR nf)] (fun (r : Int32) (_ : Unit) => r = nI (sumN nf td)) (fun (_ : Unit) => [kO a0 2 [.int (nI sd), .ref a1, .ref a2, .ref a3, .ref a4, .int (nI sp), .int (nI td), .int (nI md), .int (nI ot)], kC G a1 60 (nR pf), kC G a2 60 (nR kf), kC G a3 20 (nR cf), kC G a4 20 (nR nf)])) := by
  refine k_ofW (cc := cX2_toldInAll) (maxL := 3) (rt := (some .int)) (by decide) rfl (Nat.le_of_ble_eq_true rfl) ?_
  intro p e s m args below meth c A ls Qs H locs hQ hAe hx hb hr hml hts hown hlocks hin hK hZ hP hD hS hA hl
  have hown : s.vm.findClass RX2 = some m.cls := hown
  have hl : lv_has ls 3 [(0, .ref a0)] := hl
  have hq_0 : ∀ w ∈ wsX20, w ∈ wsX2_toldInAll := by decide +kernel
  have hq_1 : (Cond.fieldLink RX2 28 "KnotRugs$Weaver" "told" "I").before args s = true := hts _ (by decide +kernel)
  have hq_2 : (Cond.fieldLink RX2 21 "KnotRugs$Weaver" "toldKnots" "[I").before args s = true := hts _ (by decide +kernel)
  have hq_3 : va_Nw (.methodLinkNest RX2 44 yX3_at RX3) s := hK.2.1 (RX2, 44, yX3_at) (List.mem_of_getElem? (i := 8) rfl)
  have hq_4 : (Cond.initialized RX3).before args s = true := hts _ (by decide +kernel)
  have hq_5 : (Cond.static yX3_at).before args s = true := hts _ (by decide +kernel)
  refine lv_iconst (v := nI 0) hx hb dX2_toldInAll_0 (by decide) ?_
  refine lv_istore_n (lv' := [(1, .int (nI 0)), (0, .ref a0)]) hx hb dX2_toldInAll_1 rfl hl (by decide) rfl (fun ls hl => ?_)
  refine lv_iconst (v := nI 0) hx hb dX2_toldInAll_2 (by decide) ?_
  refine lv_istore_n (lv' := [(2, .int (nI 0)), (1, .int (nI 0)), (0, .ref a0)]) hx hb dX2_toldInAll_3 rfl hl (by decide) rfl (fun ls hl => ?_)
  have loop_4 : ∀ (fu_4 : Nat) (i : Nat), i ≤ td → td < i + fu_4 → ∀ (H : Heap) (locs : List Loc) (ls : Array Slot), va_P G.1 vwCl [kO a0 2 [.int (nI sd), .ref a1, .ref a2, .ref a3, .ref a4, .int (nI sp), .int (nI td), .int (nI md), .int (nI ot)], kC G a1 60 (nR pf), kC G a2 60 (nR kf), kC G a3 20 (nR cf), kC G a4 20 (nR nf)] H → va_D A [kO a0 2 [.int (nI sd), .ref a1, .ref a2, .ref a3, .ref a4, .int (nI sp), .int (nI td), .int (nI md), .int (nI ot)], kC G a1 60 (nR pf), kC G a2 60 (nR kf), kC G a3 20 (nR cf), kC G a4 20 (nR nf)] → va_S A s.heap H locs → lv_has ls 3 [(0, .ref a0), (1, .int (nI (sumN nf i))), (2, .int (nI i))] → W p l e ({ frames := 1, cells := 0, slots := 0, locals := 21 } : Room) s m args below meth c H locs 0 0 Qs (F0 m 4 ls []) := by
    intro fu_4
    induction fu_4 with
    | zero =>
      intro i hi hf
      exact absurd hf (by omega)
    | succ fu_4 ih_4 =>
      intro i hi hf H locs ls hP hD hS hl
      refine lv_iload_n hx hb dX2_toldInAll_4 rfl (lv_at hl 2 rfl) ?_
      refine lv_aload_n hx hb dX2_toldInAll_5 rfl (lv_at hl 0 rfl) ?_
      refine va_get (D := G.1) (ci := 2) (v := .int (nI td)) (C := RX2) (T := TX2) (N := 9) hx hb hts hq_0 hown hK.1 hP 0 rfl rfl 6 (by decide) hq_1 (fun _ h9 => h9) rfl dX2_toldInAll_6 ?_
      refine lv_icmp_ge (tgt := 29) hx hb dX2_toldInAll_9 (by decide) (fun c_9 => ?_) (fun c_9 => ?_)
      · have c_9 : td ≤ i := (nI_leI (a := td) (b := i) (by omega) (by omega)).mp c_9
        have hi9 : i = td := by omega
        refine lv_iload_n hx hb dX2_toldInAll_29 rfl (lv_at hl 1 rfl) ?_
        exact k_iret (ws := [kO a0 2 [.int (nI sd), .ref a1, .ref a2, .ref a3, .ref a4, .int (nI sp), .int (nI td), .int (nI md), .int (nI ot)], kC G a1 60 (nR pf), kC G a2 60 (nR kf), kC G a3 20 (nR cf), kC G a4 20 (nR nf)]) (()) hx hb hr hlocks hP hD hS hAe hQ (Nat.le_of_ble_eq_true rfl) (Nat.le_of_ble_eq_true rfl) dX2_toldInAll_30 (rfl) (by rw [hi9])
      · have c_9 : ¬ (td ≤ i) := fun h9 => c_9 ((nI_leI (a := td) (b := i) (by omega) (by omega)).mpr h9)
        refine lv_iload_n hx hb dX2_toldInAll_12 rfl (lv_at hl 1 rfl) ?_
        refine lv_aload_n hx hb dX2_toldInAll_13 rfl (lv_at hl 0 rfl) ?_
        refine va_get (D := G.1) (ci := 2) (v := .ref a4) (C := RX2) (T := TX2) (N := 9) hx hb hts hq_0 hown hK.1 hP 0 rfl rfl 4 (by decide) hq_2 (fun _ h9 => h9) rfl dX2_toldInAll_14 ?_
        refine lv_iload_n hx hb dX2_toldInAll_17 rfl (lv_at hl 2 rfl) ?_
        refine k_calli (fun _ => [kO a0 2 [.int (nI sd), .ref a1, .ref a2, .ref a3, .ref a4, .int (nI sp), .int (nI td), .int (nI md), .int (nI ot)], kC G a1 60 (nR pf), kC G a2 60 (nR kf), kC G a3 20 (nR cf), kC G a4 20 (nR nf)]) [kO a0 2 [.int (nI sd), .ref a1, .ref a2, .ref a3, .ref a4, .int (nI sp), .int (nI td), .int (nI md), .int (nI ot)], kC G a1 60 (nR pf), kC G a2 60 (nR kf), kC G a3 20 (nR cf)] (k_runSN (As := [.ref a4, .int (nI i)]) (rest := [.int (nI (sumN nf i))]) (wc := [kC G a4 20 (nR nf)]) ⟨hx, hb, hml, hown, hts⟩ (c_at l G a4 20 nf i (by omega) (by decide)) ⟨va_cnB (host := RX3) (index := 44) (own := RX2) 2 hts gX2_toldInAll_X3_at_n44 rfl rfl rfl hq_3 hq_4 (by decide +kernel) ⟨Nat.le_of_ble_eq_true rfl, Nat.le_of_ble_eq_true rfl⟩, hq_5, trivial⟩ hK hZ hP hD hS hA [4] rfl rfl rfl hl.1 rfl (Nat.le_of_ble_eq_true rfl) dX2_toldInAll_18 ⟨Nat.le_of_ble_eq_true rfl, Nat.le_of_ble_eq_true rfl⟩) hP hD hS hA [4] [0, 1, 2, 3] [0, 1, 2, 3, 4] rfl rfl rfl (by decide) (fun _ => rfl) rfl (fun r_18 u_18 H locs hp_18 hP hD hS => ?_)
        have hp_18 : r_18 = nI (nf i) := hp_18
        subst hp_18
        refine lv_iadd hx hb dX2_toldInAll_21 ?_
        refine lv_topi (fun y_1 hy_1 => ?_)
        obtain rfl : y_1 = nI ((sumN nf i) + (nf i)) := hy_1.trans (nI_add (sumN nf i) (nf i))
        refine lv_istore_n (lv' := [(1, .int (nI ((sumN nf i) + (nf i)))), (0, .ref a0), (2, .int (nI i))]) hx hb dX2_toldInAll_22 rfl hl (by decide) rfl (fun ls hl => ?_)
        refine lv_iinc (v := nI (i + 1)) (lv' := [(2, .int (nI (i + 1))), (1, .int (nI ((sumN nf i) + (nf i)))), (0, .ref a0)]) hx hb dX2_toldInAll_23 hl (k := 2) rfl (nI_add i 1) (by decide) rfl (fun ls hl => ?_)
        refine lv_goto (tgt := 4) hx hb dX2_toldInAll_26 (by decide) ?_
        exact ih_4 (i + 1) (by omega) (by omega) _ _ _ hP hD hS (lv_sub hl [2, 1, 0] rfl)
  exact loop_4 (td + 1) 0 (by omega) (by omega) H locs ls hP hD hS (lv_sub hl [2, 1, 0] rfl)
