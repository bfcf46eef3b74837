set_option maxHeartbeats 4000000 in
set_option maxRecDepth 100000 in
theorem c_X0init (l : Launch) (G : kG) (a0 : Nat)  : kM l G yX0_init wsX0_init ({ frames := 1, cells := 1, slots := 8, locals := 12 } : Room) [.ref a0] [kO a0 0 [.null]] (kQv G [kO a0 0 [.null]] (fun (_ : Nat) => True) (fun (u : Nat) => [kO a0 0 [.ref u], kC G u 8 (nR bIni)])) := by
  refine k_ofW (cc := cX0_init) (maxL := 2) (rt := none) (by decide) rfl (Nat.le_of_ble_eq_true rfl) ?_
  intro p e s m args below meth c A ls Qs H locs hQ hAe hx hb hr hml hts hown hlocks hin hK hZ hP hD hS hA hl
  have hown : s.vm.findClass RX0 = some m.cls := hown
  have hl : lv_has ls 2 [(0, .ref a0)] := hl
  have hq_0 : (Cond.methodLink RX0 3 objectInit).before args s = true := hts _ (by decide +kernel)
  have hq_1 : (Cond.instanceMethod objectInit).before args s = true := hts _ (by decide +kernel)
  have hq_2 : (Cond.code objectInit ⟨#[0xb1]⟩ 1 none).before args s = true := hts _ (by decide +kernel)
  have hq_3 : (Cond.arrayClass .int).before args s = true := hts _ (by decide +kernel)
  have hq_4 : ∀ w ∈ wsX00, w ∈ wsX0_init := by decide +kernel
  have hq_5 : (Cond.fieldLink RX0 9 "KnotRugs$Baskets" "left" "[I").before args s = true := hts _ (by decide +kernel)
  refine lv_aload_n hx hb dX0_init_0 rfl (lv_at hl 0 rfl) ?_
  refine W.objInit hx hb hown hq_0 hq_1 hq_2 rfl (by rw [hml]; exact hl.1) rfl dX0_init_1 (Nat.le_of_ble_eq_true rfl) (Nat.le_of_ble_eq_true rfl) ?_
  refine W.eq (g2 := F0 m 4 ls []) rfl ?_
  refine lv_aload_n hx hb dX0_init_4 rfl (lv_at hl 0 rfl) ?_
  refine lv_bipush (v := nI 8) hx hb dX0_init_5 (by decide) ?_
  refine k_newi hx hb hq_3 hK hP hD hS hA (N' := 8) (by decide) (by decide) (by decide) (Nat.le_of_ble_eq_true rfl) (Nat.le_of_ble_eq_true rfl) dX0_init_7 (fun g_7 H hP hD hS => ?_)
  have hP : va_P G.1 vwCl [kO a0 0 [.null], kC G g_7 8 (nR (fun _ => 0))] H := hP
  have hD : va_D A [kO a0 0 [.null], kC G g_7 8 (nR (fun _ => 0))] := hD
  refine va_putF (D := G.1) (ci := 0) (v := .ref g_7) (ty := .array .int) (C := RX0) (T := TX0) (N := 1) hx hb hts hq_4 tyX0 tyX0_ok nmX0 hown hK.1 hP hD hS 0 rfl rfl 0 (by decide) hq_5 (fun _ h9 => h9) rfl hin rfl (by decide +kernel) rfl rfl (Nat.le_of_ble_eq_true rfl) dX0_init_9 (fun H locs hP hD hS => ?_)
  have hP : va_P G.1 vwCl [kO a0 0 [.ref g_7], kC G g_7 8 (nR (fun _ => 0))] H := hP
  have hD : va_D A [kO a0 0 [.ref g_7], kC G g_7 8 (nR (fun _ => 0))] := hD
  refine lv_iconst (v := nI 0) hx hb dX0_init_12 (by decide) ?_
  refine lv_istore_n (lv' := [(1, .int (nI 0)), (0, .ref a0)]) hx hb dX0_init_13 rfl hl (by decide) rfl (fun ls hl => ?_)
  have loop_14 : ∀ (fu_14 : Nat) (i : Nat), i ≤ 8 → 8 < i + fu_14 → ∀ (H : Heap) (locs : List Loc) (ls : Array Slot), va_P G.1 vwCl [kO a0 0 [.ref g_7], kC G g_7 8 (nR (bcN i))] H → va_D A [kO a0 0 [.ref g_7], kC G g_7 8 (nR (bcN i))] → va_S A s.heap H locs → lv_has ls 2 [(0, .ref a0), (1, .int (nI i))] → W p l e ({ frames := 1, cells := 1, slots := 8, locals := 12 } : Room) s m args below meth c H locs 1 8 Qs (F0 m 14 ls []) := by
    intro fu_14
    induction fu_14 with
    | zero =>
      intro i hi hf
      exact absurd hf (by omega)
    | succ fu_14 ih_14 =>
      intro i hi hf H locs ls hP hD hS hl
      refine lv_iload_n hx hb dX0_init_14 rfl (lv_at hl 1 rfl) ?_
      refine lv_aload_n hx hb dX0_init_15 rfl (lv_at hl 0 rfl) ?_
      refine va_get (D := G.1) (ci := 0) (v := .ref g_7) (C := RX0) (T := TX0) (N := 1) hx hb hts hq_4 hown hK.1 hP 0 rfl rfl 0 (by decide) hq_5 (fun _ h9 => h9) rfl dX0_init_16 ?_
      refine va_alen (D := G.1) (v := nI 8) hx hb hK.1 hP 1 0 rfl rfl rfl dX0_init_19 ?_
      refine lv_icmp_ge (tgt := 37) hx hb dX0_init_20 (by decide) (fun c_20 => ?_) (fun c_20 => ?_)
      · have c_20 : 8 ≤ i := (nI_leI (a := 8) (b := i) (by omega) (by omega)).mp c_20
        have h9k : i = 8 := by omega
        rw [h9k] at hP hD
        have hP := kP_swap hP 1 (nR bIni) rfl rfl (fun j hj => bcN_8 hj)
        have hD := kD_swap (e := .inl (G.2.1, 8, .inl (nR bIni))) hD 1 rfl rfl
        have hP : va_P G.1 vwCl [kO a0 0 [.ref g_7], kC G g_7 8 (nR bIni)] H := hP
        have hD : va_D A [kO a0 0 [.ref g_7], kC G g_7 8 (nR bIni)] := hD
        exact k_vret (ws := [kO a0 0 [.null]]) (g_7) hx hb hr hlocks hP hD hS hAe hQ (Nat.le_of_ble_eq_true rfl) (Nat.le_of_ble_eq_true rfl) dX0_init_37 (rfl) (trivial)
      · have c_20 : ¬ (8 ≤ i) := fun h9 => c_20 ((nI_leI (a := 8) (b := i) (by omega) (by omega)).mpr h9)
        refine lv_aload_n hx hb dX0_init_23 rfl (lv_at hl 0 rfl) ?_
        refine va_get (D := G.1) (ci := 0) (v := .ref g_7) (C := RX0) (T := TX0) (N := 1) hx hb hts hq_4 hown hK.1 hP 0 rfl rfl 0 (by decide) hq_5 (fun _ h9 => h9) rfl dX0_init_24 ?_
        refine lv_iload_n hx hb dX0_init_27 rfl (lv_at hl 1 rfl) ?_
        refine lv_bipush (v := nI 30) hx hb dX0_init_28 (by decide) ?_
        have hi_1 : i < 8 := by omega
        refine va_iast (D := G.1) hx hb hK.1 hP hD hS 1 0 rfl rfl (vp_in_nI hi_1 (by omega)) dX0_init_30 (fun H locs hP hD hS => ?_)
        rw [nR_upd (f := (bcN i)) (k := i) (v := 30) (by omega)] at hP hD
        have hP : va_P G.1 vwCl [kO a0 0 [.ref g_7], kC G g_7 8 (nR (updN (bcN i) i 30))] H := hP
        have hD : va_D A [kO a0 0 [.ref g_7], kC G g_7 8 (nR (updN (bcN i) i 30))] := hD
        refine lv_iinc (v := nI (i + 1)) (lv' := [(1, .int (nI (i + 1))), (0, .ref a0)]) hx hb dX0_init_31 hl (k := 1) rfl (nI_add i 1) (by decide) rfl (fun ls hl => ?_)
        refine lv_goto (tgt := 14) hx hb dX0_init_34 (by decide) ?_
        rw [bcN_s] at hP hD
        exact ih_14 (i + 1) (by omega) (by omega) _ _ _ hP hD hS (lv_sub hl [1, 0] rfl)
  rw [bcN_0] at hP hD
  exact loop_14 9 0 (by omega) (by omega) H locs ls hP hD hS (lv_sub hl [1, 0] rfl)
set_option maxHeartbeats 4000000 in
set_option maxRecDepth 100000 in
theorem c_X2init (l : Launch) (G : kG) (a0 : Nat) (sd : Nat)  : kM l G yX2_init wsX2_init ({ frames := 1, cells := 4, slots := 160, locals := 12 } : Room) [.ref a0, .int (nI sd)] [kO a0 2 [.int (nI 0), .null, .null, .null, .null, .int (nI 0), .int (nI 0), .int (nI 0), .int (nI 0)]] (kQv G [kO a0 2 [.int (nI 0), .null, .null, .null, .null, .int (nI 0), .int (nI 0), .int (nI 0), .int (nI 0)]] (fun (_ : Nat × Nat × Nat × Nat) => True) (fun (u : Nat × Nat × Nat × Nat) => [kO a0 2 [.int (nI sd), .ref u.1, .ref u.2.1, .ref u.2.2.1, .ref u.2.2.2, .int (nI 1), .int (nI 0), .int (nI 0), .int (nI 0)], kC G u.1 60 (nR (fun _ => 0)), kC G u.2.1 60 (nR (fun _ => 0)), kC G u.2.2.1 20 (nR (fun _ => 0)), kC G u.2.2.2 20 (nR (fun _ => 0))])) := by
  refine k_ofW (cc := cX2_init) (maxL := 2) (rt := none) (by decide) rfl (Nat.le_of_ble_eq_true rfl) ?_
  intro p e s m args below meth c A ls Qs H locs hQ hAe hx hb hr hml hts hown hlocks hin hK hZ hP hD hS hA hl
  have hown : s.vm.findClass RX2 = some m.cls := hown
  have hl : lv_has ls 2 [(0, .ref a0), (1, .int (nI sd))] := hl
  have hq_0 : (Cond.methodLink RX2 3 objectInit).before args s = true := hts _ (by decide +kernel)
  have hq_1 : (Cond.instanceMethod objectInit).before args s = true := hts _ (by decide +kernel)
  have hq_2 : (Cond.code objectInit ⟨#[0xb1]⟩ 1 none).before args s = true := hts _ (by decide +kernel)
  have hq_3 : (Cond.arrayClass .int).before args s = true := hts _ (by decide +kernel)
  have hq_4 : ∀ w ∈ wsX20, w ∈ wsX2_init := by decide +kernel
  have hq_5 : (Cond.fieldLink RX2 9 "KnotRugs$Weaver" "planned" "[I").before args s = true := hts _ (by decide +kernel)
  have hq_6 : (Cond.fieldLink RX2 15 "KnotRugs$Weaver" "knotted" "[I").before args s = true := hts _ (by decide +kernel)
  have hq_7 : (Cond.fieldLink RX2 18 "KnotRugs$Weaver" "toldColours" "[I").before args s = true := hts _ (by decide +kernel)
  have hq_8 : (Cond.fieldLink RX2 21 "KnotRugs$Weaver" "toldKnots" "[I").before args s = true := hts _ (by decide +kernel)
  have hq_9 : (Cond.fieldLink RX2 24 "KnotRugs$Weaver" "speed" "I").before args s = true := hts _ (by decide +kernel)
  have hq_10 : (Cond.fieldLink RX2 28 "KnotRugs$Weaver" "told" "I").before args s = true := hts _ (by decide +kernel)
  have hq_11 : (Cond.fieldLink RX2 31 "KnotRugs$Weaver" "made" "I").before args s = true := hts _ (by decide +kernel)
  have hq_12 : (Cond.fieldLink RX2 34 "KnotRugs$Weaver" "inAnotherColour" "I").before args s = true := hts _ (by decide +kernel)
  have hq_13 : (Cond.fieldLink RX2 37 "KnotRugs$Weaver" "side" "I").before args s = true := hts _ (by decide +kernel)
  refine lv_aload_n hx hb dX2_init_0 rfl (lv_at hl 0 rfl) ?_
  refine W.objInit hx hb hown hq_0 hq_1 hq_2 rfl (by rw [hml]; exact hl.1) rfl dX2_init_1 (Nat.le_of_ble_eq_true rfl) (Nat.le_of_ble_eq_true rfl) ?_
  refine W.eq (g2 := F0 m 4 ls []) rfl ?_
  refine lv_aload_n hx hb dX2_init_4 rfl (lv_at hl 0 rfl) ?_
  refine lv_bipush (v := nI 60) hx hb dX2_init_5 (by decide) ?_
  refine k_newi hx hb hq_3 hK hP hD hS hA (N' := 60) (by decide) (by decide) (by decide) (Nat.le_of_ble_eq_true rfl) (Nat.le_of_ble_eq_true rfl) dX2_init_7 (fun g_7 H hP hD hS => ?_)
  have hP : va_P G.1 vwCl [kO a0 2 [.int (nI 0), .null, .null, .null, .null, .int (nI 0), .int (nI 0), .int (nI 0), .int (nI 0)], kC G g_7 60 (nR (fun _ => 0))] H := hP
  have hD : va_D A [kO a0 2 [.int (nI 0), .null, .null, .null, .null, .int (nI 0), .int (nI 0), .int (nI 0), .int (nI 0)], kC G g_7 60 (nR (fun _ => 0))] := hD
  refine va_putF (D := G.1) (ci := 2) (v := .ref g_7) (ty := .array .int) (C := RX2) (T := TX2) (N := 9) hx hb hts hq_4 tyX2 tyX2_ok nmX2 hown hK.1 hP hD hS 0 rfl rfl 1 (by decide) hq_5 (fun _ h9 => h9) rfl hin rfl (by decide +kernel) rfl rfl (Nat.le_of_ble_eq_true rfl) dX2_init_9 (fun H locs hP hD hS => ?_)
  have hP : va_P G.1 vwCl [kO a0 2 [.int (nI 0), .ref g_7, .null, .null, .null, .int (nI 0), .int (nI 0), .int (nI 0), .int (nI 0)], kC G g_7 60 (nR (fun _ => 0))] H := hP
  have hD : va_D A [kO a0 2 [.int (nI 0), .ref g_7, .null, .null, .null, .int (nI 0), .int (nI 0), .int (nI 0), .int (nI 0)], kC G g_7 60 (nR (fun _ => 0))] := hD
  refine lv_aload_n hx hb dX2_init_12 rfl (lv_at hl 0 rfl) ?_
  refine lv_bipush (v := nI 60) hx hb dX2_init_13 (by decide) ?_
  refine k_newi hx hb hq_3 hK hP hD hS hA (N' := 60) (by decide) (by decide) (by decide) (Nat.le_of_ble_eq_true rfl) (Nat.le_of_ble_eq_true rfl) dX2_init_15 (fun g_15 H hP hD hS => ?_)
  have hP : va_P G.1 vwCl [kO a0 2 [.int (nI 0), .ref g_7, .null, .null, .null, .int (nI 0), .int (nI 0), .int (nI 0), .int (nI 0)], kC G g_7 60 (nR (fun _ => 0)), kC G g_15 60 (nR (fun _ => 0))] H := hP
  have hD : va_D A [kO a0 2 [.int (nI 0), .ref g_7, .null, .null, .null, .int (nI 0), .int (nI 0), .int (nI 0), .int (nI 0)], kC G g_7 60 (nR (fun _ => 0)), kC G g_15 60 (nR (fun _ => 0))] := hD
  refine va_putF (D := G.1) (ci := 2) (v := .ref g_15) (ty := .array .int) (C := RX2) (T := TX2) (N := 9) hx hb hts hq_4 tyX2 tyX2_ok nmX2 hown hK.1 hP hD hS 0 rfl rfl 2 (by decide) hq_6 (fun _ h9 => h9) rfl hin rfl (by decide +kernel) rfl rfl (Nat.le_of_ble_eq_true rfl) dX2_init_17 (fun H locs hP hD hS => ?_)
  have hP : va_P G.1 vwCl [kO a0 2 [.int (nI 0), .ref g_7, .ref g_15, .null, .null, .int (nI 0), .int (nI 0), .int (nI 0), .int (nI 0)], kC G g_7 60 (nR (fun _ => 0)), kC G g_15 60 (nR (fun _ => 0))] H := hP
  have hD : va_D A [kO a0 2 [.int (nI 0), .ref g_7, .ref g_15, .null, .null, .int (nI 0), .int (nI 0), .int (nI 0), .int (nI 0)], kC G g_7 60 (nR (fun _ => 0)), kC G g_15 60 (nR (fun _ => 0))] := hD
  refine lv_aload_n hx hb dX2_init_20 rfl (lv_at hl 0 rfl) ?_
  refine lv_bipush (v := nI 20) hx hb dX2_init_21 (by decide) ?_
  refine k_newi hx hb hq_3 hK hP hD hS hA (N' := 20) (by decide) (by decide) (by decide) (Nat.le_of_ble_eq_true rfl) (Nat.le_of_ble_eq_true rfl) dX2_init_23 (fun g_23 H hP hD hS => ?_)
  have hP : va_P G.1 vwCl [kO a0 2 [.int (nI 0), .ref g_7, .ref g_15, .null, .null, .int (nI 0), .int (nI 0), .int (nI 0), .int (nI 0)], kC G g_7 60 (nR (fun _ => 0)), kC G g_15 60 (nR (fun _ => 0)), kC G g_23 20 (nR (fun _ => 0))] H := hP
  have hD : va_D A [kO a0 2 [.int (nI 0), .ref g_7, .ref g_15, .null, .null, .int (nI 0), .int (nI 0), .int (nI 0), .int (nI 0)], kC G g_7 60 (nR (fun _ => 0)), kC G g_15 60 (nR (fun _ => 0)), kC G g_23 20 (nR (fun _ => 0))] := hD
  refine va_putF (D := G.1) (ci := 2) (v := .ref g_23) (ty := .array .int) (C := RX2) (T := TX2) (N := 9) hx hb hts hq_4 tyX2 tyX2_ok nmX2 hown hK.1 hP hD hS 0 rfl rfl 3 (by decide) hq_7 (fun _ h9 => h9) rfl hin rfl (by decide +kernel) rfl rfl (Nat.le_of_ble_eq_true rfl) dX2_init_25 (fun H locs hP hD hS => ?_)
  have hP : va_P G.1 vwCl [kO a0 2 [.int (nI 0), .ref g_7, .ref g_15, .ref g_23, .null, .int (nI 0), .int (nI 0), .int (nI 0), .int (nI 0)], kC G g_7 60 (nR (fun _ => 0)), kC G g_15 60 (nR (fun _ => 0)), kC G g_23 20 (nR (fun _ => 0))] H := hP
  have hD : va_D A [kO a0 2 [.int (nI 0), .ref g_7, .ref g_15, .ref g_23, .null, .int (nI 0), .int (nI 0), .int (nI 0), .int (nI 0)], kC G g_7 60 (nR (fun _ => 0)), kC G g_15 60 (nR (fun _ => 0)), kC G g_23 20 (nR (fun _ => 0))] := hD
  refine lv_aload_n hx hb dX2_init_28 rfl (lv_at hl 0 rfl) ?_
  refine lv_bipush (v := nI 20) hx hb dX2_init_29 (by decide) ?_
  refine k_newi hx hb hq_3 hK hP hD hS hA (N' := 20) (by decide) (by decide) (by decide) (Nat.le_of_ble_eq_true rfl) (Nat.le_of_ble_eq_true rfl) dX2_init_31 (fun g_31 H hP hD hS => ?_)
  have hP : va_P G.1 vwCl [kO a0 2 [.int (nI 0), .ref g_7, .ref g_15, .ref g_23, .null, .int (nI 0), .int (nI 0), .int (nI 0), .int (nI 0)], kC G g_7 60 (nR (fun _ => 0)), kC G g_15 60 (nR (fun _ => 0)), kC G g_23 20 (nR (fun _ => 0)), kC G g_31 20 (nR (fun _ => 0))] H := hP
  have hD : va_D A [kO a0 2 [.int (nI 0), .ref g_7, .ref g_15, .ref g_23, .null, .int (nI 0), .int (nI 0), .int (nI 0), .int (nI 0)], kC G g_7 60 (nR (fun _ => 0)), kC G g_15 60 (nR (fun _ => 0)), kC G g_23 20 (nR (fun _ => 0)), kC G g_31 20 (nR (fun _ => 0))] := hD
  refine va_putF (D := G.1) (ci := 2) (v := .ref g_31) (ty := .array .int) (C := RX2) (T := TX2) (N := 9) hx hb hts hq_4 tyX2 tyX2_ok nmX2 hown hK.1 hP hD hS 0 rfl rfl 4 (by decide) hq_8 (fun _ h9 => h9) rfl hin rfl (by decide +kernel) rfl rfl (Nat.le_of_ble_eq_true rfl) dX2_init_33 (fun H locs hP hD hS => ?_)
  have hP : va_P G.1 vwCl [kO a0 2 [.int (nI 0), .ref g_7, .ref g_15, .ref g_23, .ref g_31, .int (nI 0), .int (nI 0), .int (nI 0), .int (nI 0)], kC G g_7 60 (nR (fun _ => 0)), kC G g_15 60 (nR (fun _ => 0)), kC G g_23 20 (nR (fun _ => 0)), kC G g_31 20 (nR (fun _ => 0))] H := hP
  have hD : va_D A [kO a0 2 [.int (nI 0), .ref g_7, .ref g_15, .ref g_23, .ref g_31, .int (nI 0), .int (nI 0), .int (nI 0), .int (nI 0)], kC G g_7 60 (nR (fun _ => 0)), kC G g_15 60 (nR (fun _ => 0)), kC G g_23 20 (nR (fun _ => 0)), kC G g_31 20 (nR (fun _ => 0))] := hD
  refine lv_aload_n hx hb dX2_init_36 rfl (lv_at hl 0 rfl) ?_
  refine lv_iconst (v := nI 1) hx hb dX2_init_37 (by decide) ?_
  refine va_put (D := G.1) (ci := 2) (v := .int (nI 1)) (ty := .int) (C := RX2) (T := TX2) (N := 9) hx hb hts hq_4 tyX2 tyX2_ok nmX2 hown hK.1 hP hD hS 0 rfl rfl 5 (by decide) hq_9 (fun _ h9 => h9) rfl (by decide +kernel) rfl rfl (Nat.le_of_ble_eq_true rfl) dX2_init_38 (fun H locs hP hD hS => ?_)
  have hP : va_P G.1 vwCl [kO a0 2 [.int (nI 0), .ref g_7, .ref g_15, .ref g_23, .ref g_31, .int (nI 1), .int (nI 0), .int (nI 0), .int (nI 0)], kC G g_7 60 (nR (fun _ => 0)), kC G g_15 60 (nR (fun _ => 0)), kC G g_23 20 (nR (fun _ => 0)), kC G g_31 20 (nR (fun _ => 0))] H := hP
  have hD : va_D A [kO a0 2 [.int (nI 0), .ref g_7, .ref g_15, .ref g_23, .ref g_31, .int (nI 1), .int (nI 0), .int (nI 0), .int (nI 0)], kC G g_7 60 (nR (fun _ => 0)), kC G g_15 60 (nR (fun _ => 0)), kC G g_23 20 (nR (fun _ => 0)), kC G g_31 20 (nR (fun _ => 0))] := hD
  refine lv_aload_n hx hb dX2_init_41 rfl (lv_at hl 0 rfl) ?_
  refine lv_iconst (v := nI 0) hx hb dX2_init_42 (by decide) ?_
  refine va_put (D := G.1) (ci := 2) (v := .int (nI 0)) (ty := .int) (C := RX2) (T := TX2) (N := 9) hx hb hts hq_4 tyX2 tyX2_ok nmX2 hown hK.1 hP hD hS 0 rfl rfl 6 (by decide) hq_10 (fun _ h9 => h9) rfl (by decide +kernel) rfl rfl (Nat.le_of_ble_eq_true rfl) dX2_init_43 (fun H locs hP hD hS => ?_)
  have hP : va_P G.1 vwCl [kO a0 2 [.int (nI 0), .ref g_7, .ref g_15, .ref g_23, .ref g_31, .int (nI 1), .int (nI 0), .int (nI 0), .int (nI 0)], kC G g_7 60 (nR (fun _ => 0)), kC G g_15 60 (nR (fun _ => 0)), kC G g_23 20 (nR (fun _ => 0)), kC G g_31 20 (nR (fun _ => 0))] H := hP
  have hD : va_D A [kO a0 2 [.int (nI 0), .ref g_7, .ref g_15, .ref g_23, .ref g_31, .int (nI 1), .int (nI 0), .int (nI 0), .int (nI 0)], kC G g_7 60 (nR (fun _ => 0)), kC G g_15 60 (nR (fun _ => 0)), kC G g_23 20 (nR (fun _ => 0)), kC G g_31 20 (nR (fun _ => 0))] := hD
  refine lv_aload_n hx hb dX2_init_46 rfl (lv_at hl 0 rfl) ?_
  refine lv_iconst (v := nI 0) hx hb dX2_init_47 (by decide) ?_
  refine va_put (D := G.1) (ci := 2) (v := .int (nI 0)) (ty := .int) (C := RX2) (T := TX2) (N := 9) hx hb hts hq_4 tyX2 tyX2_ok nmX2 hown hK.1 hP hD hS 0 rfl rfl 7 (by decide) hq_11 (fun _ h9 => h9) rfl (by decide +kernel) rfl rfl (Nat.le_of_ble_eq_true rfl) dX2_init_48 (fun H locs hP hD hS => ?_)
  have hP : va_P G.1 vwCl [kO a0 2 [.int (nI 0), .ref g_7, .ref g_15, .ref g_23, .ref g_31, .int (nI 1), .int (nI 0), .int (nI 0), .int (nI 0)], kC G g_7 60 (nR (fun _ => 0)), kC G g_15 60 (nR (fun _ => 0)), kC G g_23 20 (nR (fun _ => 0)), kC G g_31 20 (nR (fun _ => 0))] H := hP
  have hD : va_D A [kO a0 2 [.int (nI 0), .ref g_7, .ref g_15, .ref g_23, .ref g_31, .int (nI 1), .int (nI 0), .int (nI 0), .int (nI 0)], kC G g_7 60 (nR (fun _ => 0)), kC G g_15 60 (nR (fun _ => 0)), kC G g_23 20 (nR (fun _ => 0)), kC G g_31 20 (nR (fun _ => 0))] := hD
  refine lv_aload_n hx hb dX2_init_51 rfl (lv_at hl 0 rfl) ?_
  refine lv_iconst (v := nI 0) hx hb dX2_init_52 (by decide) ?_
  refine va_put (D := G.1) (ci := 2) (v := .int (nI 0)) (ty := .int) (C := RX2) (T := TX2) (N := 9) hx hb hts hq_4 tyX2 tyX2_ok nmX2 hown hK.1 hP hD hS 0 rfl rfl 8 (by decide) hq_12 (fun _ h9 => h9) rfl (by decide +kernel) rfl rfl (Nat.le_of_ble_eq_true rfl) dX2_init_53 (fun H locs hP hD hS => ?_)
  have hP : va_P G.1 vwCl [kO a0 2 [.int (nI 0), .ref g_7, .ref g_15, .ref g_23, .ref g_31, .int (nI 1), .int (nI 0), .int (nI 0), .int (nI 0)], kC G g_7 60 (nR (fun _ => 0)), kC G g_15 60 (nR (fun _ => 0)), kC G g_23 20 (nR (fun _ => 0)), kC G g_31 20 (nR (fun _ => 0))] H := hP
  have hD : va_D A [kO a0 2 [.int (nI 0), .ref g_7, .ref g_15, .ref g_23, .ref g_31, .int (nI 1), .int (nI 0), .int (nI 0), .int (nI 0)], kC G g_7 60 (nR (fun _ => 0)), kC G g_15 60 (nR (fun _ => 0)), kC G g_23 20 (nR (fun _ => 0)), kC G g_31 20 (nR (fun _ => 0))] := hD
  refine lv_aload_n hx hb dX2_init_56 rfl (lv_at hl 0 rfl) ?_
  refine lv_iload_n hx hb dX2_init_57 rfl (lv_at hl 1 rfl) ?_
  refine va_putF (D := G.1) (ci := 2) (v := .int (nI sd)) (ty := .int) (C := RX2) (T := TX2) (N := 9) hx hb hts hq_4 tyX2 tyX2_ok nmX2 hown hK.1 hP hD hS 0 rfl rfl 0 (by decide) hq_13 (fun _ h9 => h9) rfl hin rfl (by decide +kernel) rfl rfl (Nat.le_of_ble_eq_true rfl) dX2_init_58 (fun H locs hP hD hS => ?_)
  have hP : va_P G.1 vwCl [kO a0 2 [.int (nI sd), .ref g_7, .ref g_15, .ref g_23, .ref g_31, .int (nI 1), .int (nI 0), .int (nI 0), .int (nI 0)], kC G g_7 60 (nR (fun _ => 0)), kC G g_15 60 (nR (fun _ => 0)), kC G g_23 20 (nR (fun _ => 0)), kC G g_31 20 (nR (fun _ => 0))] H := hP
  have hD : va_D A [kO a0 2 [.int (nI sd), .ref g_7, .ref g_15, .ref g_23, .ref g_31, .int (nI 1), .int (nI 0), .int (nI 0), .int (nI 0)], kC G g_7 60 (nR (fun _ => 0)), kC G g_15 60 (nR (fun _ => 0)), kC G g_23 20 (nR (fun _ => 0)), kC G g_31 20 (nR (fun _ => 0))] := hD
  exact k_vret (ws := [kO a0 2 [.int (nI 0), .null, .null, .null, .null, .int (nI 0), .int (nI 0), .int (nI 0), .int (nI 0)]]) ((g_7, g_15, g_23, g_31)) hx hb hr hlocks hP hD hS hAe hQ (Nat.le_of_ble_eq_true rfl) (Nat.le_of_ble_eq_true rfl) dX2_init_61 (rfl) (trivial)
set_option maxHeartbeats 4000000 in
set_option maxRecDepth 100000 in
theorem c_X1init (l : Launch) (G : kG) (r0 : Nat)  : kM l G yX1_init wsX1_init ({ frames := 2, cells := 12, slots := 347, locals := 33 } : Room) [.ref r0] [kO r0 1 [.null, .null, .null, .int (nI 0), .int (nI 0)]] (kQv G [kO r0 1 [.null, .null, .null, .int (nI 0), .int (nI 0)]] (fun (_ : Nat × Nat × Nat × Nat × Nat × Nat × Nat × Nat × Nat × Nat × Nat × Nat) => True) (fun (u : Nat × Nat × Nat × Nat × Nat × Nat × Nat × Nat × Nat × Nat × Nat × Nat) => [kO r0 1 [.ref u.1, .ref u.2.2.2.2.2.1, .ref u.2.2.2.2.2.2.2.2.2.2.1, .int (nI 0), .int (nI 0)], kO u.1 2 [.int (nI 0), .ref u.2.1, .ref u.2.2.1, .ref u.2.2.2.1, .ref u.2.2.2.2.1, .int (nI (vS wIni)), .int (nI (vT wIni)), .int (nI (vM wIni)), .int (nI (vO wIni))], kC G u.2.1 60 (nR (vP wIni)), kC G u.2.2.1 60 (nR (vK wIni)), kC G u.2.2.2.1 20 (nR (vC wIni)), kC G u.2.2.2.2.1 20 (nR (vN wIni)), kO u.2.2.2.2.2.1 2 [.int (nI 1), .ref u.2.2.2.2.2.2.1, .ref u.2.2.2.2.2.2.2.1, .ref u.2.2.2.2.2.2.2.2.1, .ref u.2.2.2.2.2.2.2.2.2.1, .int (nI (vS wIni)), .int (nI (vT wIni)), .int (nI (vM wIni)), .int (nI (vO wIni))], kC G u.2.2.2.2.2.2.1 60 (nR (vP wIni)), kC G u.2.2.2.2.2.2.2.1 60 (nR (vK wIni)), kC G u.2.2.2.2.2.2.2.2.1 20 (nR (vC wIni)), kC G u.2.2.2.2.2.2.2.2.2.1 20 (nR (vN wIni)), kO u.2.2.2.2.2.2.2.2.2.2.1 0 [.ref u.2.2.2.2.2.2.2.2.2.2.2], kC G u.2.2.2.2.2.2.2.2.2.2.2 8 (nR bIni)])) := by
  refine k_ofW (cc := cX1_init) (maxL := 1) (rt := none) (by decide) rfl (Nat.le_of_ble_eq_true rfl) ?_
  intro p e s m args below meth c A ls Qs H locs hQ hAe hx hb hr hml hts hown hlocks hin hK hZ hP hD hS hA hl
  have hown : s.vm.findClass RX1 = some m.cls := hown
  have hl : lv_has ls 1 [(0, .ref r0)] := hl
  have hq_0 : (Cond.methodLink RX1 3 objectInit).before args s = true := hts _ (by decide +kernel)
  have hq_1 : (Cond.instanceMethod objectInit).before args s = true := hts _ (by decide +kernel)
  have hq_2 : (Cond.code objectInit ⟨#[0xb1]⟩ 1 none).before args s = true := hts _ (by decide +kernel)
  have hq_3 : ∀ w ∈ wsX20, w ∈ wsX1_init := by decide +kernel
  have hq_4 : (Cond.classLink RX1 9 RX2).before args s = true := hts _ (by decide +kernel)
  have hq_5 : (Cond.instantiable RX2 9).before args s = true := hts _ (by decide +kernel)
  have hq_6 : (Cond.initialized RX2).before args s = true := hts _ (by decide +kernel)
  have hq_7 : (Cond.methodLink RX1 11 yX2_init).before args s = true := hts _ (by decide +kernel)
  have hq_8 : (Cond.instanceMethod yX2_init).before args s = true := hts _ (by decide +kernel)
  have hq_9 : ∀ w ∈ wsX10, w ∈ wsX1_init := by decide +kernel
  have hq_10 : (Cond.fieldLink RX1 14 "KnotRugs$Rug" "leftWeaver" "LKnotRugs$Weaver;").before args s = true := hts _ (by decide +kernel)
  have hq_11 : (Cond.fieldLink RX1 20 "KnotRugs$Rug" "rightWeaver" "LKnotRugs$Weaver;").before args s = true := hts _ (by decide +kernel)
  have hq_12 : ∀ w ∈ wsX00, w ∈ wsX1_init := by decide +kernel
  have hq_13 : (Cond.classLink RX1 23 RX0).before args s = true := hts _ (by decide +kernel)
  have hq_14 : (Cond.instantiable RX0 1).before args s = true := hts _ (by decide +kernel)
  have hq_15 : (Cond.initialized RX0).before args s = true := hts _ (by decide +kernel)
  have hq_16 : (Cond.methodLink RX1 25 yX0_init).before args s = true := hts _ (by decide +kernel)
  have hq_17 : (Cond.instanceMethod yX0_init).before args s = true := hts _ (by decide +kernel)
  have hq_18 : (Cond.fieldLink RX1 26 "KnotRugs$Rug" "baskets" "LKnotRugs$Baskets;").before args s = true := hts _ (by decide +kernel)
  have hq_19 : (Cond.fieldLink RX1 30 "KnotRugs$Rug" "hour" "I").before args s = true := hts _ (by decide +kernel)
  have hq_20 : (Cond.fieldLink RX1 34 "KnotRugs$Rug" "unpicked" "I").before args s = true := hts _ (by decide +kernel)
  refine lv_aload_n hx hb dX1_init_0 rfl (lv_at hl 0 rfl) ?_
  refine W.objInit hx hb hown hq_0 hq_1 hq_2 rfl (by rw [hml]; exact hl.1) rfl dX1_init_1 (Nat.le_of_ble_eq_true rfl) (Nat.le_of_ble_eq_true rfl) ?_
  refine W.eq (g2 := F0 m 4 ls []) rfl ?_
  refine lv_aload_n hx hb dX1_init_4 rfl (lv_at hl 0 rfl) ?_
  refine va_new (D := G.1) (ci := 2) (fs := [.int (nI 0), .null, .null, .null, .null, .int (nI 0), .int (nI 0), .int (nI 0), .int (nI 0)]) (C := RX2) (T := TX2) (N := 9) hx hb hts hq_3 tyX2 tyX2_ok hown hq_4 hq_5 hq_6 hK.1 hP hD hS hA rfl (fun j hj => by rcases (show j = 0 ∨ j = 1 ∨ j = 2 ∨ j = 3 ∨ j = 4 ∨ j = 5 ∨ j = 6 ∨ j = 7 ∨ j = 8 by omega) with rfl | rfl | rfl | rfl | rfl | rfl | rfl | rfl | rfl <;> rfl) (Nat.le_of_ble_eq_true rfl) (Nat.le_of_ble_eq_true rfl) dX1_init_5 (fun o_5 H hP hD hS => ?_)
  have hP : va_P G.1 vwCl [kO r0 1 [.null, .null, .null, .int (nI 0), .int (nI 0)], kO o_5 2 [.int (nI 0), .null, .null, .null, .null, .int (nI 0), .int (nI 0), .int (nI 0), .int (nI 0)]] H := hP
  have hD : va_D A [kO r0 1 [.null, .null, .null, .int (nI 0), .int (nI 0)], kO o_5 2 [.int (nI 0), .null, .null, .null, .null, .int (nI 0), .int (nI 0), .int (nI 0), .int (nI 0)]] := hD
  refine lv_dup hx hb dX1_init_8 rfl ?_
  refine lv_iconst (v := nI 0) hx hb dX1_init_9 (by decide) ?_
  refine k_callv (fun u_10 => [kO r0 1 [.null, .null, .null, .int (nI 0), .int (nI 0)], kO o_5 2 [.int (nI 0), .ref u_10.1, .ref u_10.2.1, .ref u_10.2.2.1, .ref u_10.2.2.2, .int (nI 1), .int (nI 0), .int (nI 0), .int (nI 0)], kC G u_10.1 60 (nR (fun _ => 0)), kC G u_10.2.1 60 (nR (fun _ => 0)), kC G u_10.2.2.1 20 (nR (fun _ => 0)), kC G u_10.2.2.2 20 (nR (fun _ => 0))]) [kO r0 1 [.null, .null, .null, .int (nI 0), .int (nI 0)]] (k_runI (As := [.int (nI 0)]) (rest := [.ref o_5, .ref r0]) (wc := [kO o_5 2 [.int (nI 0), .null, .null, .null, .null, .int (nI 0), .int (nI 0), .int (nI 0), .int (nI 0)]]) ⟨hx, hb, hml, hown, hts⟩ (c_X2init l G o_5 0 ) (cwI 1 hts gX1_init_X2_init rfl rfl rfl hq_6 hq_7 hq_8 rfl (by decide +kernel) ⟨Nat.le_of_ble_eq_true rfl, Nat.le_of_ble_eq_true rfl⟩) hK hZ hP hD hS hA [1] rfl rfl rfl hl.1 rfl (Nat.le_of_ble_eq_true rfl) dX1_init_10 ⟨Nat.le_of_ble_eq_true rfl, Nat.le_of_ble_eq_true rfl⟩) hP hD hS hA [1] [0] [0, 1, 2, 3, 4, 5] rfl rfl rfl (by decide) (fun _ => rfl) rfl (fun u_10 H locs hp_10 hP hD hS => ?_)
  obtain ⟨pl_10, kn_10, tc_10, tk_10⟩ := u_10
  have hP : va_P G.1 vwCl [kO r0 1 [.null, .null, .null, .int (nI 0), .int (nI 0)], kO o_5 2 [.int (nI 0), .ref pl_10, .ref kn_10, .ref tc_10, .ref tk_10, .int (nI 1), .int (nI 0), .int (nI 0), .int (nI 0)], kC G pl_10 60 (nR (fun _ => 0)), kC G kn_10 60 (nR (fun _ => 0)), kC G tc_10 20 (nR (fun _ => 0)), kC G tk_10 20 (nR (fun _ => 0))] H := hP
  have hD : va_D A [kO r0 1 [.null, .null, .null, .int (nI 0), .int (nI 0)], kO o_5 2 [.int (nI 0), .ref pl_10, .ref kn_10, .ref tc_10, .ref tk_10, .int (nI 1), .int (nI 0), .int (nI 0), .int (nI 0)], kC G pl_10 60 (nR (fun _ => 0)), kC G kn_10 60 (nR (fun _ => 0)), kC G tc_10 20 (nR (fun _ => 0)), kC G tk_10 20 (nR (fun _ => 0))] := hD
  refine va_putF (D := G.1) (ci := 1) (v := .ref o_5) (ty := .object "KnotRugs$Weaver") (C := RX1) (T := TX1) (N := 5) hx hb hts hq_9 tyX1 tyX1_ok nmX1 hown hK.1 hP hD hS 0 rfl rfl 0 (by decide) hq_10 (fun _ h9 => h9) rfl hin rfl (by decide +kernel) rfl rfl (Nat.le_of_ble_eq_true rfl) dX1_init_13 (fun H locs hP hD hS => ?_)
  have hP : va_P G.1 vwCl [kO r0 1 [.ref o_5, .null, .null, .int (nI 0), .int (nI 0)], kO o_5 2 [.int (nI 0), .ref pl_10, .ref kn_10, .ref tc_10, .ref tk_10, .int (nI 1), .int (nI 0), .int (nI 0), .int (nI 0)], kC G pl_10 60 (nR (fun _ => 0)), kC G kn_10 60 (nR (fun _ => 0)), kC G tc_10 20 (nR (fun _ => 0)), kC G tk_10 20 (nR (fun _ => 0))] H := hP
  have hD : va_D A [kO r0 1 [.ref o_5, .null, .null, .int (nI 0), .int (nI 0)], kO o_5 2 [.int (nI 0), .ref pl_10, .ref kn_10, .ref tc_10, .ref tk_10, .int (nI 1), .int (nI 0), .int (nI 0), .int (nI 0)], kC G pl_10 60 (nR (fun _ => 0)), kC G kn_10 60 (nR (fun _ => 0)), kC G tc_10 20 (nR (fun _ => 0)), kC G tk_10 20 (nR (fun _ => 0))] := hD
  refine lv_aload_n hx hb dX1_init_16 rfl (lv_at hl 0 rfl) ?_
  refine va_new (D := G.1) (ci := 2) (fs := [.int (nI 0), .null, .null, .null, .null, .int (nI 0), .int (nI 0), .int (nI 0), .int (nI 0)]) (C := RX2) (T := TX2) (N := 9) hx hb hts hq_3 tyX2 tyX2_ok hown hq_4 hq_5 hq_6 hK.1 hP hD hS hA rfl (fun j hj => by rcases (show j = 0 ∨ j = 1 ∨ j = 2 ∨ j = 3 ∨ j = 4 ∨ j = 5 ∨ j = 6 ∨ j = 7 ∨ j = 8 by omega) with rfl | rfl | rfl | rfl | rfl | rfl | rfl | rfl | rfl <;> rfl) (Nat.le_of_ble_eq_true rfl) (Nat.le_of_ble_eq_true rfl) dX1_init_17 (fun o_17 H hP hD hS => ?_)
  have hP : va_P G.1 vwCl [kO r0 1 [.ref o_5, .null, .null, .int (nI 0), .int (nI 0)], kO o_5 2 [.int (nI 0), .ref pl_10, .ref kn_10, .ref tc_10, .ref tk_10, .int (nI 1), .int (nI 0), .int (nI 0), .int (nI 0)], kC G pl_10 60 (nR (fun _ => 0)), kC G kn_10 60 (nR (fun _ => 0)), kC G tc_10 20 (nR (fun _ => 0)), kC G tk_10 20 (nR (fun _ => 0)), kO o_17 2 [.int (nI 0), .null, .null, .null, .null, .int (nI 0), .int (nI 0), .int (nI 0), .int (nI 0)]] H := hP
  have hD : va_D A [kO r0 1 [.ref o_5, .null, .null, .int (nI 0), .int (nI 0)], kO o_5 2 [.int (nI 0), .ref pl_10, .ref kn_10, .ref tc_10, .ref tk_10, .int (nI 1), .int (nI 0), .int (nI 0), .int (nI 0)], kC G pl_10 60 (nR (fun _ => 0)), kC G kn_10 60 (nR (fun _ => 0)), kC G tc_10 20 (nR (fun _ => 0)), kC G tk_10 20 (nR (fun _ => 0)), kO o_17 2 [.int (nI 0), .null, .null, .null, .null, .int (nI 0), .int (nI 0), .int (nI 0), .int (nI 0)]] := hD
  refine lv_dup hx hb dX1_init_20 rfl ?_
  refine lv_iconst (v := nI 1) hx hb dX1_init_21 (by decide) ?_
  refine k_callv (fun u_22 => [kO r0 1 [.ref o_5, .null, .null, .int (nI 0), .int (nI 0)], kO o_5 2 [.int (nI 0), .ref pl_10, .ref kn_10, .ref tc_10, .ref tk_10, .int (nI 1), .int (nI 0), .int (nI 0), .int (nI 0)], kC G pl_10 60 (nR (fun _ => 0)), kC G kn_10 60 (nR (fun _ => 0)), kC G tc_10 20 (nR (fun _ => 0)), kC G tk_10 20 (nR (fun _ => 0)), kO o_17 2 [.int (nI 1), .ref u_22.1, .ref u_22.2.1, .ref u_22.2.2.1, .ref u_22.2.2.2, .int (nI 1), .int (nI 0), .int (nI 0), .int (nI 0)], kC G u_22.1 60 (nR (fun _ => 0)), kC G u_22.2.1 60 (nR (fun _ => 0)), kC G u_22.2.2.1 20 (nR (fun _ => 0)), kC G u_22.2.2.2 20 (nR (fun _ => 0))]) [kO r0 1 [.ref o_5, .null, .null, .int (nI 0), .int (nI 0)], kO o_5 2 [.int (nI 0), .ref pl_10, .ref kn_10, .ref tc_10, .ref tk_10, .int (nI 1), .int (nI 0), .int (nI 0), .int (nI 0)], kC G pl_10 60 (nR (fun _ => 0)), kC G kn_10 60 (nR (fun _ => 0)), kC G tc_10 20 (nR (fun _ => 0)), kC G tk_10 20 (nR (fun _ => 0))] (k_runI (As := [.int (nI 1)]) (rest := [.ref o_17, .ref r0]) (wc := [kO o_17 2 [.int (nI 0), .null, .null, .null, .null, .int (nI 0), .int (nI 0), .int (nI 0), .int (nI 0)]]) ⟨hx, hb, hml, hown, hts⟩ (c_X2init l G o_17 1 ) (cwI 1 hts gX1_init_X2_init rfl rfl rfl hq_6 hq_7 hq_8 rfl (by decide +kernel) ⟨Nat.le_of_ble_eq_true rfl, Nat.le_of_ble_eq_true rfl⟩) hK hZ hP hD hS hA [6] rfl rfl rfl hl.1 rfl (Nat.le_of_ble_eq_true rfl) dX1_init_22 ⟨Nat.le_of_ble_eq_true rfl, Nat.le_of_ble_eq_true rfl⟩) hP hD hS hA [6] [0, 1, 2, 3, 4, 5] [0, 1, 2, 3, 4, 5, 6, 7, 8, 9, 10] rfl rfl rfl (by decide) (fun _ => rfl) rfl (fun u_22 H locs hp_22 hP hD hS => ?_)
  obtain ⟨pl_22, kn_22, tc_22, tk_22⟩ := u_22
  have hP : va_P G.1 vwCl [kO r0 1 [.ref o_5, .null, .null, .int (nI 0), .int (nI 0)], kO o_5 2 [.int (nI 0), .ref pl_10, .ref kn_10, .ref tc_10, .ref tk_10, .int (nI 1), .int (nI 0), .int (nI 0), .int (nI 0)], kC G pl_10 60 (nR (fun _ => 0)), kC G kn_10 60 (nR (fun _ => 0)), kC G tc_10 20 (nR (fun _ => 0)), kC G tk_10 20 (nR (fun _ => 0)), kO o_17 2 [.int (nI 1), .ref pl_22, .ref kn_22, .ref tc_22, .ref tk_22, .int (nI 1), .int (nI 0), .int (nI 0), .int (nI 0)], kC G pl_22 60 (nR (fun _ => 0)), kC G kn_22 60 (nR (fun _ => 0)), kC G tc_22 20 (nR (fun _ => 0)), kC G tk_22 20 (nR (fun _ => 0))] H := hP
  have hD : va_D A [kO r0 1 [.ref o_5, .null, .null, .int (nI 0), .int (nI 0)], kO o_5 2 [.int (nI 0), .ref pl_10, .ref kn_10, .ref tc_10, .ref tk_10, .int (nI 1), .int (nI 0), .int (nI 0), .int (nI 0)], kC G pl_10 60 (nR (fun _ => 0)), kC G kn_10 60 (nR (fun _ => 0)), kC G tc_10 20 (nR (fun _ => 0)), kC G tk_10 20 (nR (fun _ => 0)), kO o_17 2 [.int (nI 1), .ref pl_22, .ref kn_22, .ref tc_22, .ref tk_22, .int (nI 1), .int (nI 0), .int (nI 0), .int (nI 0)], kC G pl_22 60 (nR (fun _ => 0)), kC G kn_22 60 (nR (fun _ => 0)), kC G tc_22 20 (nR (fun _ => 0)), kC G tk_22 20 (nR (fun _ => 0))] := hD
  refine va_putF (D := G.1) (ci := 1) (v := .ref o_17) (ty := .object "KnotRugs$Weaver") (C := RX1) (T := TX1) (N := 5) hx hb hts hq_9 tyX1 tyX1_ok nmX1 hown hK.1 hP hD hS 0 rfl rfl 1 (by decide) hq_11 (fun _ h9 => h9) rfl hin rfl (by decide +kernel) rfl rfl (Nat.le_of_ble_eq_true rfl) dX1_init_25 (fun H locs hP hD hS => ?_)
  have hP : va_P G.1 vwCl [kO r0 1 [.ref o_5, .ref o_17, .null, .int (nI 0), .int (nI 0)], kO o_5 2 [.int (nI 0), .ref pl_10, .ref kn_10, .ref tc_10, .ref tk_10, .int (nI 1), .int (nI 0), .int (nI 0), .int (nI 0)], kC G pl_10 60 (nR (fun _ => 0)), kC G kn_10 60 (nR (fun _ => 0)), kC G tc_10 20 (nR (fun _ => 0)), kC G tk_10 20 (nR (fun _ => 0)), kO o_17 2 [.int (nI 1), .ref pl_22, .ref kn_22, .ref tc_22, .ref tk_22, .int (nI 1), .int (nI 0), .int (nI 0), .int (nI 0)], kC G pl_22 60 (nR (fun _ => 0)), kC G kn_22 60 (nR (fun _ => 0)), kC G tc_22 20 (nR (fun _ => 0)), kC G tk_22 20 (nR (fun _ => 0))] H := hP
  have hD : va_D A [kO r0 1 [.ref o_5, .ref o_17, .null, .int (nI 0), .int (nI 0)], kO o_5 2 [.int (nI 0), .ref pl_10, .ref kn_10, .ref tc_10, .ref tk_10, .int (nI 1), .int (nI 0), .int (nI 0), .int (nI 0)], kC G pl_10 60 (nR (fun _ => 0)), kC G kn_10 60 (nR (fun _ => 0)), kC G tc_10 20 (nR (fun _ => 0)), kC G tk_10 20 (nR (fun _ => 0)), kO o_17 2 [.int (nI 1), .ref pl_22, .ref kn_22, .ref tc_22, .ref tk_22, .int (nI 1), .int (nI 0), .int (nI 0), .int (nI 0)], kC G pl_22 60 (nR (fun _ => 0)), kC G kn_22 60 (nR (fun _ => 0)), kC G tc_22 20 (nR (fun _ => 0)), kC G tk_22 20 (nR (fun _ => 0))] := hD
  refine lv_aload_n hx hb dX1_init_28 rfl (lv_at hl 0 rfl) ?_
  refine va_new (D := G.1) (ci := 0) (fs := [.null]) (C := RX0) (T := TX0) (N := 1) hx hb hts hq_12 tyX0 tyX0_ok hown hq_13 hq_14 hq_15 hK.1 hP hD hS hA rfl (fun j hj => by rcases (show j = 0 by omega) with rfl <;> rfl) (Nat.le_of_ble_eq_true rfl) (Nat.le_of_ble_eq_true rfl) dX1_init_29 (fun o_29 H hP hD hS => ?_)
  have hP : va_P G.1 vwCl [kO r0 1 [.ref o_5, .ref o_17, .null, .int (nI 0), .int (nI 0)], kO o_5 2 [.int (nI 0), .ref pl_10, .ref kn_10, .ref tc_10, .ref tk_10, .int (nI 1), .int (nI 0), .int (nI 0), .int (nI 0)], kC G pl_10 60 (nR (fun _ => 0)), kC G kn_10 60 (nR (fun _ => 0)), kC G tc_10 20 (nR (fun _ => 0)), kC G tk_10 20 (nR (fun _ => 0)), kO o_17 2 [.int (nI 1), .ref pl_22, .ref kn_22, .ref tc_22, .ref tk_22, .int (nI 1), .int (nI 0), .int (nI 0), .int (nI 0)], kC G pl_22 60 (nR (fun _ => 0)), kC G kn_22 60 (nR (fun _ => 0)), kC G tc_22 20 (nR (fun _ => 0)), kC G tk_22 20 (nR (fun _ => 0)), kO o_29 0 [.null]] H := hP
  have hD : va_D A [kO r0 1 [.ref o_5, .ref o_17, .null, .int (nI 0), .int (nI 0)], kO o_5 2 [.int (nI 0), .ref pl_10, .ref kn_10, .ref tc_10, .ref tk_10, .int (nI 1), .int (nI 0), .int (nI 0), .int (nI 0)], kC G pl_10 60 (nR (fun _ => 0)), kC G kn_10 60 (nR (fun _ => 0)), kC G tc_10 20 (nR (fun _ => 0)), kC G tk_10 20 (nR (fun _ => 0)), kO o_17 2 [.int (nI 1), .ref pl_22, .ref kn_22, .ref tc_22, .ref tk_22, .int (nI 1), .int (nI 0), .int (nI 0), .int (nI 0)], kC G pl_22 60 (nR (fun _ => 0)), kC G kn_22 60 (nR (fun _ => 0)), kC G tc_22 20 (nR (fun _ => 0)), kC G tk_22 20 (nR (fun _ => 0)), kO o_29 0 [.null]] := hD
  refine lv_dup hx hb dX1_init_32 rfl ?_
  refine k_callv (fun u_33 => [kO r0 1 [.ref o_5, .ref o_17, .null, .int (nI 0), .int (nI 0)], kO o_5 2 [.int (nI 0), .ref pl_10, .ref kn_10, .ref tc_10, .ref tk_10, .int (nI 1), .int (nI 0), .int (nI 0), .int (nI 0)], kC G pl_10 60 (nR (fun _ => 0)), kC G kn_10 60 (nR (fun _ => 0)), kC G tc_10 20 (nR (fun _ => 0)), kC G tk_10 20 (nR (fun _ => 0)), kO o_17 2 [.int (nI 1), .ref pl_22, .ref kn_22, .ref tc_22, .ref tk_22, .int (nI 1), .int (nI 0), .int (nI 0), .int (nI 0)], kC G pl_22 60 (nR (fun _ => 0)), kC G kn_22 60 (nR (fun _ => 0)), kC G tc_22 20 (nR (fun _ => 0)), kC G tk_22 20 (nR (fun _ => 0)), kO o_29 0 [.ref u_33], kC G u_33 8 (nR bIni)]) [kO r0 1 [.ref o_5, .ref o_17, .null, .int (nI 0), .int (nI 0)], kO o_5 2 [.int (nI 0), .ref pl_10, .ref kn_10, .ref tc_10, .ref tk_10, .int (nI 1), .int (nI 0), .int (nI 0), .int (nI 0)], kC G pl_10 60 (nR (fun _ => 0)), kC G kn_10 60 (nR (fun _ => 0)), kC G tc_10 20 (nR (fun _ => 0)), kC G tk_10 20 (nR (fun _ => 0)), kO o_17 2 [.int (nI 1), .ref pl_22, .ref kn_22, .ref tc_22, .ref tk_22, .int (nI 1), .int (nI 0), .int (nI 0), .int (nI 0)], kC G pl_22 60 (nR (fun _ => 0)), kC G kn_22 60 (nR (fun _ => 0)), kC G tc_22 20 (nR (fun _ => 0)), kC G tk_22 20 (nR (fun _ => 0))] (k_runI (As := []) (rest := [.ref o_29, .ref r0]) (wc := [kO o_29 0 [.null]]) ⟨hx, hb, hml, hown, hts⟩ (c_X0init l G o_29 ) (cwI 0 hts gX1_init_X0_init rfl rfl rfl hq_15 hq_16 hq_17 rfl (by decide +kernel) ⟨Nat.le_of_ble_eq_true rfl, Nat.le_of_ble_eq_true rfl⟩) hK hZ hP hD hS hA [11] rfl rfl rfl hl.1 rfl (Nat.le_of_ble_eq_true rfl) dX1_init_33 ⟨Nat.le_of_ble_eq_true rfl, Nat.le_of_ble_eq_true rfl⟩) hP hD hS hA [11] [0, 1, 2, 3, 4, 5, 6, 7, 8, 9, 10] [0, 1, 2, 3, 4, 5, 6, 7, 8, 9, 10, 11, 12] rfl rfl rfl (by decide) (fun _ => rfl) rfl (fun u_33 H locs hp_33 hP hD hS => ?_)
  obtain ⟨lf_33, e9⟩ : ∃ z9 : Nat, z9 = u_33 := ⟨_, rfl⟩
  rw [← e9] at hP hD
  have hP : va_P G.1 vwCl [kO r0 1 [.ref o_5, .ref o_17, .null, .int (nI 0), .int (nI 0)], kO o_5 2 [.int (nI 0), .ref pl_10, .ref kn_10, .ref tc_10, .ref tk_10, .int (nI 1), .int (nI 0), .int (nI 0), .int (nI 0)], kC G pl_10 60 (nR (fun _ => 0)), kC G kn_10 60 (nR (fun _ => 0)), kC G tc_10 20 (nR (fun _ => 0)), kC G tk_10 20 (nR (fun _ => 0)), kO o_17 2 [.int (nI 1), .ref pl_22, .ref kn_22, .ref tc_22, .ref tk_22, .int (nI 1), .int (nI 0), .int (nI 0), .int (nI 0)], kC G pl_22 60 (nR (fun _ => 0)), kC G kn_22 60 (nR (fun _ => 0)), kC G tc_22 20 (nR (fun _ => 0)), kC G tk_22 20 (nR (fun _ => 0)), kO o_29 0 [.ref lf_33], kC G lf_33 8 (nR bIni)] H := hP
  have hD : va_D A [kO r0 1 [.ref o_5, .ref o_17, .null, .int (nI 0), .int (nI 0)], kO o_5 2 [.int (nI 0), .ref pl_10, .ref kn_10, .ref tc_10, .ref tk_10, .int (nI 1), .int (nI 0), .int (nI 0), .int (nI 0)], kC G pl_10 60 (nR (fun _ => 0)), kC G kn_10 60 (nR (fun _ => 0)), kC G tc_10 20 (nR (fun _ => 0)), kC G tk_10 20 (nR (fun _ => 0)), kO o_17 2 [.int (nI 1), .ref pl_22, .ref kn_22, .ref tc_22, .ref tk_22, .int (nI 1), .int (nI 0), .int (nI 0), .int (nI 0)], kC G pl_22 60 (nR (fun _ => 0)), kC G kn_22 60 (nR (fun _ => 0)), kC G tc_22 20 (nR (fun _ => 0)), kC G tk_22 20 (nR (fun _ => 0)), kO o_29 0 [.ref lf_33], kC G lf_33 8 (nR bIni)] := hD
  refine va_putF (D := G.1) (ci := 1) (v := .ref o_29) (ty := .object "KnotRugs$Baskets") (C := RX1) (T := TX1) (N := 5) hx hb hts hq_9 tyX1 tyX1_ok nmX1 hown hK.1 hP hD hS 0 rfl rfl 2 (by decide) hq_18 (fun _ h9 => h9) rfl hin rfl (by decide +kernel) rfl rfl (Nat.le_of_ble_eq_true rfl) dX1_init_36 (fun H locs hP hD hS => ?_)
  have hP : va_P G.1 vwCl [kO r0 1 [.ref o_5, .ref o_17, .ref o_29, .int (nI 0), .int (nI 0)], kO o_5 2 [.int (nI 0), .ref pl_10, .ref kn_10, .ref tc_10, .ref tk_10, .int (nI 1), .int (nI 0), .int (nI 0), .int (nI 0)], kC G pl_10 60 (nR (fun _ => 0)), kC G kn_10 60 (nR (fun _ => 0)), kC G tc_10 20 (nR (fun _ => 0)), kC G tk_10 20 (nR (fun _ => 0)), kO o_17 2 [.int (nI 1), .ref pl_22, .ref kn_22, .ref tc_22, .ref tk_22, .int (nI 1), .int (nI 0), .int (nI 0), .int (nI 0)], kC G pl_22 60 (nR (fun _ => 0)), kC G kn_22 60 (nR (fun _ => 0)), kC G tc_22 20 (nR (fun _ => 0)), kC G tk_22 20 (nR (fun _ => 0)), kO o_29 0 [.ref lf_33], kC G lf_33 8 (nR bIni)] H := hP
  have hD : va_D A [kO r0 1 [.ref o_5, .ref o_17, .ref o_29, .int (nI 0), .int (nI 0)], kO o_5 2 [.int (nI 0), .ref pl_10, .ref kn_10, .ref tc_10, .ref tk_10, .int (nI 1), .int (nI 0), .int (nI 0), .int (nI 0)], kC G pl_10 60 (nR (fun _ => 0)), kC G kn_10 60 (nR (fun _ => 0)), kC G tc_10 20 (nR (fun _ => 0)), kC G tk_10 20 (nR (fun _ => 0)), kO o_17 2 [.int (nI 1), .ref pl_22, .ref kn_22, .ref tc_22, .ref tk_22, .int (nI 1), .int (nI 0), .int (nI 0), .int (nI 0)], kC G pl_22 60 (nR (fun _ => 0)), kC G kn_22 60 (nR (fun _ => 0)), kC G tc_22 20 (nR (fun _ => 0)), kC G tk_22 20 (nR (fun _ => 0)), kO o_29 0 [.ref lf_33], kC G lf_33 8 (nR bIni)] := hD
  refine lv_aload_n hx hb dX1_init_39 rfl (lv_at hl 0 rfl) ?_
  refine lv_iconst (v := nI 0) hx hb dX1_init_40 (by decide) ?_
  refine va_put (D := G.1) (ci := 1) (v := .int (nI 0)) (ty := .int) (C := RX1) (T := TX1) (N := 5) hx hb hts hq_9 tyX1 tyX1_ok nmX1 hown hK.1 hP hD hS 0 rfl rfl 3 (by decide) hq_19 (fun _ h9 => h9) rfl (by decide +kernel) rfl rfl (Nat.le_of_ble_eq_true rfl) dX1_init_41 (fun H locs hP hD hS => ?_)
  have hP : va_P G.1 vwCl [kO r0 1 [.ref o_5, .ref o_17, .ref o_29, .int (nI 0), .int (nI 0)], kO o_5 2 [.int (nI 0), .ref pl_10, .ref kn_10, .ref tc_10, .ref tk_10, .int (nI 1), .int (nI 0), .int (nI 0), .int (nI 0)], kC G pl_10 60 (nR (fun _ => 0)), kC G kn_10 60 (nR (fun _ => 0)), kC G tc_10 20 (nR (fun _ => 0)), kC G tk_10 20 (nR (fun _ => 0)), kO o_17 2 [.int (nI 1), .ref pl_22, .ref kn_22, .ref tc_22, .ref tk_22, .int (nI 1), .int (nI 0), .int (nI 0), .int (nI 0)], kC G pl_22 60 (nR (fun _ => 0)), kC G kn_22 60 (nR (fun _ => 0)), kC G tc_22 20 (nR (fun _ => 0)), kC G tk_22 20 (nR (fun _ => 0)), kO o_29 0 [.ref lf_33], kC G lf_33 8 (nR bIni)] H := hP
  have hD : va_D A [kO r0 1 [.ref o_5, .ref o_17, .ref o_29, .int (nI 0), .int (nI 0)], kO o_5 2 [.int (nI 0), .ref pl_10, .ref kn_10, .ref tc_10, .ref tk_10, .int (nI 1), .int (nI 0), .int (nI 0), .int (nI 0)], kC G pl_10 60 (nR (fun _ => 0)), kC G kn_10 60 (nR (fun _ => 0)), kC G tc_10 20 (nR (fun _ => 0)), kC G tk_10 20 (nR (fun _ => 0)), kO o_17 2 [.int (nI 1), .ref pl_22, .ref kn_22, .ref tc_22, .ref tk_22, .int (nI 1), .int (nI 0), .int (nI 0), .int (nI 0)], kC G pl_22 60 (nR (fun _ => 0)), kC G kn_22 60 (nR (fun _ => 0)), kC G tc_22 20 (nR (fun _ => 0)), kC G tk_22 20 (nR (fun _ => 0)), kO o_29 0 [.ref lf_33], kC G lf_33 8 (nR bIni)] := hD
  refine lv_aload_n hx hb dX1_init_44 rfl (lv_at hl 0 rfl) ?_
  refine lv_iconst (v := nI 0) hx hb dX1_init_45 (by decide) ?_
  refine va_put (D := G.1) (ci := 1) (v := .int (nI 0)) (ty := .int) (C := RX1) (T := TX1) (N := 5) hx hb hts hq_9 tyX1 tyX1_ok nmX1 hown hK.1 hP hD hS 0 rfl rfl 4 (by decide) hq_20 (fun _ h9 => h9) rfl (by decide +kernel) rfl rfl (Nat.le_of_ble_eq_true rfl) dX1_init_46 (fun H locs hP hD hS => ?_)
  have hP : va_P G.1 vwCl [kO r0 1 [.ref o_5, .ref o_17, .ref o_29, .int (nI 0), .int (nI 0)], kO o_5 2 [.int (nI 0), .ref pl_10, .ref kn_10, .ref tc_10, .ref tk_10, .int (nI 1), .int (nI 0), .int (nI 0), .int (nI 0)], kC G pl_10 60 (nR (fun _ => 0)), kC G kn_10 60 (nR (fun _ => 0)), kC G tc_10 20 (nR (fun _ => 0)), kC G tk_10 20 (nR (fun _ => 0)), kO o_17 2 [.int (nI 1), .ref pl_22, .ref kn_22, .ref tc_22, .ref tk_22, .int (nI 1), .int (nI 0), .int (nI 0), .int (nI 0)], kC G pl_22 60 (nR (fun _ => 0)), kC G kn_22 60 (nR (fun _ => 0)), kC G tc_22 20 (nR (fun _ => 0)), kC G tk_22 20 (nR (fun _ => 0)), kO o_29 0 [.ref lf_33], kC G lf_33 8 (nR bIni)] H := hP
  have hD : va_D A [kO r0 1 [.ref o_5, .ref o_17, .ref o_29, .int (nI 0), .int (nI 0)], kO o_5 2 [.int (nI 0), .ref pl_10, .ref kn_10, .ref tc_10, .ref tk_10, .int (nI 1), .int (nI 0), .int (nI 0), .int (nI 0)], kC G pl_10 60 (nR (fun _ => 0)), kC G kn_10 60 (nR (fun _ => 0)), kC G tc_10 20 (nR (fun _ => 0)), kC G tk_10 20 (nR (fun _ => 0)), kO o_17 2 [.int (nI 1), .ref pl_22, .ref kn_22, .ref tc_22, .ref tk_22, .int (nI 1), .int (nI 0), .int (nI 0), .int (nI 0)], kC G pl_22 60 (nR (fun _ => 0)), kC G kn_22 60 (nR (fun _ => 0)), kC G tc_22 20 (nR (fun _ => 0)), kC G tk_22 20 (nR (fun _ => 0)), kO o_29 0 [.ref lf_33], kC G lf_33 8 (nR bIni)] := hD
  exact k_vret (ws := [kO r0 1 [.null, .null, .null, .int (nI 0), .int (nI 0)]]) ((o_5, pl_10, kn_10, tc_10, tk_10, o_17, pl_22, kn_22, tc_22, tk_22, o_29, lf_33)) hx hb hr hlocks hP hD hS hAe hQ (Nat.le_of_ble_eq_true rfl) (Nat.le_of_ble_eq_true rfl) dX1_init_49 (rfl) (trivial)
set_option maxHeartbeats 4000000 in
set_option maxRecDepth 100000 in
theorem c_X3init (l : Launch) (G : kG) (x0 : Nat)  : kM l G yX3_init wsX3_init ({ frames := 3, cells := 26, slots := 704, locals := 53 } : Room) [.ref x0] [kO x0 3 [.null, .null]] (kQv G [kO x0 3 [.null, .null]] (fun (_ : Nat × Nat × Nat × Nat × Nat × Nat × Nat × Nat × Nat × Nat × Nat × Nat × Nat × Nat × Nat × Nat × Nat × Nat × Nat × Nat × Nat × Nat × Nat × Nat × Nat × Nat) => True) (fun (u : Nat × Nat × Nat × Nat × Nat × Nat × Nat × Nat × Nat × Nat × Nat × Nat × Nat × Nat × Nat × Nat × Nat × Nat × Nat × Nat × Nat × Nat × Nat × Nat × Nat × Nat) => [kO x0 3 [.ref u.1, .ref u.2.2.2.2.2.2.2.2.2.2.2.2.2.1], kO u.1 1 [.ref u.2.1, .ref u.2.2.2.2.2.2.1, .ref u.2.2.2.2.2.2.2.2.2.2.2.1, .int (nI 0), .int (nI 0)], kO u.2.1 2 [.int (nI 0), .ref u.2.2.1, .ref u.2.2.2.1, .ref u.2.2.2.2.1, .ref u.2.2.2.2.2.1, .int (nI (vS wIni)), .int (nI (vT wIni)), .int (nI (vM wIni)), .int (nI (vO wIni))], kC G u.2.2.1 60 (nR (vP wIni)), kC G u.2.2.2.1 60 (nR (vK wIni)), kC G u.2.2.2.2.1 20 (nR (vC wIni)), kC G u.2.2.2.2.2.1 20 (nR (vN wIni)), kO u.2.2.2.2.2.2.1 2 [.int (nI 1), .ref u.2.2.2.2.2.2.2.1, .ref u.2.2.2.2.2.2.2.2.1, .ref u.2.2.2.2.2.2.2.2.2.1, .ref u.2.2.2.2.2.2.2.2.2.2.1, .int (nI (vS wIni)), .int (nI (vT wIni)), .int (nI (vM wIni)), .int (nI (vO wIni))], kC G u.2.2.2.2.2.2.2.1 60 (nR (vP wIni)), kC G u.2.2.2.2.2.2.2.2.1 60 (nR (vK wIni)), kC G u.2.2.2.2.2.2.2.2.2.1 20 (nR (vC wIni)), kC G u.2.2.2.2.2.2.2.2.2.2.1 20 (nR (vN wIni)), kO u.2.2.2.2.2.2.2.2.2.2.2.1 0 [.ref u.2.2.2.2.2.2.2.2.2.2.2.2.1], kC G u.2.2.2.2.2.2.2.2.2.2.2.2.1 8 (nR bIni), kO u.2.2.2.2.2.2.2.2.2.2.2.2.2.1 1 [.ref u.2.2.2.2.2.2.2.2.2.2.2.2.2.2.1, .ref u.2.2.2.2.2.2.2.2.2.2.2.2.2.2.2.2.2.2.2.1, .ref u.2.2.2.2.2.2.2.2.2.2.2.2.2.2.2.2.2.2.2.2.2.2.2.2.1, .int (nI 0), .int (nI 0)], kO u.2.2.2.2.2.2.2.2.2.2.2.2.2.2.1 2 [.int (nI 0), .ref u.2.2.2.2.2.2.2.2.2.2.2.2.2.2.2.1, .ref u.2.2.2.2.2.2.2.2.2.2.2.2.2.2.2.2.1, .ref u.2.2.2.2.2.2.2.2.2.2.2.2.2.2.2.2.2.1, .ref u.2.2.2.2.2.2.2.2.2.2.2.2.2.2.2.2.2.2.1, .int (nI (vS wIni)), .int (nI (vT wIni)), .int (nI (vM wIni)), .int (nI (vO wIni))], kC G u.2.2.2.2.2.2.2.2.2.2.2.2.2.2.2.1 60 (nR (vP wIni)), kC G u.2.2.2.2.2.2.2.2.2.2.2.2.2.2.2.2.1 60 (nR (vK wIni)), kC G u.2.2.2.2.2.2.2.2.2.2.2.2.2.2.2.2.2.1 20 (nR (vC wIni)), kC G u.2.2.2.2.2.2.2.2.2.2.2.2.2.2.2.2.2.2.1 20 (nR (vN wIni)), kO u.2.2.2.2.2.2.2.2.2.2.2.2.2.2.2.2.2.2.2.1 2 [.int (nI 1), .ref u.2.2.2.2.2.2.2.2.2.2.2.2.2.2.2.2.2.2.2.2.1, .ref u.2.2.2.2.2.2.2.2.2.2.2.2.2.2.2.2.2.2.2.2.2.1, .ref u.2.2.2.2.2.2.2.2.2.2.2.2.2.2.2.2.2.2.2.2.2.2.1, .ref u.2.2.2.2.2.2.2.2.2.2.2.2.2.2.2.2.2.2.2.2.2.2.2.1, .int (nI (vS wIni)), .int (nI (vT wIni)), .int (nI (vM wIni)), .int (nI (vO wIni))], kC G u.2.2.2.2.2.2.2.2.2.2.2.2.2.2.2.2.2.2.2.2.1 60 (nR (vP wIni)), kC G u.2.2.2.2.2.2.2.2.2.2.2.2.2.2.2.2.2.2.2.2.2.1 60 (nR (vK wIni)), kC G u.2.2.2.2.2.2.2.2.2.2.2.2.2.2.2.2.2.2.2.2.2.2.1 20 (nR (vC wIni)), kC G u.2.2.2.2.2.2.2.2.2.2.2.2.2.2.2.2.2.2.2.2.2.2.2.1 20 (nR (vN wIni)), kO u.2.2.2.2.2.2.2.2.2.2.2.2.2.2.2.2.2.2.2.2.2.2.2.2.1 0 [.ref u.2.2.2.2.2.2.2.2.2.2.2.2.2.2.2.2.2.2.2.2.2.2.2.2.2], kC G u.2.2.2.2.2.2.2.2.2.2.2.2.2.2.2.2.2.2.2.2.2.2.2.2.2 8 (nR bIni)])) := by
  refine k_ofW (cc := cX3_init) (maxL := 1) (rt := none) (by decide) rfl (Nat.le_of_ble_eq_true rfl) ?_
  intro p e s m args below meth c A ls Qs H locs hQ hAe hx hb hr hml hts hown hlocks hin hK hZ hP hD hS hA hl
  have hown : s.vm.findClass RX3 = some m.cls := hown
  have hl : lv_has ls 1 [(0, .ref x0)] := hl
  have hq_0 : (Cond.methodLink RX3 1 objectInit).before args s = true := hts _ (by decide +kernel)
  have hq_1 : (Cond.instanceMethod objectInit).before args s = true := hts _ (by decide +kernel)
  have hq_2 : (Cond.code objectInit ⟨#[0xb1]⟩ 1 none).before args s = true := hts _ (by decide +kernel)
  have hq_3 : ∀ w ∈ wsX10, w ∈ wsX3_init := by decide +kernel
  have hq_4 : (Cond.classLink RX3 7 RX1).before args s = true := hts _ (by decide +kernel)
  have hq_5 : (Cond.instantiable RX1 5).before args s = true := hts _ (by decide +kernel)
  have hq_6 : (Cond.initialized RX1).before args s = true := hts _ (by decide +kernel)
  have hq_7 : va_Nw (.methodLinkNest RX3 9 yX1_init RX3) s := hK.2.1 (RX3, 9, yX1_init) (List.mem_of_getElem? (i := 0) rfl)
  have hq_8 : (Cond.instanceMethod yX1_init).before args s = true := hts _ (by decide +kernel)
  have hq_9 : ∀ w ∈ wsX30, w ∈ wsX3_init := by decide +kernel
  have hq_10 : (Cond.fieldLink RX3 10 "KnotRugs" "rug" "LKnotRugs$Rug;").before args s = true := hts _ (by decide +kernel)
  have hq_11 : (Cond.fieldLink RX3 16 "KnotRugs" "trial" "LKnotRugs$Rug;").before args s = true := hts _ (by decide +kernel)
  refine lv_aload_n hx hb dX3_init_0 rfl (lv_at hl 0 rfl) ?_
  refine W.objInit hx hb hown hq_0 hq_1 hq_2 rfl (by rw [hml]; exact hl.1) rfl dX3_init_1 (Nat.le_of_ble_eq_true rfl) (Nat.le_of_ble_eq_true rfl) ?_
  refine W.eq (g2 := F0 m 4 ls []) rfl ?_
  refine lv_aload_n hx hb dX3_init_4 rfl (lv_at hl 0 rfl) ?_
  refine va_new (D := G.1) (ci := 1) (fs := [.null, .null, .null, .int (nI 0), .int (nI 0)]) (C := RX1) (T := TX1) (N := 5) hx hb hts hq_3 tyX1 tyX1_ok hown hq_4 hq_5 hq_6 hK.1 hP hD hS hA rfl (fun j hj => by rcases (show j = 0 ∨ j = 1 ∨ j = 2 ∨ j = 3 ∨ j = 4 by omega) with rfl | rfl | rfl | rfl | rfl <;> rfl) (Nat.le_of_ble_eq_true rfl) (Nat.le_of_ble_eq_true rfl) dX3_init_5 (fun o_5 H hP hD hS => ?_)
  have hP : va_P G.1 vwCl [kO x0 3 [.null, .null], kO o_5 1 [.null, .null, .null, .int (nI 0), .int (nI 0)]] H := hP
  have hD : va_D A [kO x0 3 [.null, .null], kO o_5 1 [.null, .null, .null, .int (nI 0), .int (nI 0)]] := hD
  refine lv_dup hx hb dX3_init_8 rfl ?_
  refine k_callv (fun u_9 => [kO x0 3 [.null, .null], kO o_5 1 [.ref u_9.1, .ref u_9.2.2.2.2.2.1, .ref u_9.2.2.2.2.2.2.2.2.2.2.1, .int (nI 0), .int (nI 0)], kO u_9.1 2 [.int (nI 0), .ref u_9.2.1, .ref u_9.2.2.1, .ref u_9.2.2.2.1, .ref u_9.2.2.2.2.1, .int (nI (vS wIni)), .int (nI (vT wIni)), .int (nI (vM wIni)), .int (nI (vO wIni))], kC G u_9.2.1 60 (nR (vP wIni)), kC G u_9.2.2.1 60 (nR (vK wIni)), kC G u_9.2.2.2.1 20 (nR (vC wIni)), kC G u_9.2.2.2.2.1 20 (nR (vN wIni)), kO u_9.2.2.2.2.2.1 2 [.int (nI 1), .ref u_9.2.2.2.2.2.2.1, .ref u_9.2.2.2.2.2.2.2.1, .ref u_9.2.2.2.2.2.2.2.2.1, .ref u_9.2.2.2.2.2.2.2.2.2.1, .int (nI (vS wIni)), .int (nI (vT wIni)), .int (nI (vM wIni)), .int (nI (vO wIni))], kC G u_9.2.2.2.2.2.2.1 60 (nR (vP wIni)), kC G u_9.2.2.2.2.2.2.2.1 60 (nR (vK wIni)), kC G u_9.2.2.2.2.2.2.2.2.1 20 (nR (vC wIni)), kC G u_9.2.2.2.2.2.2.2.2.2.1 20 (nR (vN wIni)), kO u_9.2.2.2.2.2.2.2.2.2.2.1 0 [.ref u_9.2.2.2.2.2.2.2.2.2.2.2], kC G u_9.2.2.2.2.2.2.2.2.2.2.2 8 (nR bIni)]) [kO x0 3 [.null, .null]] (k_runIN (As := []) (rest := [.ref o_5, .ref x0]) (wc := [kO o_5 1 [.null, .null, .null, .int (nI 0), .int (nI 0)]]) ⟨hx, hb, hml, hown, hts⟩ (c_X1init l G o_5 ) ⟨va_cnB (host := RX3) (index := 9) (own := RX3) 0 hts gX3_init_X1_init_n9 rfl rfl rfl hq_7 hq_6 (by decide +kernel) ⟨Nat.le_of_ble_eq_true rfl, Nat.le_of_ble_eq_true rfl⟩, rfl, hq_8⟩ hK hZ hP hD hS hA [1] rfl rfl rfl hl.1 rfl (Nat.le_of_ble_eq_true rfl) dX3_init_9 ⟨Nat.le_of_ble_eq_true rfl, Nat.le_of_ble_eq_true rfl⟩) hP hD hS hA [1] [0] [0, 1, 2, 3, 4, 5, 6, 7, 8, 9, 10, 11, 12, 13] rfl rfl rfl (by decide) (fun _ => rfl) rfl (fun u_9 H locs hp_9 hP hD hS => ?_)
  obtain ⟨l0_9, l1_9, l2_9, l3_9, l4_9, m0_9, m1_9, m2_9, m3_9, m4_9, b0_9, b1_9⟩ := u_9
  have hP : va_P G.1 vwCl [kO x0 3 [.null, .null], kO o_5 1 [.ref l0_9, .ref m0_9, .ref b0_9, .int (nI 0), .int (nI 0)], kO l0_9 2 [.int (nI 0), .ref l1_9, .ref l2_9, .ref l3_9, .ref l4_9, .int (nI (vS wIni)), .int (nI (vT wIni)), .int (nI (vM wIni)), .int (nI (vO wIni))], kC G l1_9 60 (nR (vP wIni)), kC G l2_9 60 (nR (vK wIni)), kC G l3_9 20 (nR (vC wIni)), kC G l4_9 20 (nR (vN wIni)), kO m0_9 2 [.int (nI 1), .ref m1_9, .ref m2_9, .ref m3_9, .ref m4_9, .int (nI (vS wIni)), .int (nI (vT wIni)), .int (nI (vM wIni)), .int (nI (vO wIni))], kC G m1_9 60 (nR (vP wIni)), kC G m2_9 60 (nR (vK wIni)), kC G m3_9 20 (nR (vC wIni)), kC G m4_9 20 (nR (vN wIni)), kO b0_9 0 [.ref b1_9], kC G b1_9 8 (nR bIni)] H := hP
  have hD : va_D A [kO x0 3 [.null, .null], kO o_5 1 [.ref l0_9, .ref m0_9, .ref b0_9, .int (nI 0), .int (nI 0)], kO l0_9 2 [.int (nI 0), .ref l1_9, .ref l2_9, .ref l3_9, .ref l4_9, .int (nI (vS wIni)), .int (nI (vT wIni)), .int (nI (vM wIni)), .int (nI (vO wIni))], kC G l1_9 60 (nR (vP wIni)), kC G l2_9 60 (nR (vK wIni)), kC G l3_9 20 (nR (vC wIni)), kC G l4_9 20 (nR (vN wIni)), kO m0_9 2 [.int (nI 1), .ref m1_9, .ref m2_9, .ref m3_9, .ref m4_9, .int (nI (vS wIni)), .int (nI (vT wIni)), .int (nI (vM wIni)), .int (nI (vO wIni))], kC G m1_9 60 (nR (vP wIni)), kC G m2_9 60 (nR (vK wIni)), kC G m3_9 20 (nR (vC wIni)), kC G m4_9 20 (nR (vN wIni)), kO b0_9 0 [.ref b1_9], kC G b1_9 8 (nR bIni)] := hD
  refine va_putF (D := G.1) (ci := 3) (v := .ref o_5) (ty := .object "KnotRugs$Rug") (C := RX3) (T := TX3) (N := 2) hx hb hts hq_9 tyX3 tyX3_ok nmX3 hown hK.1 hP hD hS 0 rfl rfl 0 (by decide) hq_10 (fun _ h9 => h9) rfl hin rfl (by decide +kernel) rfl rfl (Nat.le_of_ble_eq_true rfl) dX3_init_12 (fun H locs hP hD hS => ?_)
  have hP : va_P G.1 vwCl [kO x0 3 [.ref o_5, .null], kO o_5 1 [.ref l0_9, .ref m0_9, .ref b0_9, .int (nI 0), .int (nI 0)], kO l0_9 2 [.int (nI 0), .ref l1_9, .ref l2_9, .ref l3_9, .ref l4_9, .int (nI (vS wIni)), .int (nI (vT wIni)), .int (nI (vM wIni)), .int (nI (vO wIni))], kC G l1_9 60 (nR (vP wIni)), kC G l2_9 60 (nR (vK wIni)), kC G l3_9 20 (nR (vC wIni)), kC G l4_9 20 (nR (vN wIni)), kO m0_9 2 [.int (nI 1), .ref m1_9, .ref m2_9, .ref m3_9, .ref m4_9, .int (nI (vS wIni)), .int (nI (vT wIni)), .int (nI (vM wIni)), .int (nI (vO wIni))], kC G m1_9 60 (nR (vP wIni)), kC G m2_9 60 (nR (vK wIni)), kC G m3_9 20 (nR (vC wIni)), kC G m4_9 20 (nR (vN wIni)), kO b0_9 0 [.ref b1_9], kC G b1_9 8 (nR bIni)] H := hP
  have hD : va_D A [kO x0 3 [.ref o_5, .null], kO o_5 1 [.ref l0_9, .ref m0_9, .ref b0_9, .int (nI 0), .int (nI 0)], kO l0_9 2 [.int (nI 0), .ref l1_9, .ref l2_9, .ref l3_9, .ref l4_9, .int (nI (vS wIni)), .int (nI (vT wIni)), .int (nI (vM wIni)), .int (nI (vO wIni))], kC G l1_9 60 (nR (vP wIni)), kC G l2_9 60 (nR (vK wIni)), kC G l3_9 20 (nR (vC wIni)), kC G l4_9 20 (nR (vN wIni)), kO m0_9 2 [.int (nI 1), .ref m1_9, .ref m2_9, .ref m3_9, .ref m4_9, .int (nI (vS wIni)), .int (nI (vT wIni)), .int (nI (vM wIni)), .int (nI (vO wIni))], kC G m1_9 60 (nR (vP wIni)), kC G m2_9 60 (nR (vK wIni)), kC G m3_9 20 (nR (vC wIni)), kC G m4_9 20 (nR (vN wIni)), kO b0_9 0 [.ref b1_9], kC G b1_9 8 (nR bIni)] := hD
  refine lv_aload_n hx hb dX3_init_15 rfl (lv_at hl 0 rfl) ?_
  refine va_new (D := G.1) (ci := 1) (fs := [.null, .null, .null, .int (nI 0), .int (nI 0)]) (C := RX1) (T := TX1) (N := 5) hx hb hts hq_3 tyX1 tyX1_ok hown hq_4 hq_5 hq_6 hK.1 hP hD hS hA rfl (fun j hj => by rcases (show j = 0 ∨ j = 1 ∨ j = 2 ∨ j = 3 ∨ j = 4 by omega) with rfl | rfl | rfl | rfl | rfl <;> rfl) (Nat.le_of_ble_eq_true rfl) (Nat.le_of_ble_eq_true rfl) dX3_init_16 (fun o_16 H hP hD hS => ?_)
  have hP : va_P G.1 vwCl [kO x0 3 [.ref o_5, .null], kO o_5 1 [.ref l0_9, .ref m0_9, .ref b0_9, .int (nI 0), .int (nI 0)], kO l0_9 2 [.int (nI 0), .ref l1_9, .ref l2_9, .ref l3_9, .ref l4_9, .int (nI (vS wIni)), .int (nI (vT wIni)), .int (nI (vM wIni)), .int (nI (vO wIni))], kC G l1_9 60 (nR (vP wIni)), kC G l2_9 60 (nR (vK wIni)), kC G l3_9 20 (nR (vC wIni)), kC G l4_9 20 (nR (vN wIni)), kO m0_9 2 [.int (nI 1), .ref m1_9, .ref m2_9, .ref m3_9, .ref m4_9, .int (nI (vS wIni)), .int (nI (vT wIni)), .int (nI (vM wIni)), .int (nI (vO wIni))], kC G m1_9 60 (nR (vP wIni)), kC G m2_9 60 (nR (vK wIni)), kC G m3_9 20 (nR (vC wIni)), kC G m4_9 20 (nR (vN wIni)), kO b0_9 0 [.ref b1_9], kC G b1_9 8 (nR bIni), kO o_16 1 [.null, .null, .null, .int (nI 0), .int (nI 0)]] H := hP
  have hD : va_D A [kO x0 3 [.ref o_5, .null], kO o_5 1 [.ref l0_9, .ref m0_9, .ref b0_9, .int (nI 0), .int (nI 0)], kO l0_9 2 [.int (nI 0), .ref l1_9, .ref l2_9, .ref l3_9, .ref l4_9, .int (nI (vS wIni)), .int (nI (vT wIni)), .int (nI (vM wIni)), .int (nI (vO wIni))], kC G l1_9 60 (nR (vP wIni)), kC G l2_9 60 (nR (vK wIni)), kC G l3_9 20 (nR (vC wIni)), kC G l4_9 20 (nR (vN wIni)), kO m0_9 2 [.int (nI 1), .ref m1_9, .ref m2_9, .ref m3_9, .ref m4_9, .int (nI (vS wIni)), .int (nI (vT wIni)), .int (nI (vM wIni)), .int (nI (vO wIni))], kC G m1_9 60 (nR (vP wIni)), kC G m2_9 60 (nR (vK wIni)), kC G m3_9 20 (nR (vC wIni)), kC G m4_9 20 (nR (vN wIni)), kO b0_9 0 [.ref b1_9], kC G b1_9 8 (nR bIni), kO o_16 1 [.null, .null, .null, .int (nI 0), .int (nI 0)]] := hD
  refine lv_dup hx hb dX3_init_19 rfl ?_
  refine k_callv (fun u_20 => [kO x0 3 [.ref o_5, .null], kO o_5 1 [.ref l0_9, .ref m0_9, .ref b0_9, .int (nI 0), .int (nI 0)], kO l0_9 2 [.int (nI 0), .ref l1_9, .ref l2_9, .ref l3_9, .ref l4_9, .int (nI (vS wIni)), .int (nI (vT wIni)), .int (nI (vM wIni)), .int (nI (vO wIni))], kC G l1_9 60 (nR (vP wIni)), kC G l2_9 60 (nR (vK wIni)), kC G l3_9 20 (nR (vC wIni)), kC G l4_9 20 (nR (vN wIni)), kO m0_9 2 [.int (nI 1), .ref m1_9, .ref m2_9, .ref m3_9, .ref m4_9, .int (nI (vS wIni)), .int (nI (vT wIni)), .int (nI (vM wIni)), .int (nI (vO wIni))], kC G m1_9 60 (nR (vP wIni)), kC G m2_9 60 (nR (vK wIni)), kC G m3_9 20 (nR (vC wIni)), kC G m4_9 20 (nR (vN wIni)), kO b0_9 0 [.ref b1_9], kC G b1_9 8 (nR bIni), kO o_16 1 [.ref u_20.1, .ref u_20.2.2.2.2.2.1, .ref u_20.2.2.2.2.2.2.2.2.2.2.1, .int (nI 0), .int (nI 0)], kO u_20.1 2 [.int (nI 0), .ref u_20.2.1, .ref u_20.2.2.1, .ref u_20.2.2.2.1, .ref u_20.2.2.2.2.1, .int (nI (vS wIni)), .int (nI (vT wIni)), .int (nI (vM wIni)), .int (nI (vO wIni))], kC G u_20.2.1 60 (nR (vP wIni)), kC G u_20.2.2.1 60 (nR (vK wIni)), kC G u_20.2.2.2.1 20 (nR (vC wIni)), kC G u_20.2.2.2.2.1 20 (nR (vN wIni)), kO u_20.2.2.2.2.2.1 2 [.int (nI 1), .ref u_20.2.2.2.2.2.2.1, .ref u_20.2.2.2.2.2.2.2.1, .ref u_20.2.2.2.2.2.2.2.2.1, .ref u_20.2.2.2.2.2.2.2.2.2.1, .int (nI (vS wIni)), .int (nI (vT wIni)), .int (nI (vM wIni)), .int (nI (vO wIni))], kC G u_20.2.2.2.2.2.2.1 60 (nR (vP wIni)), kC G u_20.2.2.2.2.2.2.2.1 60 (nR (vK wIni)), kC G u_20.2.2.2.2.2.2.2.2.1 20 (nR (vC wIni)), kC G u_20.2.2.2.2.2.2.2.2.2.1 20 (nR (vN wIni)), kO u_20.2.2.2.2.2.2.2.2.2.2.1 0 [.ref u_20.2.2.2.2.2.2.2.2.2.2.2], kC G u_20.2.2.2.2.2.2.2.2.2.2.2 8 (nR bIni)]) [kO x0 3 [.ref o_5, .null], kO o_5 1 [.ref l0_9, .ref m0_9, .ref b0_9, .int (nI 0), .int (nI 0)], kO l0_9 2 [.int (nI 0), .ref l1_9, .ref l2_9, .ref l3_9, .ref l4_9, .int (nI (vS wIni)), .int (nI (vT wIni)), .int (nI (vM wIni)), .int (nI (vO wIni))], kC G l1_9 60 (nR (vP wIni)), kC G l2_9 60 (nR (vK wIni)), kC G l3_9 20 (nR (vC wIni)), kC G l4_9 20 (nR (vN wIni)), kO m0_9 2 [.int (nI 1), .ref m1_9, .ref m2_9, .ref m3_9, .ref m4_9, .int (nI (vS wIni)), .int (nI (vT wIni)), .int (nI (vM wIni)), .int (nI (vO wIni))], kC G m1_9 60 (nR (vP wIni)), kC G m2_9 60 (nR (vK wIni)), kC G m3_9 20 (nR (vC wIni)), kC G m4_9 20 (nR (vN wIni)), kO b0_9 0 [.ref b1_9], kC G b1_9 8 (nR bIni)] (k_runIN (As := []) (rest := [.ref o_16, .ref x0]) (wc := [kO o_16 1 [.null, .null, .null, .int (nI 0), .int (nI 0)]]) ⟨hx, hb, hml, hown, hts⟩ (c_X1init l G o_16 ) ⟨va_cnB (host := RX3) (index := 9) (own := RX3) 0 hts gX3_init_X1_init_n9 rfl rfl rfl hq_7 hq_6 (by decide +kernel) ⟨Nat.le_of_ble_eq_true rfl, Nat.le_of_ble_eq_true rfl⟩, rfl, hq_8⟩ hK hZ hP hD hS hA [14] rfl rfl rfl hl.1 rfl (Nat.le_of_ble_eq_true rfl) dX3_init_20 ⟨Nat.le_of_ble_eq_true rfl, Nat.le_of_ble_eq_true rfl⟩) hP hD hS hA [14] [0, 1, 2, 3, 4, 5, 6, 7, 8, 9, 10, 11, 12, 13] [0, 1, 2, 3, 4, 5, 6, 7, 8, 9, 10, 11, 12, 13, 14, 15, 16, 17, 18, 19, 20, 21, 22, 23, 24, 25, 26] rfl rfl rfl (by decide) (fun _ => rfl) rfl (fun u_20 H locs hp_20 hP hD hS => ?_)
  obtain ⟨l0_20, l1_20, l2_20, l3_20, l4_20, m0_20, m1_20, m2_20, m3_20, m4_20, b0_20, b1_20⟩ := u_20
  have hP : va_P G.1 vwCl [kO x0 3 [.ref o_5, .null], kO o_5 1 [.ref l0_9, .ref m0_9, .ref b0_9, .int (nI 0), .int (nI 0)], kO l0_9 2 [.int (nI 0), .ref l1_9, .ref l2_9, .ref l3_9, .ref l4_9, .int (nI (vS wIni)), .int (nI (vT wIni)), .int (nI (vM wIni)), .int (nI (vO wIni))], kC G l1_9 60 (nR (vP wIni)), kC G l2_9 60 (nR (vK wIni)), kC G l3_9 20 (nR (vC wIni)), kC G l4_9 20 (nR (vN wIni)), kO m0_9 2 [.int (nI 1), .ref m1_9, .ref m2_9, .ref m3_9, .ref m4_9, .int (nI (vS wIni)), .int (nI (vT wIni)), .int (nI (vM wIni)), .int (nI (vO wIni))], kC G m1_9 60 (nR (vP wIni)), kC G m2_9 60 (nR (vK wIni)), kC G m3_9 20 (nR (vC wIni)), kC G m4_9 20 (nR (vN wIni)), kO b0_9 0 [.ref b1_9], kC G b1_9 8 (nR bIni), kO o_16 1 [.ref l0_20, .ref m0_20, .ref b0_20, .int (nI 0), .int (nI 0)], kO l0_20 2 [.int (nI 0), .ref l1_20, .ref l2_20, .ref l3_20, .ref l4_20, .int (nI (vS wIni)), .int (nI (vT wIni)), .int (nI (vM wIni)), .int (nI (vO wIni))], kC G l1_20 60 (nR (vP wIni)), kC G l2_20 60 (nR (vK wIni)), kC G l3_20 20 (nR (vC wIni)), kC G l4_20 20 (nR (vN wIni)), kO m0_20 2 [.int (nI 1), .ref m1_20, .ref m2_20, .ref m3_20, .ref m4_20, .int (nI (vS wIni)), .int (nI (vT wIni)), .int (nI (vM wIni)), .int (nI (vO wIni))], kC G m1_20 60 (nR (vP wIni)), kC G m2_20 60 (nR (vK wIni)), kC G m3_20 20 (nR (vC wIni)), kC G m4_20 20 (nR (vN wIni)), kO b0_20 0 [.ref b1_20], kC G b1_20 8 (nR bIni)] H := hP
  have hD : va_D A [kO x0 3 [.ref o_5, .null], kO o_5 1 [.ref l0_9, .ref m0_9, .ref b0_9, .int (nI 0), .int (nI 0)], kO l0_9 2 [.int (nI 0), .ref l1_9, .ref l2_9, .ref l3_9, .ref l4_9, .int (nI (vS wIni)), .int (nI (vT wIni)), .int (nI (vM wIni)), .int (nI (vO wIni))], kC G l1_9 60 (nR (vP wIni)), kC G l2_9 60 (nR (vK wIni)), kC G l3_9 20 (nR (vC wIni)), kC G l4_9 20 (nR (vN wIni)), kO m0_9 2 [.int (nI 1), .ref m1_9, .ref m2_9, .ref m3_9, .ref m4_9, .int (nI (vS wIni)), .int (nI (vT wIni)), .int (nI (vM wIni)), .int (nI (vO wIni))], kC G m1_9 60 (nR (vP wIni)), kC G m2_9 60 (nR (vK wIni)), kC G m3_9 20 (nR (vC wIni)), kC G m4_9 20 (nR (vN wIni)), kO b0_9 0 [.ref b1_9], kC G b1_9 8 (nR bIni), kO o_16 1 [.ref l0_20, .ref m0_20, .ref b0_20, .int (nI 0), .int (nI 0)], kO l0_20 2 [.int (nI 0), .ref l1_20, .ref l2_20, .ref l3_20, .ref l4_20, .int (nI (vS wIni)), .int (nI (vT wIni)), .int (nI (vM wIni)), .int (nI (vO wIni))], kC G l1_20 60 (nR (vP wIni)), kC G l2_20 60 (nR (vK wIni)), kC G l3_20 20 (nR (vC wIni)), kC G l4_20 20 (nR (vN wIni)), kO m0_20 2 [.int (nI 1), .ref m1_20, .ref m2_20, .ref m3_20, .ref m4_20, .int (nI (vS wIni)), .int (nI (vT wIni)), .int (nI (vM wIni)), .int (nI (vO wIni))], kC G m1_20 60 (nR (vP wIni)), kC G m2_20 60 (nR (vK wIni)), kC G m3_20 20 (nR (vC wIni)), kC G m4_20 20 (nR (vN wIni)), kO b0_20 0 [.ref b1_20], kC G b1_20 8 (nR bIni)] := hD
  refine va_putF (D := G.1) (ci := 3) (v := .ref o_16) (ty := .object "KnotRugs$Rug") (C := RX3) (T := TX3) (N := 2) hx hb hts hq_9 tyX3 tyX3_ok nmX3 hown hK.1 hP hD hS 0 rfl rfl 1 (by decide) hq_11 (fun _ h9 => h9) rfl hin rfl (by decide +kernel) rfl rfl (Nat.le_of_ble_eq_true rfl) dX3_init_23 (fun H locs hP hD hS => ?_)
  have hP : va_P G.1 vwCl [kO x0 3 [.ref o_5, .ref o_16], kO o_5 1 [.ref l0_9, .ref m0_9, .ref b0_9, .int (nI 0), .int (nI 0)], kO l0_9 2 [.int (nI 0), .ref l1_9, .ref l2_9, .ref l3_9, .ref l4_9, .int (nI (vS wIni)), .int (nI (vT wIni)), .int (nI (vM wIni)), .int (nI (vO wIni))], kC G l1_9 60 (nR (vP wIni)), kC G l2_9 60 (nR (vK wIni)), kC G l3_9 20 (nR (vC wIni)), kC G l4_9 20 (nR (vN wIni)), kO m0_9 2 [.int (nI 1), .ref m1_9, .ref m2_9, .ref m3_9, .ref m4_9, .int (nI (vS wIni)), .int (nI (vT wIni)), .int (nI (vM wIni)), .int (nI (vO wIni))], kC G m1_9 60 (nR (vP wIni)), kC G m2_9 60 (nR (vK wIni)), kC G m3_9 20 (nR (vC wIni)), kC G m4_9 20 (nR (vN wIni)), kO b0_9 0 [.ref b1_9], kC G b1_9 8 (nR bIni), kO o_16 1 [.ref l0_20, .ref m0_20, .ref b0_20, .int (nI 0), .int (nI 0)], kO l0_20 2 [.int (nI 0), .ref l1_20, .ref l2_20, .ref l3_20, .ref l4_20, .int (nI (vS wIni)), .int (nI (vT wIni)), .int (nI (vM wIni)), .int (nI (vO wIni))], kC G l1_20 60 (nR (vP wIni)), kC G l2_20 60 (nR (vK wIni)), kC G l3_20 20 (nR (vC wIni)), kC G l4_20 20 (nR (vN wIni)), kO m0_20 2 [.int (nI 1), .ref m1_20, .ref m2_20, .ref m3_20, .ref m4_20, .int (nI (vS wIni)), .int (nI (vT wIni)), .int (nI (vM wIni)), .int (nI (vO wIni))], kC G m1_20 60 (nR (vP wIni)), kC G m2_20 60 (nR (vK wIni)), kC G m3_20 20 (nR (vC wIni)), kC G m4_20 20 (nR (vN wIni)), kO b0_20 0 [.ref b1_20], kC G b1_20 8 (nR bIni)] H := hP
  have hD : va_D A [kO x0 3 [.ref o_5, .ref o_16], kO o_5 1 [.ref l0_9, .ref m0_9, .ref b0_9, .int (nI 0), .int (nI 0)], kO l0_9 2 [.int (nI 0), .ref l1_9, .ref l2_9, .ref l3_9, .ref l4_9, .int (nI (vS wIni)), .int (nI (vT wIni)), .int (nI (vM wIni)), .int (nI (vO wIni))], kC G l1_9 60 (nR (vP wIni)), kC G l2_9 60 (nR (vK wIni)), kC G l3_9 20 (nR (vC wIni)), kC G l4_9 20 (nR (vN wIni)), kO m0_9 2 [.int (nI 1), .ref m1_9, .ref m2_9, .ref m3_9, .ref m4_9, .int (nI (vS wIni)), .int (nI (vT wIni)), .int (nI (vM wIni)), .int (nI (vO wIni))], kC G m1_9 60 (nR (vP wIni)), kC G m2_9 60 (nR (vK wIni)), kC G m3_9 20 (nR (vC wIni)), kC G m4_9 20 (nR (vN wIni)), kO b0_9 0 [.ref b1_9], kC G b1_9 8 (nR bIni), kO o_16 1 [.ref l0_20, .ref m0_20, .ref b0_20, .int (nI 0), .int (nI 0)], kO l0_20 2 [.int (nI 0), .ref l1_20, .ref l2_20, .ref l3_20, .ref l4_20, .int (nI (vS wIni)), .int (nI (vT wIni)), .int (nI (vM wIni)), .int (nI (vO wIni))], kC G l1_20 60 (nR (vP wIni)), kC G l2_20 60 (nR (vK wIni)), kC G l3_20 20 (nR (vC wIni)), kC G l4_20 20 (nR (vN wIni)), kO m0_20 2 [.int (nI 1), .ref m1_20, .ref m2_20, .ref m3_20, .ref m4_20, .int (nI (vS wIni)), .int (nI (vT wIni)), .int (nI (vM wIni)), .int (nI (vO wIni))], kC G m1_20 60 (nR (vP wIni)), kC G m2_20 60 (nR (vK wIni)), kC G m3_20 20 (nR (vC wIni)), kC G m4_20 20 (nR (vN wIni)), kO b0_20 0 [.ref b1_20], kC G b1_20 8 (nR bIni)] := hD
  exact k_vret (ws := [kO x0 3 [.null, .null]]) ((o_5, l0_9, l1_9, l2_9, l3_9, l4_9, m0_9, m1_9, m2_9, m3_9, m4_9, b0_9, b1_9, o_16, l0_20, l1_20, l2_20, l3_20, l4_20, m0_20, m1_20, m2_20, m3_20, m4_20, b0_20, b1_20)) hx hb hr hlocks hP hD hS hAe hQ (Nat.le_of_ble_eq_true rfl) (Nat.le_of_ble_eq_true rfl) dX3_init_26 (rfl) (trivial)
set_option maxHeartbeats 4000000 in
set_option maxRecDepth 100000 in
theorem c_X4init (l : Launch) (G : kG) (q0 : Nat)  : kM l G yX4_init wsX4_init ({ frames := 1, cells := 6, slots := 338, locals := 12 } : Room) [.ref q0] [kO q0 4 [.int (nI 0), .null, .null, .null, .null, .null, .null]] (kQv G [kO q0 4 [.int (nI 0), .null, .null, .null, .null, .null, .null]] (fun (_ : Nat × Nat × Nat × Nat × Nat × Nat) => True) (fun (u : Nat × Nat × Nat × Nat × Nat × Nat) => [kO q0 4 [.int (nI 0), .ref u.1, .ref u.2.1, .ref u.2.2.1, .ref u.2.2.2.1, .ref u.2.2.2.2.1, .ref u.2.2.2.2.2], kC G u.1 8 (nR (peF wIni wIni)), kC G u.2.1 120 (nR (knF wIni wIni)), kC G u.2.2.1 120 (nR (plF wIni wIni)), kC G u.2.2.2.1 80 (nR (fun _ => 0)), kC G u.2.2.2.2.1 8 (nR bIni), kC G u.2.2.2.2.2 2 (nR (nuF 0 0))])) := by
  refine k_ofW (cc := cX4_init) (maxL := 2) (rt := none) (by decide) rfl (Nat.le_of_ble_eq_true rfl) ?_
  intro p e s m args below meth c A ls Qs H locs hQ hAe hx hb hr hml hts hown hlocks hin hK hZ hP hD hS hA hl
  have hown : s.vm.findClass RX4 = some m.cls := hown
  have hl : lv_has ls 2 [(0, .ref q0)] := hl
  have hq_0 : (Cond.methodLink RX4 1 objectInit).before args s = true := hts _ (by decide +kernel)
  have hq_1 : (Cond.instanceMethod objectInit).before args s = true := hts _ (by decide +kernel)
  have hq_2 : (Cond.code objectInit ⟨#[0xb1]⟩ 1 none).before args s = true := hts _ (by decide +kernel)
  have hq_3 : (Cond.arrayClass .int).before args s = true := hts _ (by decide +kernel)
  have hq_4 : ∀ w ∈ wsX40, w ∈ wsX4_init := by decide +kernel
  have hq_5 : (Cond.fieldLink RX4 7 "KnotRugsModel" "people" "[I").before args s = true := hts _ (by decide +kernel)
  have hq_6 : (Cond.fieldLink RX4 13 "KnotRugsModel" "knots" "[I").before args s = true := hts _ (by decide +kernel)
  have hq_7 : (Cond.fieldLink RX4 16 "KnotRugsModel" "plan" "[I").before args s = true := hts _ (by decide +kernel)
  have hq_8 : (Cond.fieldLink RX4 19 "KnotRugsModel" "runs" "[I").before args s = true := hts _ (by decide +kernel)
  have hq_9 : (Cond.fieldLink RX4 22 "KnotRugsModel" "baskets" "[I").before args s = true := hts _ (by decide +kernel)
  have hq_10 : (Cond.fieldLink RX4 25 "KnotRugsModel" "numbers" "[I").before args s = true := hts _ (by decide +kernel)
  refine lv_aload_n hx hb dX4_init_0 rfl (lv_at hl 0 rfl) ?_
  refine W.objInit hx hb hown hq_0 hq_1 hq_2 rfl (by rw [hml]; exact hl.1) rfl dX4_init_1 (Nat.le_of_ble_eq_true rfl) (Nat.le_of_ble_eq_true rfl) ?_
  refine W.eq (g2 := F0 m 4 ls []) rfl ?_
  refine lv_aload_n hx hb dX4_init_4 rfl (lv_at hl 0 rfl) ?_
  refine lv_bipush (v := nI 8) hx hb dX4_init_5 (by decide) ?_
  refine k_newi hx hb hq_3 hK hP hD hS hA (N' := 8) (by decide) (by decide) (by decide) (Nat.le_of_ble_eq_true rfl) (Nat.le_of_ble_eq_true rfl) dX4_init_7 (fun g_7 H hP hD hS => ?_)
  have hP : va_P G.1 vwCl [kO q0 4 [.int (nI 0), .null, .null, .null, .null, .null, .null], kC G g_7 8 (nR (fun _ => 0))] H := hP
  have hD : va_D A [kO q0 4 [.int (nI 0), .null, .null, .null, .null, .null, .null], kC G g_7 8 (nR (fun _ => 0))] := hD
  refine lv_dup hx hb dX4_init_9 rfl ?_
  refine lv_iconst (v := nI 0) hx hb dX4_init_10 (by decide) ?_
  refine lv_iconst (v := nI 1) hx hb dX4_init_11 (by decide) ?_
  have hi_1 : 0 < 8 := by omega
  refine va_iast (D := G.1) hx hb hK.1 hP hD hS 1 0 rfl rfl (vp_in_nI hi_1 (by omega)) dX4_init_12 (fun H locs hP hD hS => ?_)
  rw [nR_upd (f := (fun _ => 0)) (k := 0) (v := 1) (by omega)] at hP hD
  have hP : va_P G.1 vwCl [kO q0 4 [.int (nI 0), .null, .null, .null, .null, .null, .null], kC G g_7 8 (nR (updN (fun _ => 0) 0 1))] H := hP
  have hD : va_D A [kO q0 4 [.int (nI 0), .null, .null, .null, .null, .null, .null], kC G g_7 8 (nR (updN (fun _ => 0) 0 1))] := hD
  refine lv_dup hx hb dX4_init_13 rfl ?_
  refine lv_iconst (v := nI 1) hx hb dX4_init_14 (by decide) ?_
  refine lv_iconst (v := nI 0) hx hb dX4_init_15 (by decide) ?_
  have hi_2 : 1 < 8 := by omega
  refine va_iast (D := G.1) hx hb hK.1 hP hD hS 1 0 rfl rfl (vp_in_nI hi_2 (by omega)) dX4_init_16 (fun H locs hP hD hS => ?_)
  rw [nR_upd (f := (updN (fun _ => 0) 0 1)) (k := 1) (v := 0) (by omega)] at hP hD
  have hP : va_P G.1 vwCl [kO q0 4 [.int (nI 0), .null, .null, .null, .null, .null, .null], kC G g_7 8 (nR (updN (updN (fun _ => 0) 0 1) 1 0))] H := hP
  have hD : va_D A [kO q0 4 [.int (nI 0), .null, .null, .null, .null, .null, .null], kC G g_7 8 (nR (updN (updN (fun _ => 0) 0 1) 1 0))] := hD
  refine lv_dup hx hb dX4_init_17 rfl ?_
  refine lv_iconst (v := nI 2) hx hb dX4_init_18 (by decide) ?_
  refine lv_iconst (v := nI 0) hx hb dX4_init_19 (by decide) ?_
  have hi_3 : 2 < 8 := by omega
  refine va_iast (D := G.1) hx hb hK.1 hP hD hS 1 0 rfl rfl (vp_in_nI hi_3 (by omega)) dX4_init_20 (fun H locs hP hD hS => ?_)
  rw [nR_upd (f := (updN (updN (fun _ => 0) 0 1) 1 0)) (k := 2) (v := 0) (by omega)] at hP hD
  have hP : va_P G.1 vwCl [kO q0 4 [.int (nI 0), .null, .null, .null, .null, .null, .null], kC G g_7 8 (nR (updN (updN (updN (fun _ => 0) 0 1) 1 0) 2 0))] H := hP
  have hD : va_D A [kO q0 4 [.int (nI 0), .null, .null, .null, .null, .null, .null], kC G g_7 8 (nR (updN (updN (updN (fun _ => 0) 0 1) 1 0) 2 0))] := hD
  refine lv_dup hx hb dX4_init_21 rfl ?_
  refine lv_iconst (v := nI 3) hx hb dX4_init_22 (by decide) ?_
  refine lv_iconst (v := nI 0) hx hb dX4_init_23 (by decide) ?_
  have hi_4 : 3 < 8 := by omega
  refine va_iast (D := G.1) hx hb hK.1 hP hD hS 1 0 rfl rfl (vp_in_nI hi_4 (by omega)) dX4_init_24 (fun H locs hP hD hS => ?_)
  rw [nR_upd (f := (updN (updN (updN (fun _ => 0) 0 1) 1 0) 2 0)) (k := 3) (v := 0) (by omega)] at hP hD
  have hP : va_P G.1 vwCl [kO q0 4 [.int (nI 0), .null, .null, .null, .null, .null, .null], kC G g_7 8 (nR (updN (updN (updN (updN (fun _ => 0) 0 1) 1 0) 2 0) 3 0))] H := hP
  have hD : va_D A [kO q0 4 [.int (nI 0), .null, .null, .null, .null, .null, .null], kC G g_7 8 (nR (updN (updN (updN (updN (fun _ => 0) 0 1) 1 0) 2 0) 3 0))] := hD
  refine lv_dup hx hb dX4_init_25 rfl ?_
  refine lv_iconst (v := nI 4) hx hb dX4_init_26 (by decide) ?_
  refine lv_iconst (v := nI 1) hx hb dX4_init_27 (by decide) ?_
  have hi_5 : 4 < 8 := by omega
  refine va_iast (D := G.1) hx hb hK.1 hP hD hS 1 0 rfl rfl (vp_in_nI hi_5 (by omega)) dX4_init_28 (fun H locs hP hD hS => ?_)
  rw [nR_upd (f := (updN (updN (updN (updN (fun _ => 0) 0 1) 1 0) 2 0) 3 0)) (k := 4) (v := 1) (by omega)] at hP hD
  have hP : va_P G.1 vwCl [kO q0 4 [.int (nI 0), .null, .null, .null, .null, .null, .null], kC G g_7 8 (nR (updN (updN (updN (updN (updN (fun _ => 0) 0 1) 1 0) 2 0) 3 0) 4 1))] H := hP
  have hD : va_D A [kO q0 4 [.int (nI 0), .null, .null, .null, .null, .null, .null], kC G g_7 8 (nR (updN (updN (updN (updN (updN (fun _ => 0) 0 1) 1 0) 2 0) 3 0) 4 1))] := hD
  refine lv_dup hx hb dX4_init_29 rfl ?_
  refine lv_iconst (v := nI 5) hx hb dX4_init_30 (by decide) ?_
  refine lv_iconst (v := nI 0) hx hb dX4_init_31 (by decide) ?_
  have hi_6 : 5 < 8 := by omega
  refine va_iast (D := G.1) hx hb hK.1 hP hD hS 1 0 rfl rfl (vp_in_nI hi_6 (by omega)) dX4_init_32 (fun H locs hP hD hS => ?_)
  rw [nR_upd (f := (updN (updN (updN (updN (updN (fun _ => 0) 0 1) 1 0) 2 0) 3 0) 4 1)) (k := 5) (v := 0) (by omega)] at hP hD
  have hP : va_P G.1 vwCl [kO q0 4 [.int (nI 0), .null, .null, .null, .null, .null, .null], kC G g_7 8 (nR (updN (updN (updN (updN (updN (updN (fun _ => 0) 0 1) 1 0) 2 0) 3 0) 4 1) 5 0))] H := hP
  have hD : va_D A [kO q0 4 [.int (nI 0), .null, .null, .null, .null, .null, .null], kC G g_7 8 (nR (updN (updN (updN (updN (updN (updN (fun _ => 0) 0 1) 1 0) 2 0) 3 0) 4 1) 5 0))] := hD
  refine lv_dup hx hb dX4_init_33 rfl ?_
  refine lv_bipush (v := nI 6) hx hb dX4_init_34 (by decide) ?_
  refine lv_iconst (v := nI 0) hx hb dX4_init_36 (by decide) ?_
  have hi_7 : 6 < 8 := by omega
  refine va_iast (D := G.1) hx hb hK.1 hP hD hS 1 0 rfl rfl (vp_in_nI hi_7 (by omega)) dX4_init_37 (fun H locs hP hD hS => ?_)
  rw [nR_upd (f := (updN (updN (updN (updN (updN (updN (fun _ => 0) 0 1) 1 0) 2 0) 3 0) 4 1) 5 0)) (k := 6) (v := 0) (by omega)] at hP hD
  have hP : va_P G.1 vwCl [kO q0 4 [.int (nI 0), .null, .null, .null, .null, .null, .null], kC G g_7 8 (nR (updN (updN (updN (updN (updN (updN (updN (fun _ => 0) 0 1) 1 0) 2 0) 3 0) 4 1) 5 0) 6 0))] H := hP
  have hD : va_D A [kO q0 4 [.int (nI 0), .null, .null, .null, .null, .null, .null], kC G g_7 8 (nR (updN (updN (updN (updN (updN (updN (updN (fun _ => 0) 0 1) 1 0) 2 0) 3 0) 4 1) 5 0) 6 0))] := hD
  refine lv_dup hx hb dX4_init_38 rfl ?_
  refine lv_bipush (v := nI 7) hx hb dX4_init_39 (by decide) ?_
  refine lv_iconst (v := nI 0) hx hb dX4_init_41 (by decide) ?_
  have hi_8 : 7 < 8 := by omega
  refine va_iast (D := G.1) hx hb hK.1 hP hD hS 1 0 rfl rfl (vp_in_nI hi_8 (by omega)) dX4_init_42 (fun H locs hP hD hS => ?_)
  rw [nR_upd (f := (updN (updN (updN (updN (updN (updN (updN (fun _ => 0) 0 1) 1 0) 2 0) 3 0) 4 1) 5 0) 6 0)) (k := 7) (v := 0) (by omega)] at hP hD
  have hP : va_P G.1 vwCl [kO q0 4 [.int (nI 0), .null, .null, .null, .null, .null, .null], kC G g_7 8 (nR (updN (updN (updN (updN (updN (updN (updN (updN (fun _ => 0) 0 1) 1 0) 2 0) 3 0) 4 1) 5 0) 6 0) 7 0))] H := hP
  have hD : va_D A [kO q0 4 [.int (nI 0), .null, .null, .null, .null, .null, .null], kC G g_7 8 (nR (updN (updN (updN (updN (updN (updN (updN (updN (fun _ => 0) 0 1) 1 0) 2 0) 3 0) 4 1) 5 0) 6 0) 7 0))] := hD
  have hP := kP_swap hP 1 (nR (peF wIni wIni)) rfl rfl (fun j _ => congrArg (fun f : Nat → Nat => nR f j) pe_ini)
  have hD := kD_swap (e := .inl (G.2.1, 8, .inl (nR (peF wIni wIni)))) hD 1 rfl rfl
  have hP : va_P G.1 vwCl [kO q0 4 [.int (nI 0), .null, .null, .null, .null, .null, .null], kC G g_7 8 (nR (peF wIni wIni))] H := hP
  have hD : va_D A [kO q0 4 [.int (nI 0), .null, .null, .null, .null, .null, .null], kC G g_7 8 (nR (peF wIni wIni))] := hD
  refine va_putF (D := G.1) (ci := 4) (v := .ref g_7) (ty := .array .int) (C := RX4) (T := TX4) (N := 7) hx hb hts hq_4 tyX4 tyX4_ok nmX4 hown hK.1 hP hD hS 0 rfl rfl 1 (by decide) hq_5 (fun _ h9 => h9) rfl hin rfl (by decide +kernel) rfl rfl (Nat.le_of_ble_eq_true rfl) dX4_init_43 (fun H locs hP hD hS => ?_)
  have hP : va_P G.1 vwCl [kO q0 4 [.int (nI 0), .ref g_7, .null, .null, .null, .null, .null], kC G g_7 8 (nR (peF wIni wIni))] H := hP
  have hD : va_D A [kO q0 4 [.int (nI 0), .ref g_7, .null, .null, .null, .null, .null], kC G g_7 8 (nR (peF wIni wIni))] := hD
  refine lv_aload_n hx hb dX4_init_46 rfl (lv_at hl 0 rfl) ?_
  refine lv_bipush (v := nI 120) hx hb dX4_init_47 (by decide) ?_
  refine k_newi hx hb hq_3 hK hP hD hS hA (N' := 120) (by decide) (by decide) (by decide) (Nat.le_of_ble_eq_true rfl) (Nat.le_of_ble_eq_true rfl) dX4_init_49 (fun g_49 H hP hD hS => ?_)
  have hP : va_P G.1 vwCl [kO q0 4 [.int (nI 0), .ref g_7, .null, .null, .null, .null, .null], kC G g_7 8 (nR (peF wIni wIni)), kC G g_49 120 (nR (fun _ => 0))] H := hP
  have hD : va_D A [kO q0 4 [.int (nI 0), .ref g_7, .null, .null, .null, .null, .null], kC G g_7 8 (nR (peF wIni wIni)), kC G g_49 120 (nR (fun _ => 0))] := hD
  refine va_putF (D := G.1) (ci := 4) (v := .ref g_49) (ty := .array .int) (C := RX4) (T := TX4) (N := 7) hx hb hts hq_4 tyX4 tyX4_ok nmX4 hown hK.1 hP hD hS 0 rfl rfl 2 (by decide) hq_6 (fun _ h9 => h9) rfl hin rfl (by decide +kernel) rfl rfl (Nat.le_of_ble_eq_true rfl) dX4_init_51 (fun H locs hP hD hS => ?_)
  have hP : va_P G.1 vwCl [kO q0 4 [.int (nI 0), .ref g_7, .ref g_49, .null, .null, .null, .null], kC G g_7 8 (nR (peF wIni wIni)), kC G g_49 120 (nR (fun _ => 0))] H := hP
  have hD : va_D A [kO q0 4 [.int (nI 0), .ref g_7, .ref g_49, .null, .null, .null, .null], kC G g_7 8 (nR (peF wIni wIni)), kC G g_49 120 (nR (fun _ => 0))] := hD
  refine lv_aload_n hx hb dX4_init_54 rfl (lv_at hl 0 rfl) ?_
  refine lv_bipush (v := nI 120) hx hb dX4_init_55 (by decide) ?_
  refine k_newi hx hb hq_3 hK hP hD hS hA (N' := 120) (by decide) (by decide) (by decide) (Nat.le_of_ble_eq_true rfl) (Nat.le_of_ble_eq_true rfl) dX4_init_57 (fun g_57 H hP hD hS => ?_)
  have hP : va_P G.1 vwCl [kO q0 4 [.int (nI 0), .ref g_7, .ref g_49, .null, .null, .null, .null], kC G g_7 8 (nR (peF wIni wIni)), kC G g_49 120 (nR (fun _ => 0)), kC G g_57 120 (nR (fun _ => 0))] H := hP
  have hD : va_D A [kO q0 4 [.int (nI 0), .ref g_7, .ref g_49, .null, .null, .null, .null], kC G g_7 8 (nR (peF wIni wIni)), kC G g_49 120 (nR (fun _ => 0)), kC G g_57 120 (nR (fun _ => 0))] := hD
  refine va_putF (D := G.1) (ci := 4) (v := .ref g_57) (ty := .array .int) (C := RX4) (T := TX4) (N := 7) hx hb hts hq_4 tyX4 tyX4_ok nmX4 hown hK.1 hP hD hS 0 rfl rfl 3 (by decide) hq_7 (fun _ h9 => h9) rfl hin rfl (by decide +kernel) rfl rfl (Nat.le_of_ble_eq_true rfl) dX4_init_59 (fun H locs hP hD hS => ?_)
  have hP : va_P G.1 vwCl [kO q0 4 [.int (nI 0), .ref g_7, .ref g_49, .ref g_57, .null, .null, .null], kC G g_7 8 (nR (peF wIni wIni)), kC G g_49 120 (nR (fun _ => 0)), kC G g_57 120 (nR (fun _ => 0))] H := hP
  have hD : va_D A [kO q0 4 [.int (nI 0), .ref g_7, .ref g_49, .ref g_57, .null, .null, .null], kC G g_7 8 (nR (peF wIni wIni)), kC G g_49 120 (nR (fun _ => 0)), kC G g_57 120 (nR (fun _ => 0))] := hD
  refine lv_aload_n hx hb dX4_init_62 rfl (lv_at hl 0 rfl) ?_
  refine lv_bipush (v := nI 80) hx hb dX4_init_63 (by decide) ?_
  refine k_newi hx hb hq_3 hK hP hD hS hA (N' := 80) (by decide) (by decide) (by decide) (Nat.le_of_ble_eq_true rfl) (Nat.le_of_ble_eq_true rfl) dX4_init_65 (fun g_65 H hP hD hS => ?_)
  have hP : va_P G.1 vwCl [kO q0 4 [.int (nI 0), .ref g_7, .ref g_49, .ref g_57, .null, .null, .null], kC G g_7 8 (nR (peF wIni wIni)), kC G g_49 120 (nR (fun _ => 0)), kC G g_57 120 (nR (fun _ => 0)), kC G g_65 80 (nR (fun _ => 0))] H := hP
  have hD : va_D A [kO q0 4 [.int (nI 0), .ref g_7, .ref g_49, .ref g_57, .null, .null, .null], kC G g_7 8 (nR (peF wIni wIni)), kC G g_49 120 (nR (fun _ => 0)), kC G g_57 120 (nR (fun _ => 0)), kC G g_65 80 (nR (fun _ => 0))] := hD
  refine va_putF (D := G.1) (ci := 4) (v := .ref g_65) (ty := .array .int) (C := RX4) (T := TX4) (N := 7) hx hb hts hq_4 tyX4 tyX4_ok nmX4 hown hK.1 hP hD hS 0 rfl rfl 4 (by decide) hq_8 (fun _ h9 => h9) rfl hin rfl (by decide +kernel) rfl rfl (Nat.le_of_ble_eq_true rfl) dX4_init_67 (fun H locs hP hD hS => ?_)
  have hP : va_P G.1 vwCl [kO q0 4 [.int (nI 0), .ref g_7, .ref g_49, .ref g_57, .ref g_65, .null, .null], kC G g_7 8 (nR (peF wIni wIni)), kC G g_49 120 (nR (fun _ => 0)), kC G g_57 120 (nR (fun _ => 0)), kC G g_65 80 (nR (fun _ => 0))] H := hP
  have hD : va_D A [kO q0 4 [.int (nI 0), .ref g_7, .ref g_49, .ref g_57, .ref g_65, .null, .null], kC G g_7 8 (nR (peF wIni wIni)), kC G g_49 120 (nR (fun _ => 0)), kC G g_57 120 (nR (fun _ => 0)), kC G g_65 80 (nR (fun _ => 0))] := hD
  refine lv_aload_n hx hb dX4_init_70 rfl (lv_at hl 0 rfl) ?_
  refine lv_bipush (v := nI 8) hx hb dX4_init_71 (by decide) ?_
  refine k_newi hx hb hq_3 hK hP hD hS hA (N' := 8) (by decide) (by decide) (by decide) (Nat.le_of_ble_eq_true rfl) (Nat.le_of_ble_eq_true rfl) dX4_init_73 (fun g_73 H hP hD hS => ?_)
  have hP : va_P G.1 vwCl [kO q0 4 [.int (nI 0), .ref g_7, .ref g_49, .ref g_57, .ref g_65, .null, .null], kC G g_7 8 (nR (peF wIni wIni)), kC G g_49 120 (nR (fun _ => 0)), kC G g_57 120 (nR (fun _ => 0)), kC G g_65 80 (nR (fun _ => 0)), kC G g_73 8 (nR (fun _ => 0))] H := hP
  have hD : va_D A [kO q0 4 [.int (nI 0), .ref g_7, .ref g_49, .ref g_57, .ref g_65, .null, .null], kC G g_7 8 (nR (peF wIni wIni)), kC G g_49 120 (nR (fun _ => 0)), kC G g_57 120 (nR (fun _ => 0)), kC G g_65 80 (nR (fun _ => 0)), kC G g_73 8 (nR (fun _ => 0))] := hD
  refine va_putF (D := G.1) (ci := 4) (v := .ref g_73) (ty := .array .int) (C := RX4) (T := TX4) (N := 7) hx hb hts hq_4 tyX4 tyX4_ok nmX4 hown hK.1 hP hD hS 0 rfl rfl 5 (by decide) hq_9 (fun _ h9 => h9) rfl hin rfl (by decide +kernel) rfl rfl (Nat.le_of_ble_eq_true rfl) dX4_init_75 (fun H locs hP hD hS => ?_)
  have hP : va_P G.1 vwCl [kO q0 4 [.int (nI 0), .ref g_7, .ref g_49, .ref g_57, .ref g_65, .ref g_73, .null], kC G g_7 8 (nR (peF wIni wIni)), kC G g_49 120 (nR (fun _ => 0)), kC G g_57 120 (nR (fun _ => 0)), kC G g_65 80 (nR (fun _ => 0)), kC G g_73 8 (nR (fun _ => 0))] H := hP
  have hD : va_D A [kO q0 4 [.int (nI 0), .ref g_7, .ref g_49, .ref g_57, .ref g_65, .ref g_73, .null], kC G g_7 8 (nR (peF wIni wIni)), kC G g_49 120 (nR (fun _ => 0)), kC G g_57 120 (nR (fun _ => 0)), kC G g_65 80 (nR (fun _ => 0)), kC G g_73 8 (nR (fun _ => 0))] := hD
  refine lv_aload_n hx hb dX4_init_78 rfl (lv_at hl 0 rfl) ?_
  refine lv_iconst (v := nI 2) hx hb dX4_init_79 (by decide) ?_
  refine k_newi hx hb hq_3 hK hP hD hS hA (N' := 2) (by decide) (by decide) (by decide) (Nat.le_of_ble_eq_true rfl) (Nat.le_of_ble_eq_true rfl) dX4_init_80 (fun g_80 H hP hD hS => ?_)
  have hP : va_P G.1 vwCl [kO q0 4 [.int (nI 0), .ref g_7, .ref g_49, .ref g_57, .ref g_65, .ref g_73, .null], kC G g_7 8 (nR (peF wIni wIni)), kC G g_49 120 (nR (fun _ => 0)), kC G g_57 120 (nR (fun _ => 0)), kC G g_65 80 (nR (fun _ => 0)), kC G g_73 8 (nR (fun _ => 0)), kC G g_80 2 (nR (fun _ => 0))] H := hP
  have hD : va_D A [kO q0 4 [.int (nI 0), .ref g_7, .ref g_49, .ref g_57, .ref g_65, .ref g_73, .null], kC G g_7 8 (nR (peF wIni wIni)), kC G g_49 120 (nR (fun _ => 0)), kC G g_57 120 (nR (fun _ => 0)), kC G g_65 80 (nR (fun _ => 0)), kC G g_73 8 (nR (fun _ => 0)), kC G g_80 2 (nR (fun _ => 0))] := hD
  refine va_putF (D := G.1) (ci := 4) (v := .ref g_80) (ty := .array .int) (C := RX4) (T := TX4) (N := 7) hx hb hts hq_4 tyX4 tyX4_ok nmX4 hown hK.1 hP hD hS 0 rfl rfl 6 (by decide) hq_10 (fun _ h9 => h9) rfl hin rfl (by decide +kernel) rfl rfl (Nat.le_of_ble_eq_true rfl) dX4_init_82 (fun H locs hP hD hS => ?_)
  have hP : va_P G.1 vwCl [kO q0 4 [.int (nI 0), .ref g_7, .ref g_49, .ref g_57, .ref g_65, .ref g_73, .ref g_80], kC G g_7 8 (nR (peF wIni wIni)), kC G g_49 120 (nR (fun _ => 0)), kC G g_57 120 (nR (fun _ => 0)), kC G g_65 80 (nR (fun _ => 0)), kC G g_73 8 (nR (fun _ => 0)), kC G g_80 2 (nR (fun _ => 0))] H := hP
  have hD : va_D A [kO q0 4 [.int (nI 0), .ref g_7, .ref g_49, .ref g_57, .ref g_65, .ref g_73, .ref g_80], kC G g_7 8 (nR (peF wIni wIni)), kC G g_49 120 (nR (fun _ => 0)), kC G g_57 120 (nR (fun _ => 0)), kC G g_65 80 (nR (fun _ => 0)), kC G g_73 8 (nR (fun _ => 0)), kC G g_80 2 (nR (fun _ => 0))] := hD
  have hP := kP_swap hP 2 (nR (knF wIni wIni)) rfl rfl (fun j _ => congrArg (fun f : Nat → Nat => nR f j) kn_ini)
  have hD := kD_swap (e := .inl (G.2.1, 120, .inl (nR (knF wIni wIni)))) hD 2 rfl rfl
  have hP : va_P G.1 vwCl [kO q0 4 [.int (nI 0), .ref g_7, .ref g_49, .ref g_57, .ref g_65, .ref g_73, .ref g_80], kC G g_7 8 (nR (peF wIni wIni)), kC G g_49 120 (nR (knF wIni wIni)), kC G g_57 120 (nR (fun _ => 0)), kC G g_65 80 (nR (fun _ => 0)), kC G g_73 8 (nR (fun _ => 0)), kC G g_80 2 (nR (fun _ => 0))] H := hP
  have hD : va_D A [kO q0 4 [.int (nI 0), .ref g_7, .ref g_49, .ref g_57, .ref g_65, .ref g_73, .ref g_80], kC G g_7 8 (nR (peF wIni wIni)), kC G g_49 120 (nR (knF wIni wIni)), kC G g_57 120 (nR (fun _ => 0)), kC G g_65 80 (nR (fun _ => 0)), kC G g_73 8 (nR (fun _ => 0)), kC G g_80 2 (nR (fun _ => 0))] := hD
  have hP := kP_swap hP 3 (nR (plF wIni wIni)) rfl rfl (fun j _ => congrArg (fun f : Nat → Nat => nR f j) pl_ini)
  have hD := kD_swap (e := .inl (G.2.1, 120, .inl (nR (plF wIni wIni)))) hD 3 rfl rfl
  have hP : va_P G.1 vwCl [kO q0 4 [.int (nI 0), .ref g_7, .ref g_49, .ref g_57, .ref g_65, .ref g_73, .ref g_80], kC G g_7 8 (nR (peF wIni wIni)), kC G g_49 120 (nR (knF wIni wIni)), kC G g_57 120 (nR (plF wIni wIni)), kC G g_65 80 (nR (fun _ => 0)), kC G g_73 8 (nR (fun _ => 0)), kC G g_80 2 (nR (fun _ => 0))] H := hP
  have hD : va_D A [kO q0 4 [.int (nI 0), .ref g_7, .ref g_49, .ref g_57, .ref g_65, .ref g_73, .ref g_80], kC G g_7 8 (nR (peF wIni wIni)), kC G g_49 120 (nR (knF wIni wIni)), kC G g_57 120 (nR (plF wIni wIni)), kC G g_65 80 (nR (fun _ => 0)), kC G g_73 8 (nR (fun _ => 0)), kC G g_80 2 (nR (fun _ => 0))] := hD
  have hP := kP_swap hP 6 (nR (nuF 0 0)) rfl rfl (fun j _ => congrArg (fun f : Nat → Nat => nR f j) nu_ini)
  have hD := kD_swap (e := .inl (G.2.1, 2, .inl (nR (nuF 0 0)))) hD 6 rfl rfl
  have hP : va_P G.1 vwCl [kO q0 4 [.int (nI 0), .ref g_7, .ref g_49, .ref g_57, .ref g_65, .ref g_73, .ref g_80], kC G g_7 8 (nR (peF wIni wIni)), kC G g_49 120 (nR (knF wIni wIni)), kC G g_57 120 (nR (plF wIni wIni)), kC G g_65 80 (nR (fun _ => 0)), kC G g_73 8 (nR (fun _ => 0)), kC G g_80 2 (nR (nuF 0 0))] H := hP
  have hD : va_D A [kO q0 4 [.int (nI 0), .ref g_7, .ref g_49, .ref g_57, .ref g_65, .ref g_73, .ref g_80], kC G g_7 8 (nR (peF wIni wIni)), kC G g_49 120 (nR (knF wIni wIni)), kC G g_57 120 (nR (plF wIni wIni)), kC G g_65 80 (nR (fun _ => 0)), kC G g_73 8 (nR (fun _ => 0)), kC G g_80 2 (nR (nuF 0 0))] := hD
  have hP := kP_swap hP 5 (nR (bcN 0)) rfl rfl (fun j _ => congrArg (fun f : Nat → Nat => nR f j) bcN_0)
  have hD := kD_swap (e := .inl (G.2.1, 8, .inl (nR (bcN 0)))) hD 5 rfl rfl
  have hP : va_P G.1 vwCl [kO q0 4 [.int (nI 0), .ref g_7, .ref g_49, .ref g_57, .ref g_65, .ref g_73, .ref g_80], kC G g_7 8 (nR (peF wIni wIni)), kC G g_49 120 (nR (knF wIni wIni)), kC G g_57 120 (nR (plF wIni wIni)), kC G g_65 80 (nR (fun _ => 0)), kC G g_73 8 (nR (bcN 0)), kC G g_80 2 (nR (nuF 0 0))] H := hP
  have hD : va_D A [kO q0 4 [.int (nI 0), .ref g_7, .ref g_49, .ref g_57, .ref g_65, .ref g_73, .ref g_80], kC G g_7 8 (nR (peF wIni wIni)), kC G g_49 120 (nR (knF wIni wIni)), kC G g_57 120 (nR (plF wIni wIni)), kC G g_65 80 (nR (fun _ => 0)), kC G g_73 8 (nR (bcN 0)), kC G g_80 2 (nR (nuF 0 0))] := hD
  refine lv_iconst (v := nI 0) hx hb dX4_init_85 (by decide) ?_
  refine lv_istore_n (lv' := [(1, .int (nI 0)), (0, .ref q0)]) hx hb dX4_init_86 rfl hl (by decide) rfl (fun ls hl => ?_)
  have loop_87 : ∀ (fu_87 : Nat) (i : Nat), i ≤ 8 → 8 < i + fu_87 → ∀ (H : Heap) (locs : List Loc) (ls : Array Slot), va_P G.1 vwCl [kO q0 4 [.int (nI 0), .ref g_7, .ref g_49, .ref g_57, .ref g_65, .ref g_73, .ref g_80], kC G g_7 8 (nR (peF wIni wIni)), kC G g_49 120 (nR (knF wIni wIni)), kC G g_57 120 (nR (plF wIni wIni)), kC G g_65 80 (nR (fun _ => 0)), kC G g_73 8 (nR (bcN i)), kC G g_80 2 (nR (nuF 0 0))] H → va_D A [kO q0 4 [.int (nI 0), .ref g_7, .ref g_49, .ref g_57, .ref g_65, .ref g_73, .ref g_80], kC G g_7 8 (nR (peF wIni wIni)), kC G g_49 120 (nR (knF wIni wIni)), kC G g_57 120 (nR (plF wIni wIni)), kC G g_65 80 (nR (fun _ => 0)), kC G g_73 8 (nR (bcN i)), kC G g_80 2 (nR (nuF 0 0))] → va_S A s.heap H locs → lv_has ls 2 [(0, .ref q0), (1, .int (nI i))] → W p l e ({ frames := 1, cells := 6, slots := 338, locals := 12 } : Room) s m args below meth c H locs 6 338 Qs (F0 m 87 ls []) := by
    intro fu_87
    induction fu_87 with
    | zero =>
      intro i hi hf
      exact absurd hf (by omega)
    | succ fu_87 ih_87 =>
      intro i hi hf H locs ls hP hD hS hl
      refine lv_iload_n hx hb dX4_init_87 rfl (lv_at hl 1 rfl) ?_
      refine lv_bipush (v := nI 8) hx hb dX4_init_88 (by decide) ?_
      refine lv_icmp_ge (tgt := 107) hx hb dX4_init_90 (by decide) (fun c_90 => ?_) (fun c_90 => ?_)
      · have c_90 : 8 ≤ i := (nI_leI (a := 8) (b := i) (by omega) (by omega)).mp c_90
        have h9k : i = 8 := by omega
        rw [h9k] at hP hD
        have hP := kP_swap hP 5 (nR bIni) rfl rfl (fun j hj => bcN_8 hj)
        have hD := kD_swap (e := .inl (G.2.1, 8, .inl (nR bIni))) hD 5 rfl rfl
        have hP : va_P G.1 vwCl [kO q0 4 [.int (nI 0), .ref g_7, .ref g_49, .ref g_57, .ref g_65, .ref g_73, .ref g_80], kC G g_7 8 (nR (peF wIni wIni)), kC G g_49 120 (nR (knF wIni wIni)), kC G g_57 120 (nR (plF wIni wIni)), kC G g_65 80 (nR (fun _ => 0)), kC G g_73 8 (nR bIni), kC G g_80 2 (nR (nuF 0 0))] H := hP
        have hD : va_D A [kO q0 4 [.int (nI 0), .ref g_7, .ref g_49, .ref g_57, .ref g_65, .ref g_73, .ref g_80], kC G g_7 8 (nR (peF wIni wIni)), kC G g_49 120 (nR (knF wIni wIni)), kC G g_57 120 (nR (plF wIni wIni)), kC G g_65 80 (nR (fun _ => 0)), kC G g_73 8 (nR bIni), kC G g_80 2 (nR (nuF 0 0))] := hD
        exact k_vret (ws := [kO q0 4 [.int (nI 0), .null, .null, .null, .null, .null, .null]]) ((g_7, g_49, g_57, g_65, g_73, g_80)) hx hb hr hlocks hP hD hS hAe hQ (Nat.le_of_ble_eq_true rfl) (Nat.le_of_ble_eq_true rfl) dX4_init_107 (rfl) (trivial)
      · have c_90 : ¬ (8 ≤ i) := fun h9 => c_90 ((nI_leI (a := 8) (b := i) (by omega) (by omega)).mpr h9)
        refine lv_aload_n hx hb dX4_init_93 rfl (lv_at hl 0 rfl) ?_
        refine va_get (D := G.1) (ci := 4) (v := .ref g_73) (C := RX4) (T := TX4) (N := 7) hx hb hts hq_4 hown hK.1 hP 0 rfl rfl 5 (by decide) hq_9 (fun _ h9 => h9) rfl dX4_init_94 ?_
        refine lv_iload_n hx hb dX4_init_97 rfl (lv_at hl 1 rfl) ?_
        refine lv_bipush (v := nI 30) hx hb dX4_init_98 (by decide) ?_
        have hi_9 : i < 8 := by omega
        refine va_iast (D := G.1) hx hb hK.1 hP hD hS 5 0 rfl rfl (vp_in_nI hi_9 (by omega)) dX4_init_100 (fun H locs hP hD hS => ?_)
        rw [nR_upd (f := (bcN i)) (k := i) (v := 30) (by omega)] at hP hD
        have hP : va_P G.1 vwCl [kO q0 4 [.int (nI 0), .ref g_7, .ref g_49, .ref g_57, .ref g_65, .ref g_73, .ref g_80], kC G g_7 8 (nR (peF wIni wIni)), kC G g_49 120 (nR (knF wIni wIni)), kC G g_57 120 (nR (plF wIni wIni)), kC G g_65 80 (nR (fun _ => 0)), kC G g_73 8 (nR (updN (bcN i) i 30)), kC G g_80 2 (nR (nuF 0 0))] H := hP
        have hD : va_D A [kO q0 4 [.int (nI 0), .ref g_7, .ref g_49, .ref g_57, .ref g_65, .ref g_73, .ref g_80], kC G g_7 8 (nR (peF wIni wIni)), kC G g_49 120 (nR (knF wIni wIni)), kC G g_57 120 (nR (plF wIni wIni)), kC G g_65 80 (nR (fun _ => 0)), kC G g_73 8 (nR (updN (bcN i) i 30)), kC G g_80 2 (nR (nuF 0 0))] := hD
        refine lv_iinc (v := nI (i + 1)) (lv' := [(1, .int (nI (i + 1))), (0, .ref q0)]) hx hb dX4_init_101 hl (k := 1) rfl (nI_add i 1) (by decide) rfl (fun ls hl => ?_)
        refine lv_goto (tgt := 87) hx hb dX4_init_104 (by decide) ?_
        rw [bcN_s] at hP hD
        exact ih_87 (i + 1) (by omega) (by omega) _ _ _ hP hD hS (lv_sub hl [1, 0] rfl)
  exact loop_87 9 0 (by omega) (by omega) H locs ls hP hD hS (lv_sub hl [1, 0] rfl)
